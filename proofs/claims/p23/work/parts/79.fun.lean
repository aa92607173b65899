/-! what the moves come to, as functions of a row of the board and of a row of what can be done -/
def offP (s f r : Int) (_ : PH) (v : Int) : Prop := v = offI s f r ∧ -1 ≤ v ∧ v ≤ 35
theorem off_spec {O : pOut} {d kc ks : Nat} {Q : pRes → Prop} {es : PH} {sq f r : Int} (hs : sh es) (h1 : 0 ≤ sq ∧ sq ≤ 35) (h2 : -2 ≤ f ∧ f ≤ 2) (h3 : -2 ≤ r ∧ r ≤ 2) (K : ∀ v, offP sq f r es v → Q (.inl (some (.int (zI v))), es, kc, ks)) :
    aW O (d + 1) 223 kc ks Q (0, [some (.int (zI sq)), some (.int (zI f)), some (.int (zI r)), none, none], [], es) := by
  refine s_off hs h1 h2 h3 (fun c1 => K _ ⟨?_, by omega, by omega⟩) (fun c1 c2 => K _ ⟨?_, by omega, by omega⟩) (fun c1 c2 c3 => K _ ⟨?_, by omega, by omega⟩) (fun c1 c2 c3 c4 => K _ ⟨?_, by omega, by omega⟩) (fun c1 c2 c3 c4 => K _ ⟨?_, by omega, by omega⟩)
  · unfold offI; rw [if_pos c1]
  · unfold offI; rw [if_neg c1, if_pos c2]
  · unfold offI; rw [if_neg c1, if_neg c2, if_pos c3]
  · unfold offI; rw [if_neg c1, if_neg c2, if_neg c3, if_pos c4]
  · unfold offI; rw [if_neg c1, if_neg c2, if_neg c3, if_neg c4]
/-- one step to leap -/
def al1 (row : Nat → Int) (fm f r : Int) (C : Nat → Int32) : Nat → Int32 := algF row fm f r 0 1 fm C
def leF (row : Nat → Int) (fm : Int) (C : Nat → Int32) : Nat → Int32 :=
  al1 row fm 2 1 (al1 row fm 2 (-1) (al1 row fm 1 2 (al1 row fm 1 (-2) (al1 row fm (-1) 2 (al1 row fm (-1) (-2) (al1 row fm (-2) 1 (al1 row fm (-2) (-1) C)))))))
def leapsP (dp fm : Int) (es es' : PH) : Prop := canP dp.toNat (leF (brow es dp.toNat) fm (crow es dp.toNat)) es es'
def biS (row : Nat → Int) (fm ah f : Int) (C : Nat → Int32) : Nat → Int32 := if offI fm f ah < 0 then C else if row (offI fm f ah).toNat < 0 then C else al1 row fm f ah C
def bitesP (dp fm ah : Int) (es es' : PH) : Prop := canP dp.toNat (biS (brow es dp.toNat) fm ah 1 (biS (brow es dp.toNat) fm ah (-1) (crow es dp.toNat))) es es'
/-- one more transformation of the row -/
theorem canP_next {D : Nat} {g : Nat → Int32} {F : (Nat → Int) → (Nat → Int32) → (Nat → Int32)} {a b c : PH} (hs : sh a) (h1 : canP D g a b) (h2 : canP D (F (brow b D) (crow b D)) b c) : canP D (F (brow a D) g) a c := by
  rw [canP_brow hs h1 D, h1.2.2.2] at h2
  exact canP_trans h1 h2
