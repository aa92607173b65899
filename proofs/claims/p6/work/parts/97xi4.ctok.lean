/-! MEASURE, by the document's tokens; printed by wip/rel/meas.py -/
/-! the class's reader of MEASURE's text: the tokens tracked -/
def kT (es : PH) : Nat := (gI es 3 7).toInt.toNat
def tkH (R : Nat → Int32) (n cn : Nat) (es : PH) : Prop := ((∀ k, k < 400 → -128 ≤ zR R k ∧ zR R k ≤ 127) ∧ n ≤ 400) ∧ tkS R n cn (kT es) es
def kpH (es es' : PH) : Prop := gI es' 3 3 = gI es 3 3 ∧ gI es' 3 4 = gI es 3 4
def emHP (R : Nat → Int32) (n cn : Nat) (_ : Int) (es es' : PH) : Prop := sh es' ∧ hOK tT es' ∧ tkH R n cn es' ∧ kT es' = kT es ∧ kpH es es' ∧ (gI es' 3 8).toInt = (gI es 3 8).toInt
def paHP (R : Nat → Int32) (n cn : Nat) (es es' : PH) : Prop := sh es' ∧ hOK tT es' ∧ tkH R n cn es' ∧ kT es' = kT es + 1 ∧ kpH es es' ∧ -3000 ≤ (gI es' 3 8).toInt ∧ (gI es' 3 8).toInt ≤ 999
def flHP (R : Nat → Int32) (n cn : Nat) (es es' : PH) (v : Int) : Prop := sh es' ∧ hOK tT es' ∧ tkH R n cn es' ∧ v = 0 ∧ (gI es' 3 4).toInt = (zPs (zR R) n (kT es) : Nat)
theorem kpH_t {a b c : PH} (h1 : kpH a b) (h2 : kpH b c) : kpH a c := ⟨h2.1.trans h1.1, h2.2.trans h1.2⟩
theorem kpH_r (a : PH) : kpH a a := ⟨rfl, rfl⟩
theorem emH_f {R : Nat → Int32} {n cn : Nat} {x : Int} {es es' : PH} (h : emHP R n cn x es es') : (gI es' 3 8).toInt = (gI es 3 8).toInt := h.2.2.2.2.2
theorem paH_f {R : Nat → Int32} {n cn : Nat} {es es' : PH} (h : paHP R n cn es es') : -3000 ≤ (gI es' 3 8).toInt ∧ (gI es' 3 8).toInt ≤ 999 := h.2.2.2.2.2
theorem flH_v {R : Nat → Int32} {n cn : Nat} {v : Int} {es es' : PH} (h : flHP R n cn es es' v) : v = 0 := h.2.2.2.1
theorem tkS_k {R : Nat → Int32} {n cn k : Nat} {es : PH} (h : tkS R n cn k es) : kT es = k := by
  unfold kT
  rw [h.2.2.2.2.2.1]
  exact Int.toNat_natCast k
theorem tkH_of {R : Nat → Int32} {n cn k : Nat} {es : PH} (hb : (∀ k, k < 400 → -128 ≤ zR R k ∧ zR R k ≤ 127) ∧ n ≤ 400) (h : tkS R n cn k es) : tkH R n cn es := ⟨hb, by rw [tkS_k h]; exact h⟩
theorem tkH_tok {R : Nat → Int32} {n cn : Nat} {es : PH} (h : tkH R n cn es) : (gI es 3 8).toInt = zCod (zR R) n (zPs (zR R) n (kT es)) := h.2.2.2.2.2.2.2
theorem tkH_le {R : Nat → Int32} {n cn : Nat} {es : PH} (h : tkH R n cn es) : kT es ≤ cn ∧ cn ≤ 400 := ⟨h.2.2.2.2.2.1, h.2.2.2.2.1⟩
theorem tkH_bd {R : Nat → Int32} {n cn : Nat} {es : PH} (h : tkH R n cn es) : -3000 ≤ (gI es 3 8).toInt ∧ (gI es 3 8).toInt ≤ 999 := tkS_bd h.1.1 h.1.2 h.2
theorem tkH_lt {R : Nat → Int32} {n cn : Nat} {es : PH} (h : tkH R n cn es) (ht : ¬ (gI es 3 8).toInt = -2000) : kT es < cn := tkS_lt h.2 ht
/-- at the last token the text's end is looked at -/
theorem tkH_end {R : Nat → Int32} {n cn : Nat} {es : PH} (h : tkH R n cn es) (hk : cn ≤ kT es) : (gI es 3 8).toInt = -2000 := by
  have h1 := h.2.2.2.2.2.1
  have h2 := tkH_tok h
  rw [show kT es = cn by omega, h.2.2.1, zCod_end (Nat.le_refl n)] at h2
  exact h2
theorem zPs_nn {c : Nat → Int} {n k : Nat} : zPs c n (k + 1) = zNn c n (zPs c n k) := rfl
section
variable {O : pOut} {d kc ks : Nat} {Q : pRes → Prop} {es : PH} {R : Nat → Int32} {n cn : Nat}
theorem emH {x : Int} (_ : sh es) (hT : hOK tT es) (hr : tkH R n cn es) (K : ∀ es', emHP R n cn x es es' → Q (.inl none, es', kc, ks)) : aW O (d + 1) 90 kc ks Q (0, [some (.ref 67), some (.int (zI x))], [], es) := by
  refine s_em90 (d := d) (sh_of hT) hT (fun v1 e1 es2 p2 v3 e3 es4 e4 => ?_)
  have hT4 : hOK tT es4 := by rw [e4]; exact hOK_sI p2.2.1 (p := 3) (b := 2) (lo := iLO) (hi := iHI) rfl rfl (i32_rng _)
  have g : ∀ q b, q ≠ 3 ∨ b ≠ 2 → gI es4 q b = gI es q b := fun q b h => by rw [e4, gI_sI_ne (by omega), p2.2.2.1]
  have hq : qS es es4 := ⟨hT4, fun q b h => g q b (by omega), by rw [e4, gA_sI, p2.2.2.2 5 (by decide)], by rw [e4, gA_sI, p2.2.2.2 6 (by decide)]⟩
  have ht := tkS_q hr.2 hq
  exact K es4 ⟨sh_of hT4, hT4, tkH_of hr.1 ht, tkS_k ht, ⟨g 3 3 (Or.inr (by decide)), g 3 4 (Or.inr (by decide))⟩, by rw [g 3 8 (Or.inr (by decide))]⟩
theorem paH (_ : sh es) (hT : hOK tT es) (hr : tkH R n cn es) (hk2 : (gI es 3 8).toInt ≠ -2000) (K : ∀ es', paHP R n cn es es' → Q (.inl none, es', kc, ks)) : aW O (d + 1) 89 kc ks Q (0, [some (.ref 67)], [], es) := by
  have hk := tkH_lt hr hk2
  have hb := hr.1
  obtain ⟨k, hkk⟩ : ∃ k, k = kT es := ⟨_, rfl⟩
  have hr2 := hr.2
  rw [← hkk] at hr2 hk
  obtain ⟨h1, h2, h3, h4, h5, h6, h7⟩ := hr2
  refine s_pa0 (d := d + 1) (sh_of hT) ⟨by omega, by omega⟩ hT (fun v1 e1 es2 e2 => ?_)
  have hT2 : hOK tT es2 := by rw [e2]; exact hOK_sI hT (p := 3) (b := 7) (lo := iLO) (hi := iHI) rfl rfl (i32_rng _)
  have hz : (zI (v1 + 1)).toInt = v1 + 1 := zI_toInt (by unfold i32 iLO iHI; omega)
  have h27 : (gI es2 3 7).toInt = (k : Int) + 1 := by
    rw [e2, gI_sI (sh_of hT) (p := 3) (b := 7) rfl (by decide), hz]
    omega
  refine s_pa10 (d := d) (sh_of hT2) ⟨by omega, by omega⟩ hT2 (fun v3 e3 h8 => by omega) (fun v3 e3 h8 v4 e4 v5 p5 es6 e6 => ?_)
  have hT6 : hOK tT es6 := by rw [e6]; exact hOK_sI hT2 (p := 3) (b := 8) (lo := iLO) (hi := iHI) rfl rfl (i32_rng _)
  have hv : v4.toNat = k + 1 := by omega
  have h9 : v5 = (gA es2 5 v4.toNat).toInt := p5
  have ht : tkS R n cn (k + 1) es6 := by
    refine ⟨fun j hj => ?_, h2, h3, h4, by omega, ?_, ?_⟩
    · rw [e6, e2, gA_sI, gA_sI, gA_sI, gA_sI]
      exact h1 j hj
    · rw [e6, gI_sI_ne (Or.inr (by decide)), h27]
      omega
    · rw [e6, gI_sI (sh_of hT2) (p := 3) (b := 8) rfl (by decide), h9, zI_toInt (i32_rng _), hv, e2, gA_sI]
      exact (h1 (k + 1) (by omega)).1
  have hh := tkH_of hb ht
  exact K es6 ⟨sh_of hT6, hT6, hh, by rw [tkS_k ht, hkk], ⟨by rw [e6, gI_sI_ne (Or.inr (by decide)), e2, gI_sI_ne (Or.inr (by decide))], by rw [e6, gI_sI_ne (Or.inr (by decide)), e2, gI_sI_ne (Or.inr (by decide))]⟩, tkH_bd hh⟩
theorem flH (_ : sh es) (hT : hOK tT es) (hr : tkH R n cn es) (K : ∀ es' v, flHP R n cn es es' v → Q (.inl (some (.int (zI v))), es', kc, ks)) : aW O (d + 1) 88 kc ks Q (0, [some (.ref 67)], [], es) := by
  have hb := hr.1
  obtain ⟨k, hkk⟩ : ∃ k, k = kT es := ⟨_, rfl⟩
  have hr2 := hr.2
  rw [← hkk] at hr2
  obtain ⟨h1, h2, h3, h4, h5, h6, h7⟩ := hr2
  refine s_fl0 (d := d) (sh_of hT) ⟨by omega, by omega⟩ hT (fun v1 e1 v2 p2 es3 e3 => ?_)
  have hT3 : hOK tT es3 := by rw [e3]; exact hOK_sI hT (p := 3) (b := 4) (lo := iLO) (hi := iHI) rfl rfl (i32_rng _)
  have ht : tkS R n cn k es3 := by
    refine ⟨fun j hj => ?_, h2, h3, h4, h5, ?_, ?_⟩
    · rw [e3, gA_sI, gA_sI]; exact h1 j hj
    · rw [e3, gI_sI_ne (Or.inr (by decide))]; exact h6
    · rw [e3, gI_sI_ne (Or.inr (by decide))]; exact h7
  refine K es3 0 ⟨sh_of hT3, hT3, tkH_of hb ht, rfl, ?_⟩
  have hv : v1.toNat = k := by omega
  have h8 : v2 = (gA es 6 v1.toNat).toInt := p2
  rw [e3, gI_sI (sh_of hT) (p := 3) (b := 4) rfl (by decide), h8, zI_toInt (i32_rng _), hv, ← hkk]
  exact (h1 k h5).2
end
/-- a reader of the class whose end, or fault, is X -/
def mrP (X : Nat × Bool) (R : Nat → Int32) (n cn : Nat) (es es' : PH) (v : Int) : Prop := hOK tT es' ∧ tkH R n cn es' ∧ ((v = 1 ∧ X.2 = true ∧ X.1 = zPs (zR R) n (kT es') ∧ kpH es es' ∧ kT es ≤ kT es') ∨ (v = 0 ∧ X.2 = false ∧ (gI es' 3 4).toInt = (X.1 : Nat)))
theorem mrP_v {X : Nat × Bool} {R : Nat → Int32} {n cn : Nat} {es es' : PH} {v : Int} (h : mrP X R n cn es es' v) : v = 0 ∨ v = 1 := by
  rcases h.2.2 with ⟨h, -⟩ | ⟨h, -⟩
  · exact Or.inr h
  · exact Or.inl h
theorem mrP_y {X : Nat × Bool} {R : Nat → Int32} {n cn : Nat} {es es' : PH} {v : Int} (h : mrP X R n cn es es' v) (hv : ¬ v = 0) : X.2 = true ∧ X.1 = zPs (zR R) n (kT es') ∧ kpH es es' ∧ kT es ≤ kT es' := by
  rcases h.2.2 with ⟨-, h⟩ | ⟨h, -⟩
  · exact h
  · exact absurd h hv
theorem mrP_n {X : Nat × Bool} {R : Nat → Int32} {n cn : Nat} {es es' : PH} {v : Int} (h : mrP X R n cn es es' v) (hv : v = 0) : X.2 = false ∧ (gI es' 3 4).toInt = (X.1 : Nat) := by
  rcases h.2.2 with ⟨h1, -⟩ | ⟨-, h⟩
  · omega
  · exact h
theorem mrP_ok {X : Nat × Bool} {R : Nat → Int32} {n cn b : Nat} {es es' : PH} (hX : X = (b, true)) (hT : hOK tT es') (h : tkH R n cn es') (hb : b = zPs (zR R) n (kT es')) (hk : kpH es es') (hle : kT es ≤ kT es') : mrP X R n cn es es' 1 := by
  rw [hX]
  exact ⟨hT, h, Or.inl ⟨rfl, rfl, hb, hk, hle⟩⟩
theorem mrP_no {X : Nat × Bool} {R : Nat → Int32} {n cn b : Nat} {v : Int} {es es1 es' : PH} (hX : X = (b, false)) (h : flHP R n cn es1 es' v) (hb : b = zPs (zR R) n (kT es1)) : mrP X R n cn es es' v := by
  rw [hX]
  exact ⟨h.2.1, h.2.2.1, Or.inr ⟨h.2.2.2.1, rfl, by rw [hb]; exact h.2.2.2.2⟩⟩
