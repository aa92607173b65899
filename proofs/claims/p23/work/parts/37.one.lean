/-! ONE STEP of an instruction of the heap, of a text, of Math -/
def aNx (e : aE) (cs : List aF) (pc : Nat) (A st : List aV) (F : List aFt) : Option aSS := some (((e, cs), pc, A, st), F)
def aP1 (G : aG) (Mo : List aMod) (ins : Instr) (q a b : Nat) (e : aE) (cs : List aF) (pc : Nat) (A st : List aV) (F : List aFt) : Option aSS := match ins with
  | .ldc _ => bif b == 0 then (match pKI[q]? with
      | some w => aNx e cs (pc + 2) A ((0, fC w.2.2.toInt) :: st) F
      | none => none) else aNx e cs (pc + 2) A ((1, fC ((8 + q : Nat) : Int)) :: st) F
  | .ldc_w _ => bif b == 0 then (match pKI[q]? with
      | some w => aNx e cs (pc + 3) A ((0, fC w.2.2.toInt) :: st) F
      | none => none) else none
  | .ldc2_w _ => match pKL[q]? with
    | some w => aNx e cs (pc + 3) A ((2, fC w.2.2.toInt) :: st) F
    | none => none
  | .getstatic _ => aNx e cs (pc + 3) A ((1, fC (a : Int)) :: st) F
  | .getfield _ => match st with
    | (1, r) :: s => match aGetf G a b e F r with
      | some (e', v, F') => aNx e' cs (pc + 3) A (v :: s) F'
      | none => none
    | _ => none
  | .putfield _ => match st with
    | v :: (1, r) :: s => match aPutf G Mo a b e cs F v r with
      | some F' => aNx e cs (pc + 3) A s F'
      | none => none
    | _ => none
  | .iaload => match st with
    | (0, i) :: (1, r) :: s => match aLdI G e cs F r i with
      | some (e', f, F') => aNx e' cs (pc + 1) A ((0, f) :: s) F'
      | none => none
    | _ => none
  | .baload => match st with
    | (0, i) :: (1, r) :: s => match aPl r with
      | some p => match G.1[p]? with
        | some (.inl (t, _, _)) => bif t == 2 || t == 3 then (match aEnts G p e cs i with
          | some en => match aRd p 0 i en.2.2.1.1 en.2.2.1.2 e F with
            | (e', f, F') => aNx e' cs (pc + 1) A ((0, f) :: s) F'
          | none => none) else none
        | _ => none
      | none => none
    | _ => none
  | .laload => match st with
    | (0, i) :: (1, r) :: s => match aPl r with
      | some p => match G.1[p]? with
        | some (.inl (1, n, _)) => bif iLe 0 (pLo e cs i) && iLe (pHi e cs i) ((n : Int) - 1) then aNx (e ++ [(lLO, lHI)]) cs (pc + 1) A ((2, fV e.length) :: s) F else none
        | _ => none
      | none => none
    | _ => none
  | .iastore => match st with
    | (0, v) :: (0, i) :: (1, r) :: s => match aStI G Mo 0 e cs F r i v with
      | some F' => aNx e cs (pc + 1) A s F'
      | none => none
    | _ => none
  | .bastore => match st with
    | (0, v) :: (0, i) :: (1, r) :: s => bif iLe (-128) (pLo e cs v) && iLe (pHi e cs v) 127 then (match aStI G Mo 2 e cs F r i v with
      | some F' => aNx e cs (pc + 1) A s F'
      | none => bif iLe 0 (pLo e cs v) && iLe (pHi e cs v) 1 then (match aStI G Mo 3 e cs F r i v with
        | some F' => aNx e cs (pc + 1) A s F'
        | none => none) else none) else none
    | _ => none
  | .lastore => match st with
    | (2, _) :: (0, i) :: (1, r) :: s => match aPl r with
      | some p => match G.1[p]? with
        | some (.inl (1, n, _)) => bif iLe 0 (pLo e cs i) && (iLe (pHi e cs i) ((n : Int) - 1) && mHas Mo p 0 (pLo e cs i) (pHi e cs i)) then aNx e cs (pc + 1) A s F else none
        | _ => none
      | none => none
    | _ => none
  | .arraylength => match st with
    | (1, r) :: s => match aLen G F r with
      | some f => aNx e cs (pc + 1) A ((0, f) :: s) F
      | none => none
    | _ => none
  | _ => none
section
variable {O : pOut} {G : aG} {Mo : List aMod} {ρ : List Int} {e : aE} {cs : List aF} {A st : List aV} {F : List aFt} {pc : Nat} {L : PL} {s : List Value} {es : PH}
def gSt (O : pOut) (ρ : List Int) (S : aSS) (r : pSt) : Prop := gP ρ S.1 r ∧ gFs O ρ r.2.2.2 S.2
/-- what a step comes to -/
def aTo (O : pOut) (G : aG) (Mo : List aMod) (ρ : List Int) (es : PH) (S : aSS) (r : pSt) : Prop := ∃ τ, gSt O (ρ ++ τ) S r ∧ hOK G.1 r.2.2.2 ∧ fr Mo es r.2.2.2
theorem aNx_ok {τ : List Int} {S : aSS} (hq : aNx e cs pc A st F = some S) (h : gE (ρ ++ τ) e) (hc : gC ρ cs) (hL : gL ρ A L) (hS : gS (ρ ++ τ) st s) (hT : hOK G.1 es) {es0 : PH} (hf : fr Mo es0 es) (hF : gFs O (ρ ++ τ) es F) : aTo O G Mo ρ es0 S (pc, L, s, es) := by
  cases hq
  exact ⟨τ, ⟨⟨h, gC_app τ hc, rfl, gL_app τ hL, hS⟩, hF⟩, hT, hf⟩
theorem aNx_ok0 {S : aSS} (hq : aNx e cs pc A st F = some S) (h : gE ρ e) (hc : gC ρ cs) (hL : gL ρ A L) (hS : gS ρ st s) (hT : hOK G.1 es) {es0 : PH} (hf : fr Mo es0 es) (hF : gFs O ρ es F) : aTo O G Mo ρ es0 S (pc, L, s, es) :=
  aNx_ok (τ := []) hq (by rw [List.append_nil]; exact h) hc hL (by rw [List.append_nil]; exact hS) hT hf (by rw [List.append_nil]; exact hF)
theorem vp_nar_bool {x : Int32} (h : x = 0 ∨ x = 1) : vp_nar .boolean x = x := by
  rcases h with rfl | rfl <;> rfl
theorem vp_nar_by {x : Int32} (h1 : -128 ≤ x.toInt) (h2 : x.toInt ≤ 127) : vp_nar .byte x = x := by
  rw [vp_nar_byte]
  apply Int32.toInt_inj.mp
  rw [Int8.toInt_toInt32, Int32.toInt_toInt8, Int.bmod_def]
  split <;> omega
set_option maxHeartbeats 8000000 in
theorem aP1_ok (hO : ∀ n g, O 7 = some (n, g) → n < 2147483648) (hG : gOK O G) (h : gE ρ e) (hc : gC ρ cs) (hL : gL ρ A L) (hS : gS ρ st s) (hT : hOK G.1 es) (hF : gFs O ρ es F) {ins : Instr} {q a b : Nat} {S : aSS} (hq : aP1 G Mo ins q a b e cs pc A st F = some S) (ini : Bool) :
    pS0 ins pc L s es = none ∧ pIsInv ins = false ∧ ∃ r, pS1 O ini ins q a b pc L s es = some r ∧ aTo O G Mo ρ es S r := by
  unfold aP1 at hq
  split at hq
  · -- ldc
    refine ⟨rfl, rfl, ?_⟩
    cases hb : b == 0 with
    | true =>
      rw [hb] at hq
      have hb' : b = 0 := by simpa using hb
      simp only [cond_true] at hq
      split at hq
      · rename_i w hw
        exact ⟨_, by simp only [pS1, hb', if_true, hw], aNx_ok0 hq h hc hL (s := .int w.2.2 :: s) ⟨⟨_, rfl, fC_ev⟩, hS⟩ hT (fr_refl _ _) hF⟩
      · cases hq
    | false =>
      rw [hb] at hq
      have hb' : ¬ b = 0 := by simpa using hb
      exact ⟨_, by simp only [pS1, hb', if_false], aNx_ok0 hq h hc hL (s := .ref (8 + q) :: s) ⟨⟨_, rfl, fC_ev⟩, hS⟩ hT (fr_refl _ _) hF⟩
  · -- ldc_w
    refine ⟨rfl, rfl, ?_⟩
    cases hb : b == 0 with
    | true =>
      rw [hb] at hq
      have hb' : b = 0 := by simpa using hb
      simp only [cond_true] at hq
      split at hq
      · rename_i w hw
        exact ⟨_, by simp only [pS1, hb', if_true, hw], aNx_ok0 hq h hc hL (s := .int w.2.2 :: s) ⟨⟨_, rfl, fC_ev⟩, hS⟩ hT (fr_refl _ _) hF⟩
      · cases hq
    | false => rw [hb] at hq; cases hq
  · -- ldc2_w
    refine ⟨rfl, rfl, ?_⟩
    split at hq
    · rename_i w hw
      exact ⟨_, by simp only [pS1, hw], aNx_ok0 hq h hc hL (s := .long w.2.2 :: s) ⟨⟨_, rfl, fC_ev⟩, hS⟩ hT (fr_refl _ _) hF⟩
    · cases hq
  · -- getstatic
    exact ⟨rfl, rfl, _, rfl, aNx_ok0 hq h hc hL (s := .ref a :: s) ⟨⟨_, rfl, fC_ev⟩, hS⟩ hT (fr_refl _ _) hF⟩
  · -- getfield
    refine ⟨rfl, rfl, ?_⟩
    split at hq
    · rename_i r st'
      obtain ⟨v1, s1, rfl, ⟨k, rfl, hk⟩, hs1⟩ := gS_cons hS
      split at hq
      · rename_i e' v F' hg
        obtain ⟨k1, vs, w, τ, q1, q2, q3, q4, q5⟩ := aGetf_ok h hT hF hk hg
        exact ⟨_, by simp only [pS1, k1, if_false, q1, if_true, q2], aNx_ok (τ := τ) hq q3 hc hL (s := w :: s1) ⟨q4, gS_app τ hs1⟩ hT (fr_refl _ _) q5⟩
      · cases hq
    · cases hq
  · -- putfield
    refine ⟨rfl, rfl, ?_⟩
    split at hq
    · rename_i v r st'
      obtain ⟨v1, s1, rfl, hv, hs1⟩ := gS_cons hS
      obtain ⟨v2, s2, rfl, ⟨k, rfl, hk⟩, hs2⟩ := gS_cons hs1
      split at hq
      · rename_i F' hg
        obtain ⟨k1, vs, ty, q1, q2, q3, q4, q5, q6, q7⟩ := aPutf_ok h hc hT hF hk hv hg
        refine ⟨_, ?_, aNx_ok0 hq h hc hL (es := es.set (k - 64) (.inr (a, vs.set b v1))) hs2 q5 q6 q7⟩
        cases v1 <;> simp [pS1, k1, q1, q2, q3, q4]
      · cases hq
    · cases hq
  · -- iaload
    refine ⟨rfl, rfl, ?_⟩
    split at hq
    · rename_i i r st'
      obtain ⟨v1, s1, rfl, ⟨x, rfl, hx⟩, hs1⟩ := gS_cons hS
      obtain ⟨v2, s2, rfl, ⟨k, rfl, hk⟩, hs2⟩ := gS_cons hs1
      split at hq
      · rename_i e' f F' hg
        obtain ⟨n, g, τ, q1, q2, q3, q4, q5⟩ := aLdI_ok hG h hc hT hF hk hx hg
        exact ⟨_, by simp only [pS1, q1, q2, if_true], aNx_ok (τ := τ) hq q3 hc hL (s := .int (g x.toNatClampNeg) :: s2) ⟨⟨_, rfl, q4⟩, gS_app τ hs2⟩ hT (fr_refl _ _) q5⟩
      · cases hq
    · cases hq
  · -- baload
    refine ⟨rfl, rfl, ?_⟩
    split at hq
    · rename_i i r st'
      obtain ⟨v1, s1, rfl, ⟨x, rfl, hx⟩, hs1⟩ := gS_cons hS
      obtain ⟨v2, s2, rfl, ⟨k, rfl, hk⟩, hs2⟩ := gS_cons hs1
      split at hq
      · rename_i p hp
        obtain ⟨k1, k2⟩ := aPl_ok hp hk
        split at hq
        · rename_i t n sp hT1
          cases ht : t == 2 || t == 3 with
          | false => rw [ht] at hq; cases hq
          | true =>
            rw [ht] at hq
            simp only [cond_true] at hq
            have ht' : t = 2 ∨ t = 3 := by simpa using ht
            split at hq
            · rename_i en hen
              obtain ⟨z, hz, hz2⟩ := hOK_get hT hT1
              obtain ⟨f, rfl, hf⟩ := eOK_inl hz2 (by omega)
              obtain ⟨b1, b2, b3, b4, -⟩ := aEnts_ok hG h hc hT1 hx hen
              obtain ⟨c1, c2⟩ := pIn_of (n := n) b1 (by omega)
              have hfx := hf _ b2
              have hxe : x.toNatClampNeg = x.toInt.toNat := rfl
              obtain ⟨τ, t1, t2, t3⟩ := aRd_ok (O := O) h hF (p := p) (kd := 0) (i := i) (lo := en.2.2.1.1) (hi := en.2.2.1.2) (x := f x.toNatClampNeg) (by rw [hxe]; omega)
                (fun g hg => by
                  obtain ⟨ty, n', g', k', q1, q2, q3⟩ := hg
                  rw [hz] at q1
                  cases q1
                  rw [hx] at q2
                  have : k' = x.toNatClampNeg := by
                    have := Option.some.inj q2; omega
                  subst this
                  exact q3)
                (fun ρ' g ⟨τ, hτ⟩ hg => ⟨t, n, f, x.toNatClampNeg, hz, by rw [hτ, c2]; exact evF_app τ hx, hg⟩)
              exact ⟨_, by simp only [pS1, k1, if_false, k2, hz, ht', c1, and_self, if_true], aNx_ok (τ := τ) hq t1 hc hL (s := .int (f x.toNatClampNeg) :: s2) ⟨⟨_, rfl, t2⟩, gS_app τ hs2⟩ hT (fr_refl _ _) t3⟩
            · cases hq
        · cases hq
      · cases hq
    · cases hq
  · -- laload
    refine ⟨rfl, rfl, ?_⟩
    split at hq
    · rename_i i r st'
      obtain ⟨v1, s1, rfl, ⟨x, rfl, hx⟩, hs1⟩ := gS_cons hS
      obtain ⟨v2, s2, rfl, ⟨k, rfl, hk⟩, hs2⟩ := gS_cons hs1
      split at hq
      · rename_i p hp
        obtain ⟨k1, k2⟩ := aPl_ok hp hk
        split at hq
        · rename_i n sp hT1
          cases hb : iLe 0 (pLo e cs i) && iLe (pHi e cs i) ((n : Int) - 1) with
          | false => rw [hb] at hq; cases hq
          | true =>
            rw [hb] at hq
            simp only [cond_true] at hq
            simp only [Bool.and_eq_true, iLe_iff] at hb
            have bx : pLo e cs i ≤ x.toInt ∧ x.toInt ≤ pHi e cs i := pLo_le h hc hx
            obtain ⟨z, hz, hz2⟩ := hOK_get hT hT1
            obtain ⟨f, rfl⟩ := eOK_inl1 hz2
            obtain ⟨c1, c2⟩ := pIn_of (i := x) (n := n) (by omega) (by omega)
            obtain ⟨t1, t2⟩ := aNew_ok h (i64_rng (f x.toNatClampNeg))
            exact ⟨_, by simp only [pS1, k1, if_false, k2, hz, c1, if_true], aNx_ok (τ := [(f x.toNatClampNeg).toInt]) hq t1 hc hL (s := .long (f x.toNatClampNeg) :: s2) ⟨⟨_, rfl, t2⟩, gS_app _ hs2⟩ hT (fr_refl _ _) (gFs_app _ hF)⟩
        · cases hq
      · cases hq
    · cases hq
  · -- iastore
    refine ⟨rfl, rfl, ?_⟩
    split at hq
    · rename_i v i r st'
      obtain ⟨v1, s1, rfl, ⟨y, rfl, hy⟩, hs1⟩ := gS_cons hS
      obtain ⟨v2, s2, rfl, ⟨x, rfl, hx⟩, hs2⟩ := gS_cons hs1
      obtain ⟨v3, s3, rfl, ⟨k, rfl, hk⟩, hs3⟩ := gS_cons hs2
      split at hq
      · rename_i F' hg
        obtain ⟨n, f, k1, q1, q2, q3, q4, q5⟩ := aStI_ok hG h hc hT hF (by omega) hk hx hy hg
        exact ⟨_, by simp only [pS1, k1, if_false, q1, q2, if_true], aNx_ok0 hq h hc hL (es := es.set (k - 64) (.inl (0, n, .inl (upd f x.toNatClampNeg y)))) hs3 q3 q4 q5⟩
      · cases hq
    · cases hq
  · -- bastore
    refine ⟨rfl, rfl, ?_⟩
    split at hq
    · rename_i v i r st'
      obtain ⟨v1, s1, rfl, ⟨y, rfl, hy⟩, hs1⟩ := gS_cons hS
      obtain ⟨v2, s2, rfl, ⟨x, rfl, hx⟩, hs2⟩ := gS_cons hs1
      obtain ⟨v3, s3, rfl, ⟨k, rfl, hk⟩, hs3⟩ := gS_cons hs2
      have by_ : pLo e cs v ≤ y.toInt ∧ y.toInt ≤ pHi e cs v := pLo_le h hc hy
      cases hb : iLe (-128) (pLo e cs v) && iLe (pHi e cs v) 127 with
      | false => rw [hb] at hq; cases hq
      | true =>
        rw [hb] at hq
        simp only [cond_true] at hq
        simp only [Bool.and_eq_true, iLe_iff] at hb
        split at hq
        · rename_i F' hg
          obtain ⟨n, f, k1, q1, q2, q3, q4, q5⟩ := aStI_ok hG h hc hT hF (by omega) hk hx hy hg
          refine ⟨_, ?_, aNx_ok0 hq h hc hL (es := es.set (k - 64) (.inl (2, n, .inl (upd f x.toNatClampNeg y)))) hs3 q3 q4 q5⟩
          simp only [pS1, k1, if_false, q1, q2, if_true, vp_nar_by (x := y) (by omega) (by omega)]
        · cases hb2 : iLe 0 (pLo e cs v) && iLe (pHi e cs v) 1 with
          | false => rw [hb2] at hq; cases hq
          | true =>
            rw [hb2] at hq
            simp only [cond_true] at hq
            simp only [Bool.and_eq_true, iLe_iff] at hb2
            split at hq
            · rename_i F' hg
              obtain ⟨n, f, k1, q1, q2, q3, q4, q5⟩ := aStI_ok hG h hc hT hF (by omega) hk hx hy hg
              refine ⟨_, ?_, aNx_ok0 hq h hc hL (es := es.set (k - 64) (.inl (3, n, .inl (upd f x.toNatClampNeg y)))) hs3 q3 q4 q5⟩
              simp only [pS1, k1, if_false, q1, q2, if_true, vp_nar_bool (x := y) (i32_01 (by omega) (by omega))]
            · cases hq
    · cases hq
  · -- lastore
    refine ⟨rfl, rfl, ?_⟩
    split at hq
    · rename_i fv i r st'
      obtain ⟨v1, s1, rfl, ⟨y, rfl, hy⟩, hs1⟩ := gS_cons hS
      obtain ⟨v2, s2, rfl, ⟨x, rfl, hx⟩, hs2⟩ := gS_cons hs1
      obtain ⟨v3, s3, rfl, ⟨k, rfl, hk⟩, hs3⟩ := gS_cons hs2
      split at hq
      · rename_i p hp
        obtain ⟨k1, k2⟩ := aPl_ok hp hk
        split at hq
        · rename_i n sp hT1
          cases hb : iLe 0 (pLo e cs i) && (iLe (pHi e cs i) ((n : Int) - 1) && mHas Mo p 0 (pLo e cs i) (pHi e cs i)) with
          | false => rw [hb] at hq; cases hq
          | true =>
            rw [hb] at hq
            simp only [cond_true] at hq
            simp only [Bool.and_eq_true, iLe_iff] at hb
            obtain ⟨d1, d2, d3⟩ := hb
            have bx : pLo e cs i ≤ x.toInt ∧ x.toInt ≤ pHi e cs i := pLo_le h hc hx
            obtain ⟨z, hz, hz2⟩ := hOK_get hT hT1
            obtain ⟨f, rfl⟩ := eOK_inl1 hz2
            obtain ⟨c1, c2⟩ := pIn_of (i := x) (n := n) (by omega) (by omega)
            have hmi : mIn Mo p 0 x.toNatClampNeg = true := mHas_ok d3 (by omega) (by omega)
            refine ⟨_, by simp only [pS1, k1, if_false, k2, hz, c1, if_true], aNx_ok0 hq h hc hL (es := es.set p (.inl (1, n, .inr (vp_updL f x.toNatClampNeg y)))) hs3 ?_ ?_ ?_⟩
            · refine hOK_set hT (fun tt htt => ?_)
              rw [hT1] at htt
              cases htt
              exact ⟨rfl, rfl, rfl⟩
            · refine fr_set hz ⟨rfl, rfl, fun j hj => ?_⟩
              unfold vp_updL
              rw [if_neg (fun hh => by rw [hh, hmi] at hj; cases hj)]
            · intro w hw
              have h9 := hF w hw
              unfold gF1 at h9 ⊢
              split at h9
              · obtain ⟨ty, n', g, j, q1, q2, q3⟩ := h9
                have hwp : ¬ p = w.1 := fun hh => by rw [← hh, hz] at q1; cases q1
                exact ⟨ty, n', g, j, by rw [List.getElem?_set_ne hwp]; exact q1, q2, q3⟩
              · exact h9
              · obtain ⟨c, vs, y', q1, q2, q3⟩ := h9
                have hwp : ¬ p = w.1 := fun hh => by rw [← hh, hz] at q1; cases q1
                exact ⟨c, vs, y', by rw [List.getElem?_set_ne hwp]; exact q1, q2, q3⟩
        · cases hq
      · cases hq
    · cases hq
  · -- arraylength
    refine ⟨rfl, rfl, ?_⟩
    split at hq
    · rename_i r st'
      obtain ⟨v1, s1, rfl, ⟨k, rfl, hk⟩, hs1⟩ := gS_cons hS
      split at hq
      · rename_i f hg
        obtain ⟨n, q1, q2⟩ := aLen_ok hO hG hT hF hk hg
        exact ⟨_, by simp only [pS1, q1], aNx_ok0 hq h hc hL (s := .int (Int32.ofNat n) :: s1) ⟨⟨_, rfl, q2⟩, hs1⟩ hT (fr_refl _ _) hF⟩
      · cases hq
    · cases hq
  · cases hq
end
