/-! A METHOD AGAINST ITS CONTRACT: cuts with patterns and measures -/
/-- a place in the code where the run is cut: the pattern, and a measure that falls from cut to cut -/
abbrev aCut : Type := Nat × (aE × List aF) × List aV × List aV × List aFt × aF × List (Nat × Nat × Nat)
/-- fields that are read ahead of a fit: place, class, field -/
def aTouch (G : aG) : List (Nat × Nat × Nat) → aE → List aFt → Option (aE × List aFt)
  | [], e, F => some (e, F)
  | t :: r, e, F => match aGetf G t.2.1 t.2.2 e F (fC (t.1 : Int)) with
    | some (e', _, F') => aTouch G r e' F'
    | none => none
/-- changes that spare what is kept -/
def mFree (P : List aMod) (m : aMod) : Bool := P.all (fun p => !(p.1 == m.1 && p.2.1 == m.2.1) || (Nat.ble m.2.2.2 p.2.2.1 || Nat.ble p.2.2.2 m.2.2.1))
def aMat (nv : Nat) (eP : aE) (csP : List aF) (AP : List aV) (FP : List aFt) (e : aE) (cs : List aF) (A : List aV) (F : List aFt) (k : List aF → Bool) : Bool := match aFit nv eP csP AP FP e cs A F with
  | some θ => Nat.ble nv θ.length && ((List.range nv).all (fun x => θ.getD x (fC 0) == fV x) && k θ)
  | none => false
def ckFall (m : Option aF) (e : aE) (cs : List aF) (m' : aF) (θ : List aF) : Bool := match m with
  | none => true
  | some m => iLe 1 (pLo e cs (fAdd (-1) m (fSub θ m')))
def ckRes (G : aG) (nv : Nat) (cuts : List aCut) (outs : List aOut) (m : Option aF) (r : aRes) : Bool := match r with
  | (0, (((e, cs), pc, A, st), F), kc, ks) => kc == 0 && (ks == 0 && cuts.any (fun q => q.1 == pc && (q.2.2.1.length == A.length && (match aTouch G q.2.2.2.2.2.2 e F with
      | some (e', F') => aMat nv q.2.1.1 q.2.1.2 (q.2.2.1 ++ q.2.2.2.1) q.2.2.2.2.1 e' cs (A ++ st) F' (ckFall m e' cs q.2.2.2.2.2.1)
      | none => false))))
  | (1, (((e, cs), _, _, st), F), kc, ks) => outs.any (fun o => Nat.ble kc o.2.2.2.1 && (Nat.ble ks o.2.2.2.2 && (match o.2.1.1, st with
    | 0, [] => aMat nv o.1.1 o.1.2 [] o.2.2.1 e cs [] F (fun _ => true)
    | 1, [v] => aMat nv o.1.1 o.1.2 [o.2.1.2] o.2.2.1 e cs [v] F (fun _ => true)
    | _, _ => false)))
  | (x + 2, (((e, cs), _, _, _), F), kc, ks) => outs.any (fun o => Nat.ble (kc + 1) o.2.2.2.1 && (Nat.ble (ks + 6) o.2.2.2.2 && (o.2.1.1 == x + 2 && aMat nv o.1.1 o.1.2 [] o.2.2.1 e cs [] F (fun _ => true))))
def ckRun (G : aG) (P : List aMod) (CL : List aCon) (inl : List (Nat × Bool)) (fuel : Nat) (c : aCon) (row : pMrow) (cuts : List aCut) (m : Option aF) (S : aSS) : Bool := match aRun G CL inl (c.2.2.2.2.2.1.filter (mFree P)) c.2.2.2.2.2.1 fuel c.2.1 c.1 row (fun pc => cuts.any (fun q => q.1 == pc)) 0 0 S with
  | some R => R.all (ckRes G c.2.2.1.1.length cuts c.2.2.2.2.2.2 m)
  | none => false
def ckMeth (G : aG) (P : List aMod) (CL : List aCon) (inl : List (Nat × Bool)) (fuel : Nat) (c : aCon) (row : pMrow) (cuts : List aCut) : Bool := (aCat c.2.2.2.1).isSome && (ckRun G P CL inl fuel c row cuts none ((c.2.2.1, 0, aEntry c.2.2.2.1 row.2.2.1, []), c.2.2.2.2.1) &&
  cuts.all (fun q => fWf q.2.1.1.length q.2.2.2.2.2.1 && (iLe 0 (pLo q.2.1.1 q.2.1.2 q.2.2.2.2.2.1) && ckRun G P CL inl fuel c row cuts (some q.2.2.2.2.2.1) ((q.2.1, q.1, q.2.2.1, q.2.2.2.1), q.2.2.2.2.1))))
section
variable {O : pOut} {G : aG} {e : aE} {cs : List aF}
theorem cVs_split {θ : List aF} : ∀ {a c b d : List aV}, a.length = c.length → cVs e cs θ (a ++ b) (c ++ d) = true → cVs e cs θ a c = true ∧ cVs e cs θ b d = true
  | [], [], b, d, _, h => ⟨rfl, h⟩
  | x :: a, y :: c, b, d, hl, h => by
    simp only [List.cons_append, cVs, Bool.and_eq_true] at h
    obtain ⟨h1, h2⟩ := cVs_split (by simpa using hl) h.2
    exact ⟨by simp only [cVs, Bool.and_eq_true]; exact ⟨h.1, h1⟩, h2⟩
  | [], _ :: _, _, _, hl, _ => by simp at hl
  | _ :: _, [], _, _, hl, _ => by simp at hl
theorem aMat_ok {ρ τ : List Int} (h : gE (ρ ++ τ) e) (hc : gC (ρ ++ τ) cs) {es : PH} {F : List aFt} (hF : gFs O (ρ ++ τ) es F) {nv : Nat} (hn : ρ.length = nv) {eP : aE} {csP : List aF} {AP A : List aV} {FP : List aFt} {k : List aF → Bool} (hq : aMat nv eP csP AP FP e cs A F k = true) :
    ∃ θ τ', k θ = true ∧ (ρ ++ τ').length = θ.length ∧ (∀ x v, (ρ ++ τ')[x]? = some v → evF (ρ ++ τ) (θ.getD x (fC 0)) = some v) ∧ gE (ρ ++ τ') eP ∧ gC (ρ ++ τ') csP ∧ gFs O (ρ ++ τ') es FP ∧ cVs e cs θ AP A = true := by
  unfold aMat at hq
  split at hq
  · rename_i θ hfit
    obtain ⟨ρ', h1, h2, h3, h4, h5, h6⟩ := aFit_ok h hc hF hfit
    simp only [Bool.and_eq_true, Nat.ble_eq] at hq
    obtain ⟨q1, q2, q3⟩ := hq
    have hpre : ρ' = ρ ++ ρ'.drop nv := by
      have ht : ρ'.take nv = ρ := by
        apply List.ext_getElem?
        intro x
        by_cases hx : x < nv
        · rw [List.getElem?_take_of_lt hx]
          have hv : ρ'[x]? = some (ρ'[x]'(by omega)) := List.getElem?_eq_getElem (by omega)
          have h9 := h2 x _ hv
          have h10 : θ.getD x (fC 0) = fV x := by simpa using List.all_eq_true.mp q2 x (List.mem_range.mpr hx)
          rw [h10] at h9
          have hr : ρ[x]? = some (ρ[x]'(by omega)) := List.getElem?_eq_getElem (by omega)
          rw [fV_ev (v := ρ[x]'(by omega)) (by rw [List.getElem?_append_left (by omega)]; exact hr)] at h9
          rw [hv, hr, ← h9]
        · rw [List.getElem?_eq_none (by rw [List.length_take]; omega), List.getElem?_eq_none (by omega)]
      have h9 := List.take_append_drop nv ρ'
      rw [ht] at h9
      exact h9.symm
    refine ⟨θ, ρ'.drop nv, q3, ?_⟩
    rw [← hpre]
    exact ⟨h1, h2, h3, h4, h5, h6⟩
  · cases hq
theorem aTouch_ok {es : PH} (hT : hOK G.1 es) : ∀ {l : List (Nat × Nat × Nat)} {e : aE} {F : List aFt} {e' : aE} {F' : List aFt}, aTouch G l e F = some (e', F') → ∀ {ρ : List Int}, gE ρ e → gFs O ρ es F → ∃ τ, gE (ρ ++ τ) e' ∧ gFs O (ρ ++ τ) es F'
  | [], e, F, e', F', h, ρ, hE, hF => by
    simp only [aTouch, Option.some.injEq, Prod.mk.injEq] at h
    obtain ⟨rfl, rfl⟩ := h
    exact ⟨[], by rw [List.append_nil]; exact ⟨hE, hF⟩⟩
  | t :: r, e, F, e', F', h, ρ, hE, hF => by
    simp only [aTouch] at h
    split at h
    · rename_i e1 v F1 h1
      obtain ⟨-, vs, w, τ, -, -, q3, -, q5⟩ := aGetf_ok hE hT hF (r := fC (t.1 : Int)) (k := t.1) fC_ev h1
      obtain ⟨τ', r1, r2⟩ := aTouch_ok hT h q3 q5
      exact ⟨τ ++ τ', by rw [← List.append_assoc]; exact ⟨r1, r2⟩⟩
    · cases h
theorem mSub_filter {P : List aMod} (M : List aMod) : mSub (M.filter (mFree P)) M = true := by
  unfold mSub
  rw [List.all_eq_true]
  intro a ha
  rw [List.any_eq_true]
  refine ⟨a, (List.mem_filter.mp ha).1, ?_⟩
  simp
set_option maxHeartbeats 4000000 in
theorem ckMeth_ok (hO : ∀ n g, O 7 = some (n, g) → n < 2147483648) (hG : gOK O G) {CL : List aCon} {I : PH → Prop} (hCL : ∀ c ∈ CL, conOK O G I c) {P : List aMod} (hP : ∀ M : List aMod, M.all (mFree P) = true → ∀ es es', fr M es es' → I es → I es') {inl : List (Nat × Bool)} {fuel : Nat} {c : aCon} {row : pMrow} {cuts : List aCut} (hrow : pM[c.1]? = some row) (hck : ckMeth G P CL inl fuel c row cuts = true) : conOK O G I c := by
  refine ⟨row, hrow, fun d hd ρ vs es hE hC hS hT hI0 hF => ?_⟩
  have hI : ∀ es es', fr (c.2.2.2.2.2.1.filter (mFree P)) es es' → I es → I es' := hP _ (List.all_eq_true.mpr fun m hm => (List.mem_filter.mp hm).2)
  unfold ckMeth at hck
  simp only [Bool.and_eq_true] at hck
  obtain ⟨hcat, hent, hcuts⟩ := hck
  obtain ⟨m0, hm0⟩ := Option.isSome_iff_exists.mp hcat
  have hnv : ρ.length = c.2.2.1.1.length := hE.1
  refine aW_mono hd (fun _ h => h) ?_
  -- one run: all its ends, given what holds at the cuts it comes to
  have run : ∀ (m : Option aF) (S : aSS), ckRun G P CL inl fuel c row cuts m S = true → ∀ (τ : List Int) (σ : pSt), gSt O (ρ ++ τ) S σ → hOK G.1 σ.2.2.2 → I σ.2.2.2 → fr c.2.2.2.2.2.1 es σ.2.2.2 →
      (∀ q ∈ cuts, ∀ τ' σ' M', gSt O (ρ ++ τ') ((q.2.1, q.1, q.2.2.1, q.2.2.2.1), q.2.2.2.2.1) σ' → hOK G.1 σ'.2.2.2 → I σ'.2.2.2 → fr c.2.2.2.2.2.1 es σ'.2.2.2 → evF (ρ ++ τ') q.2.2.2.2.2.1 = some M' → (∀ mm M, m = some mm → evF (ρ ++ τ) mm = some M → M' < M) → aW O c.2.1 c.1 0 0 (cPost O G I c ρ es) σ') →
      aW O c.2.1 c.1 0 0 (cPost O G I c ρ es) σ := by
    intro m S hr τ σ hg ht hi hf hcont
    unfold ckRun at hr
    split at hr
    · rename_i R hR
      refine aRun_ok hO hG hCL hI (mSub_filter _) inl fuel c.2.1 c.1 row _ 0 0 S R hrow hR (ρ ++ τ) σ _ 0 0 0 0 hg ht hi (Nat.le_refl _) (Nat.le_refl _) ?_
      intro r hrm τ1 σ' c' k' hc' hk' g' t' i' f' e'
      rw [List.append_assoc] at g'
      have h1 := List.all_eq_true.mp hr r hrm
      have hf2 := fr_trans hf f'
      obtain ⟨pc2, L2, s2, es2⟩ := σ'
      unfold ckRes at h1
      split at h1
      · rename_i e2 cs2 pc3 A2 st2 F2 kc2 ks2
        obtain ⟨⟨gE1, gC1, gpc, gL1, gS1⟩, gF1'⟩ := g'
        simp only at gE1 gC1 gpc gL1 gS1 gF1' t' i' hf2 hc' hk'
        simp only [Bool.and_eq_true, beq_iff_eq] at h1
        obtain ⟨z1, z2, h1⟩ := h1
        subst z1 z2
        rw [List.any_eq_true] at h1
        obtain ⟨q, hq, h1⟩ := h1
        simp only [Bool.and_eq_true, beq_iff_eq] at h1
        obtain ⟨w1, w2, w3⟩ := h1
        split at w3
        rotate_left
        · cases w3
        rename_i e3 F3 htch
        obtain ⟨τ3, gE3, gF3⟩ := aTouch_ok t' htch gE1 gF1'
        rw [List.append_assoc] at gE3 gF3
        have gC3 : gC (ρ ++ (τ ++ τ1 ++ τ3)) cs2 := by rw [← List.append_assoc]; exact gC_app τ3 gC1
        have gL3 : gL (ρ ++ (τ ++ τ1 ++ τ3)) A2 L2 := by rw [← List.append_assoc]; exact gL_app τ3 gL1
        have gS3 : gS (ρ ++ (τ ++ τ1 ++ τ3)) st2 s2 := by rw [← List.append_assoc]; exact gS_app τ3 gS1
        obtain ⟨θ, τ', y0, y1, y2, y3, y4, y5, y6⟩ := aMat_ok gE3 gC3 gF3 hnv w3
        obtain ⟨v1, v2⟩ := cVs_split w2 y6
        have hqc := List.all_eq_true.mp hcuts q hq
        simp only [Bool.and_eq_true, iLe_iff] at hqc
        obtain ⟨m1, m2, -⟩ := hqc
        have hlen : (ρ ++ τ').length = q.2.1.1.length := y3.1
        obtain ⟨M', hM'⟩ := fWf_ev (ρ := ρ ++ τ') (f := q.2.2.2.2.2.1) (by rw [hlen]; exact m1)
        have e1 : c' = 0 := by omega
        have e2' : k' = 0 := by omega
        subst e1 e2'
        refine hcont q hq τ' (pc2, L2, s2, es2) M' ⟨⟨y3, y4, gpc.trans w1.symm, cVs_L gE3 gC3 y1 y2 v1 gL3, cVs_S gE3 gC3 y1 y2 v2 gS3⟩, y5⟩ t' i' hf2 hM' ?_
        intro mm M hmm hM
        subst hmm
        unfold ckFall at y0
        simp only [iLe_iff] at y0
        have hMa : evF (ρ ++ (τ ++ τ1 ++ τ3)) mm = some M := by rw [← List.append_assoc, ← List.append_assoc]; exact evF_app τ3 (evF_app τ1 hM)
        have := (pLo_le gE3 gC3 (fAdd_ev (k := -1) hMa (fSub_ev y2 hM'))).1
        omega
      · rename_i e2 cs2 pc3 A2 st2 F2 kc2 ks2
        obtain ⟨⟨gE1, gC1, gpc, gL1, gS1⟩, gF1'⟩ := g'
        simp only at gE1 gC1 gpc gL1 gS1 gF1' t' i' hf2 hc' hk'
        obtain ⟨v, v1, v2⟩ := e'
        simp only at v2
        refine aW_fin v1 ?_
        rw [List.any_eq_true] at h1
        obtain ⟨o, ho, h1⟩ := h1
        simp only [Bool.and_eq_true, Nat.ble_eq] at h1
        obtain ⟨n1, n2, h1⟩ := h1
        refine ⟨t', i', hf2, o, ho, ?_⟩
        split at h1
        · rename_i hz
          cases gS_nil gS1
          have hv : v = none := by
            cases v with
            | none => rfl
            | some z => cases v2
          subst hv
          obtain ⟨θ, τ', y0, y1, y2, y3, y4, y5, y6⟩ := aMat_ok gE1 gC1 gF1' hnv h1
          refine ⟨τ', y3, y4, y5, (by show c' ≤ _; omega), (by show k' ≤ _; omega), ?_⟩
          rw [hz]
        · rename_i va hz
          obtain ⟨w, s3, rfl, gw, gs3⟩ := gS_cons gS1
          cases gS_nil gs3
          have hv : v = some w := by
            cases v with
            | none => cases v2
            | some z => simp only [Option.toList_some, List.cons.injEq, and_true] at v2; rw [v2]
          subst hv
          obtain ⟨θ, τ', y0, y1, y2, y3, y4, y5, y6⟩ := aMat_ok gE1 gC1 gF1' hnv h1
          refine ⟨τ', y3, y4, y5, (by show c' ≤ _; omega), (by show k' ≤ _; omega), ?_⟩
          rw [hz]
          simp only [cVs, Bool.and_true] at y6
          exact ⟨w, rfl, cV_ok gE1 gC1 y1 y2 y6 gw⟩
        · cases h1
      · rename_i x e2 cs2 pc3 A2 st2 F2 kc2 ks2
        obtain ⟨⟨gE1, gC1, gpc, gL1, gS1⟩, gF1'⟩ := g'
        simp only at gE1 gC1 gpc gL1 gS1 gF1' t' i' hf2 hc' hk'
        refine aW_throw e' ?_
        rw [List.any_eq_true] at h1
        obtain ⟨o, ho, h1⟩ := h1
        simp only [Bool.and_eq_true, Nat.ble_eq, beq_iff_eq] at h1
        obtain ⟨n1, n2, n3, h1⟩ := h1
        obtain ⟨θ, τ', y0, y1, y2, y3, y4, y5, y6⟩ := aMat_ok gE1 gC1 gF1' hnv h1
        refine ⟨t', i', hf2, o, ho, τ', y3, y4, y5, by show c' + 1 ≤ _; omega, by show k' + 6 ≤ _; omega, ?_⟩
        rw [n3]
    · cases hr
  have key : ∀ (N : Nat), ∀ q ∈ cuts, ∀ τ σ M, gSt O (ρ ++ τ) ((q.2.1, q.1, q.2.2.1, q.2.2.2.1), q.2.2.2.2.1) σ → hOK G.1 σ.2.2.2 → I σ.2.2.2 → fr c.2.2.2.2.2.1 es σ.2.2.2 → evF (ρ ++ τ) q.2.2.2.2.2.1 = some M → M < N → aW O c.2.1 c.1 0 0 (cPost O G I c ρ es) σ := by
    intro N
    induction N with
    | zero =>
      intro q hq τ σ M hg ht hi hf hM hN
      have hqc := List.all_eq_true.mp hcuts q hq
      simp only [Bool.and_eq_true, iLe_iff] at hqc
      have : pLo q.2.1.1 q.2.1.2 q.2.2.2.2.2.1 ≤ M := (pLo_le hg.1.1 hg.1.2.1 hM).1
      omega
    | succ N ih =>
      intro q hq τ σ M hg ht hi hf hM hN
      have hqc := List.all_eq_true.mp hcuts q hq
      simp only [Bool.and_eq_true, iLe_iff] at hqc
      refine run (some q.2.2.2.2.2.1) _ hqc.2.2 τ σ hg ht hi hf ?_
      intro q' hq' τ' σ' M' hg' ht' hi' hf' hM' hfall
      refine ih q' hq' τ' σ' M' hg' ht' hi' hf' hM' ?_
      have := hfall _ M rfl hM
      omega
  refine run none _ hent [] (0, pEntry vs row.2.2.1, [], es) ?_ hT hI0 (fr_refl _ _) ?_
  · rw [List.append_nil]
    exact ⟨⟨hE, hC, rfl, aEntry_ok hS hm0 _, trivial⟩, hF⟩
  · intro q hq τ' σ' M' hg' ht' hi' hf' hM' _
    have hqc := List.all_eq_true.mp hcuts q hq
    simp only [Bool.and_eq_true, iLe_iff] at hqc
    have h0 : pLo q.2.1.1 q.2.1.2 q.2.2.2.2.2.1 ≤ M' := (pLo_le hg'.1.1 hg'.1.2.1 hM').1
    exact key (M'.toNat + 1) q hq τ' σ' M' hg' ht' hi' hf' hM' (by omega)
end
