/-! THE SIMULATION: what the pure run does, the machine does -/
theorem wf3 {n pc a b : Nat} {L : PL} {st : List Value} {es : PH} {r : pSt} {ins : Instr} (hL : pOkL n L) (hS : pOkS n st) (h : pS3 ins a b pc L st es = some r) : pOkL n r.2.1 ∧ pOkS n r.2.2.1 ∧ r.2.2.2 = es := by
  unfold pS3 at h
  split at h
  · split at h
    · split at h
      · split at h
        · cases h
        · split at h
          · cases h; exact ⟨hL, okS_i (okS_t hS), rfl⟩
          · cases h
      · cases h
    · split at h
      · split at h
        · cases h
        · split at h
          · split at h
            · cases h; exact ⟨hL, okS_i (okS_t (okS_t hS)), rfl⟩
            · cases h
          · cases h
      · cases h
    · cases h
  · split at h
    · split at h
      · split at h
        · split at h
          · cases h
          · cases h; exact ⟨hL, okS_i (okS_t (okS_t hS)), rfl⟩
        · cases h
      · split at h
        · split at h
          · cases h
          · cases h; exact ⟨hL, okS_i (okS_t (okS_t hS)), rfl⟩
        · cases h
      · split at h
        · split at h
          · cases h
          · cases h; exact ⟨hL, okS_i (okS_t hS), rfl⟩
        · cases h
      · cases h
    · cases h
  · cases h
section MATHS
variable {p : Program} {l : Launch} {e : Env} {R : Room} {s : State} {m : MethodId} {args : Array Value} {below : List Frame} {meth : Method} {c : Code} {H : Heap} {locs : List Loc} {cells slots : Nat} {Q : State → Prop} {cc : ByteArray} {pc nL : Nat} {ls : Array Slot} {ad : Nat → Nat} {L : PL} {st : List Value} {es : PH} {r : pSt}
variable {D : va_G} {cT : Nat → ClassId} {O : pOut} {A : Nat → Prop} {own : String} {q a b len : Nat}
theorem pW_min : Cond.code Lib.Math.min.name Lib.Math.min.code 2 (some .int) ∈ pW0 ∧ Cond.static Lib.Math.min.name ∈ pW0 ∧ pY 21 = Lib.Math.min.name := ⟨pW0_lit (by decide +kernel), pW0_lit (by decide +kernel), by decide +kernel⟩
theorem pW_max : Cond.code Lib.Math.max.name Lib.Math.max.code 2 (some .int) ∈ pW0 ∧ Cond.static Lib.Math.max.name ∈ pW0 ∧ pY 30 = Lib.Math.max.name := ⟨pW0_lit (by decide +kernel), pW0_lit (by decide +kernel), by decide +kernel⟩
theorem pW_abs : Cond.code Lib.Math.abs.name Lib.Math.abs.code 1 (some .int) ∈ pW0 ∧ Cond.static Lib.Math.abs.name ∈ pW0 ∧ pY 256 = Lib.Math.abs.name := ⟨pW0_lit (by decide +kernel), pW0_lit (by decide +kernel), by decide +kernel⟩
theorem pW_mathI : Cond.initialized "java/lang/Math" ∈ pW0 := pW0_lit (by decide +kernel)
theorem h_math {ix : Nat} (hx : p.tables.exec = Jvm.exec) (hb : c.code = cc) (hml : c.maxLocals = nL) (hdg : decode cc pc = .ok (.invokestatic ix, 3)) (hok : pOKe own (.invokestatic ix, len, q, a, b) = true) (hown : s.vm.findClass own = some m.cls) (hts : ∀ w ∈ pW0, w.before args s = true)
    (hR : 1 ≤ R.frames ∧ 100 ≤ R.locals) (hc : cells ≤ R.cells) (hs : slots ≤ R.slots) (hl : pLoc ad nL ls L) (h : pS3 (.invokestatic ix) a b pc L st es = some r) (k : pW p l e R s m args below meth c H locs cells slots Q ad nL r) : W p l e R s m args below meth c H locs cells slots Q (F0 m pc ls (st.map (pTr ad))) := by
  have hsz : ls.size = nL := by obtain ⟨lv, h1, -, -⟩ := hl; exact h1.1
  simp only [pS3] at h
  split at h
  · rename_i hb0
    subst hb0
    simp only [pOKe] at hok
    split at hok
    · rename_i w hw
      simp only [Bool.and_eq_true, beq_iff_eq, decide_eq_true_eq] at hok
      obtain ⟨o1, o2, o3, o4, -⟩ := hok
      have hlk := hts _ (wML_in hw)
      rw [o1, o2, o3] at hlk
      split at h
      · rw [pW_min.2.2] at hlk
        split at h
        · rename_i y x rr
          split at h
          · cases h
          rename_i hct
          cases h
          exact va_mmin hx hb (hml.trans hsz.symm) hown hlk (hts _ pW_min.2.1) (hts _ pW_mathI) (hts _ pW_min.1) hR.1 (by rw [pCat_tr]; omega) hc hs hdg (k ls hl)
        · cases h
      · rw [pW_max.2.2] at hlk
        split at h
        · rename_i y x rr
          split at h
          · cases h
          rename_i hct
          cases h
          exact va_mmax hx hb (hml.trans hsz.symm) hown hlk (hts _ pW_max.2.1) (hts _ pW_mathI) (hts _ pW_max.1) hR.1 (by rw [pCat_tr]; omega) hc hs hdg (k ls hl)
        · cases h
      · rw [pW_abs.2.2] at hlk
        split at h
        · rename_i x rr
          split at h
          · cases h
          rename_i hct
          cases h
          exact va_mabs hx hb (hml.trans hsz.symm) hown hlk (hts _ pW_abs.2.1) (hts _ pW_mathI) (hts _ pW_abs.1) hR.1 (by rw [pCat_tr]; omega) hc hs hdg (k ls hl)
        · cases h
      · cases h
    · cases hok
  · cases h
theorem kV_1 {own : String} {ix : Nat} (h : Cond.methodLink own ix yJ0_length_8abf5 ∈ pW0) : ∀ w ∈ wsV own ix RJ0 yJ0_length_8abf5 (wsT yJ0_length_8abf5 cJ0_length_8abf5 1 (some .int)), w ∈ pW0 := by
  intro w hw
  unfold wsV at hw
  rcases List.mem_append.mp hw with h1 | h1
  · simp only [List.mem_cons, List.not_mem_nil, or_false] at h1
    rcases h1 with rfl | rfl | rfl | rfl
    · exact h
    · exact pW0_lit (by decide +kernel)
    · exact pW0_lit (by decide +kernel)
    · exact pW0_lit (by decide +kernel)
  · exact goodT (by decide +kernel) w h1
theorem kV_2 {own : String} {ix : Nat} (h : Cond.methodLink own ix yJ0_charAt_5068e ∈ pW0) : ∀ w ∈ wsV own ix RJ0 yJ0_charAt_5068e (wsT yJ0_charAt_5068e cJ0_charAt_5068e 2 (some .char)), w ∈ pW0 := by
  intro w hw
  unfold wsV at hw
  rcases List.mem_append.mp hw with h1 | h1
  · simp only [List.mem_cons, List.not_mem_nil, or_false] at h1
    rcases h1 with rfl | rfl | rfl | rfl
    · exact h
    · exact pW0_lit (by decide +kernel)
    · exact pW0_lit (by decide +kernel)
    · exact pW0_lit (by decide +kernel)
  · exact goodT (by decide +kernel) w h1
/-- what a call on a text finds -/
theorem pTs_of {k0 : Nat} {t : List Nat} (hk : ¬ k0 < 8) (ht : pTX[k0 - 8]? = some t) (hA : ∀ q, s.heap.size ≤ q → A q) (hcy : pCy D cT ad O A s s.heap) (hh : pHeap D cT ad A s.heap H locs es) : ∃ v : Nat, (∀ avs : List Value, ∀ U : State, U.heap = H → s.WarmedH U.vm → va_Pc avs (pTs (ad k0) v t H.size) avs.toArray U) ∧ (∃ cellB : Cell, H[ad k0]? = some cellB ∧ cellB.vm.isStatics = false ∧ s.vm.findClass RJ0 = some cellB.cls) := by
  have hAB : ∀ q, H.size ≤ q → A q := fun q h => hA q (Nat.le_trans hh.2.2.1 h)
  have h0 := hcy.2.2
  obtain ⟨⟨adV, h1⟩, h2, h3⟩ := h0
  obtain ⟨g1, g2, g3, g4⟩ := h1 (k0 - 8) t ht
  rw [show 8 + (k0 - 8) = k0 by omega] at g1 g2 g3
  have hq := hh.2.2.2.1
  refine ⟨adV (k0 - 8), fun avs U hU hW => ⟨rfl, by rw [hU], ?_⟩, ?_⟩
  · rw [hU]
    exact ⟨((g1.moved hW.alike).kept hq).narrow hAB, ((g2.moved hW.alike).kept hq).narrow hAB, ((g3.moved hW.alike).kept hq).narrow hAB, ((g4.moved hW.alike).kept hq).narrow hAB, ((h2.moved hW.alike).kept hq).narrow hAB, ((h3.moved hW.alike).kept hq).narrow hAB⟩
  · obtain ⟨cell, c1, c2, c3, -⟩ := g1.kept hq
    exact ⟨cell, c1, c2, c3⟩
/-- length() and charAt() of a text -/
theorem h_text {ix : Nat} (hx : p.tables.exec = Jvm.exec) (hb : c.code = cc) (hml : c.maxLocals = nL) (hdg : decode cc pc = .ok (.invokevirtual ix, 3)) (hok : pOKe own (.invokevirtual ix, len, q, a, b) = true) (hown : s.vm.findClass own = some m.cls) (hts : ∀ w ∈ pW0, w.before args s = true)
    (hR : 13 ≤ R.frames ∧ 400 ≤ R.locals) (hc : cells ≤ R.cells) (hs : slots ≤ R.slots) (hA : ∀ q, s.heap.size ≤ q → A q) (hcy : pCy D cT ad O A s s.heap) (hh : pHeap D cT ad A s.heap H locs es) (hl : pLoc ad nL ls L) (h : pS3 (.invokevirtual ix) a b pc L st es = some r) (k : pWH p l e R s m args below meth c cells slots Q D cT ad A nL r) : W p l e R s m args below meth c H locs cells slots Q (F0 m pc ls (st.map (pTr ad))) := by
  have hsz : ls.size = nL := by obtain ⟨lv, h1, -, -⟩ := hl; exact h1.1
  simp only [pS3] at h
  split at h
  · split at h
    · rename_i k0 rr
      split at h
      · cases h
      rename_i hcond
      split at h
      · rename_i t ht
        cases h
        simp only [pOKe] at hok
        split at hok
        · rename_i w hw
          simp only [Bool.and_eq_true, beq_iff_eq, decide_eq_true_eq] at hok
          obtain ⟨o1, o2, o3⟩ := hok
          have hlk : Cond.methodLink own ix yJ0_length_8abf5 ∈ pW0 := by
            have h1 := wML_in hw
            rw [o1, o2, o3] at h1
            exact h1
          have hk : ¬ k0 < 8 := fun z => hcond (Or.inl z)
          have hcat : ¬ 8 < pCat rr := fun z => hcond (Or.inr z)
          have hlen : t.length < 2 ^ 31 := by
            have h1 := List.all_eq_true.mp pTX_small t (List.mem_of_getElem? ht)
            rw [Bool.and_eq_true, decide_eq_true_eq] at h1
            omega
          obtain ⟨v, hpre, hrec⟩ := pTs_of hk ht hA hcy hh
          refine p_call (va_runV (C := RJ0) (n := 0) (b := ad k0) (As := []) (rest := rr.map (pTr ad)) ⟨hx, hb, hml, hown, hts⟩ (mT_len l (ad k0) v t H.size hlen) (cwV 0 hts (goodIn_W0 (kV_1 hlk)) rfl rfl rfl ⟨rfl, by decide, by decide, by decide +kernel⟩ ⟨by show 1 + 1 ≤ R.frames; omega, by show 8 + (1 + 11) + 40 * 1 ≤ R.locals; omega⟩) ⟨pTs_blind, hrec, hpre _⟩ rfl rfl hsz rfl (by show 2 * 0 + _ ≤ 8; rw [pCat_tr]; omega) hdg ⟨hc, hs⟩) ?_
          intro v' st₀ t' H1 Lx h0 e1 hW hq hL
          obtain ⟨q1, q2⟩ := hq
          cases q1
          have hH1 : H1 = H := by rw [← e1, q2, h0]
          subst hH1
          have hL0 : Lx = [] := by
            cases Lx with
            | nil => rfl
            | cons x r => exact (hL x List.mem_cons_self).elim
          subst hL0
          rw [List.append_nil]
          exact k H1 locs hh ls hl
        · cases hok
      · cases h
    · cases h
  · split at h
    · rename_i i k0 rr
      split at h
      · cases h
      rename_i hcond
      split at h
      · rename_i t ht
        split at h
        · rename_i x hxv
          cases h
          simp only [pOKe] at hok
          split at hok
          · rename_i w hw
            simp only [Bool.and_eq_true, beq_iff_eq, decide_eq_true_eq] at hok
            obtain ⟨o1, o2, o3⟩ := hok
            have hlk : Cond.methodLink own ix yJ0_charAt_5068e ∈ pW0 := by
              have h1 := wML_in hw
              rw [o1, o2, o3] at h1
              exact h1
            have hk : ¬ k0 < 8 := fun z => hcond (Or.inl z)
            have hcat : ¬ 8 < pCat rr := fun z => hcond (Or.inr (Or.inl z))
            have hi0 : ¬ i < 0 := fun z => hcond (Or.inr (Or.inr z))
            have hsm := List.all_eq_true.mp pTX_small t (List.mem_of_getElem? ht)
            rw [Bool.and_eq_true, decide_eq_true_eq] at hsm
            have hlen : t.length < 2 ^ 31 := by omega
            obtain ⟨j, hj, rfl⟩ := nI_of hi0
            rw [nI_clamp hj] at hxv
            have hjl : j < t.length := (List.getElem?_eq_some_iff.mp hxv).1
            have hgd : t.getD j 0 = x := by rw [List.getD_eq_getElem?_getD, hxv]; rfl
            have hx128 : t.getD j 0 < 128 := by
              rw [hgd]
              exact of_decide_eq_true (List.all_eq_true.mp hsm.1 x (List.mem_of_getElem? hxv))
            obtain ⟨v, hpre, hrec⟩ := pTs_of hk ht hA hcy hh
            refine p_call (va_runV (C := RJ0) (n := 1) (b := ad k0) (As := [.int (nI j)]) (rest := rr.map (pTr ad)) ⟨hx, hb, hml, hown, hts⟩ (mT_ch l (ad k0) v t H.size hlen j hjl hx128) (cwV 1 hts (goodIn_W0 (kV_2 hlk)) rfl rfl rfl ⟨rfl, by decide, by decide, by decide +kernel⟩ ⟨by show 3 + 1 ≤ R.frames; omega, by show 8 + (2 + 11) + 40 * 3 ≤ R.locals; omega⟩) ⟨pTs_blind, hrec, hpre _⟩ rfl rfl hsz rfl (by show 2 * 0 + _ ≤ 8; rw [pCat_tr]; omega) hdg ⟨hc, hs⟩) ?_
            intro v' st₀ t' H1 Lx h0 e1 hW hq hL
            obtain ⟨q1, q2⟩ := hq
            cases q1
            have hH1 : H1 = H := by rw [← e1, q2, h0]
            subst hH1
            have hL0 : Lx = [] := by
              cases Lx with
              | nil => rfl
              | cons x r => exact (hL x List.mem_cons_self).elim
            subst hL0
            rw [List.append_nil]
            have h9 := k H1 locs hh ls hl
            rw [← hgd] at h9
            exact h9
          · cases hok
        · cases h
      · cases h
    · cases h
  · cases h
end MATHS
set_option maxHeartbeats 8000000 in
theorem pSim_all {l : Launch} (hfl : l.stackTraces = false) (O : pOut) : ∀ n, pSim l O n := by
  intro n
  induction n with
  | zero =>
    intro d j row pc L st es res es1 kc ks hj hrun
    simp only [pRun] at hrun
    cases hrun
  | succ n IH =>
    intro d j row pc L st es res es1 kc ks hj hrun p e R s m args below meth c H locs cells slots Q ls ad D cT A hbd hA hcy hl hh hwL hwS hwH hkc hks hret hthr
    obtain ⟨hx, hb, hml, hown, hts, hnm, hfr, hlo, htab⟩ := id hbd
    have hmem := List.mem_of_getElem? hj
    have hsz : ls.size = row.2.2.1 := by obtain ⟨lv, h1, -, -⟩ := hl; exact h1.1
    simp only [pRun, hj] at hrun
    cases hat : pAt row.2.2.2.2.2.2 pc with
    | none => rw [hat] at hrun; cases hrun
    | some ent =>
      obtain ⟨ins, len, q, a, b⟩ := ent
      rw [hat] at hrun
      dsimp only at hrun
      obtain ⟨hdg, hlen⟩ := pM_at hj hat
      have hok := pM_okAt hj hat
      rw [(pM_tab row hmem).2.1] at hok
      cases h0 : pS0 ins pc L st es with
      | some r =>
        rw [h0] at hrun
        obtain ⟨pc', L', st', es'⟩ := r
        obtain ⟨w1, w2, w3⟩ := wf0 hwL hwS h0
        dsimp only at w1 w2 w3 hrun
        subst w3
        exact sim0 hx hb hdg hlen hl h0 (fun ls' hl' => IH d j row pc' L' st' _ res es1 kc ks hj hrun p e R s m args below meth c H locs cells slots Q ls' ad D cT A hbd hA hcy hl' hh w1 w2 hwH hkc hks hret hthr)
      | none =>
        rw [h0] at hrun
        dsimp only at hrun
        cases h1 : pS1 O (row.1.name == "<init>" && row.2.2.2.2.1 == a) ins q a b pc L st es with
        | some r =>
          rw [h1] at hrun
          dsimp only at hrun
          split at hrun
          · cases hrun
          rename_i hct
          obtain ⟨pc', L', st', es'⟩ := r
          obtain ⟨w1, w2, w3, w4⟩ := wf1 (by omega) hok hwL hwS hwH h1
          dsimp only at w1 w2 w3 w4
          refine sim1 hx hb hdg hlen hok hown hts hml ?_ ⟨by omega, by omega⟩ ?_ (pOkT_of hwH) hcy.1 hl hh h1 (fun H' locs' hh' ls' hl' => ?_)
          · intro hi
            rw [Bool.and_eq_true, beq_iff_eq, beq_iff_eq] at hi
            refine ⟨hnm hi.1, ?_⟩
            rw [← hi.2]
            exact pM_iniC row hmem hi.1
          · intro hi
            have h2 : ¬ 40 < pCat st := fun z => hct ⟨hi, z⟩
            unfold pCat at h2
            omega
          · refine IH d j row pc' L' st' es' res es1 kc ks hj hrun p e R s m args below meth c H' locs' cells slots Q ls' ad D cT A hbd hA hcy hl' hh' ?_ ?_ ?_ hkc hks ?_ ?_
            · rw [w4]; exact w1
            · rw [w4]; exact w2
            · rw [w4]; exact w3
            · rw [w4]; exact hret
            · rw [w4]; exact hthr
        | none =>
          rw [h1] at hrun
          dsimp only at hrun
          cases h2 : pS2 ins a b pc L st es with
          | some r =>
            rw [h2] at hrun
            dsimp only at hrun
            cases hr2 : pRun O n d j r with
            | none => rw [hr2] at hrun; cases hrun
            | some o =>
              rw [hr2] at hrun
              obtain ⟨res', es1', kc', ks'⟩ := o
              simp only [pAdd, Option.some.injEq, Prod.mk.injEq] at hrun
              obtain ⟨rfl, rfl, rfl, rfl⟩ := hrun
              obtain ⟨pc', L', st', es'⟩ := r
              obtain ⟨w0, w1, w2, w3⟩ := wf2 hok hwL hwS hwH h2
              dsimp only at w0 w1 w2 w3
              have kk : ∀ ad' : Nat → Nat, (∀ k, k < 64 + es.length → ad' k = ad k) → pWH p l e R s m args below meth c (cells + 1) (slots + pNew ins a st) Q D cT ad' A row.2.2.1 (pc', L', st', es') := by
                intro ad' hag H' locs' hh' ls' hl'
                refine IH d j row pc' L' st' es' res' es1' kc' ks' hj hr2 p e R s m args below meth c H' locs' (cells + 1) (slots + pNew ins a st) Q ls' ad' D cT A hbd hA (hcy.ext (fun k hk => hag k (by omega))) hl' hh' w1 w2 w3 (by omega) (by omega) ?_ ?_
                · intro v ad2 H2 locs2 ls2 pc2 st2 ins2 len2 x2 g1 g2 g3 g4 g5 g6 g7 g8
                  have h3 := hret v ad2 H2 locs2 ls2 pc2 st2 ins2 len2 x2 g1 (fun k hk => (g2 k (by omega)).trans (hag k hk)) (by omega) g4 g5 g6 g7 g8
                  rw [show cells + 1 + kc' = cells + (1 + kc') by omega, show slots + pNew ins a st + ks' = slots + (pNew ins a st + ks') by omega]
                  exact h3
                · intro x ad2 H2 locs2 cells2 slots2 ls2 L2 pc2 ix len2 q2 g1 g2 g3 g4 g5 g6 g7 g8 g9
                  exact hthr x ad2 H2 locs2 cells2 slots2 ls2 L2 pc2 ix len2 q2 g1 (fun k hk => (g2 k (by omega)).trans (hag k hk)) (by omega) g4 g5 (by omega) (by omega) g8 g9
              cases ins with
              | newarray t => exact n_newarray (O := O) hx hb (pHd hdg hlen rfl (by decide)) hok hts hA hwH hwL hwS hcy.1 hl hh ⟨by omega, by omega⟩ h2 kk
              | new ix => exact n_new (O := O) hx hb (pHd hdg hlen rfl (by decide)) hok hown hts hA hwH hwL hwS hcy.1 hl hh ⟨by omega, by omega⟩ h2 kk
              | _ => exact absurd h2 (by simp [pS2])
          | none =>
            rw [h2] at hrun
            dsimp only at hrun
            cases h3 : pS3 ins a b pc L st es with
            | some r =>
              rw [h3] at hrun
              dsimp only at hrun
              split at hrun
              · cases hrun
              · rename_i d'
                obtain ⟨pc', L', st', es'⟩ := r
                obtain ⟨w1, w2, w3⟩ := wf3 hwL hwS h3
                dsimp only at w1 w2 w3 hrun
                subst w3
                cases ins with
                | invokestatic ix => exact h_math hx hb hml (pHd hdg hlen rfl (by decide)) hok hown hts ⟨by omega, by omega⟩ (by omega) (by omega) hl h3 (fun ls' hl' => IH _ j row pc' L' st' _ res es1 kc ks hj hrun p e R s m args below meth c H locs cells slots Q ls' ad D cT A hbd hA hcy hl' hh w1 w2 hwH hkc hks hret hthr)
                | invokevirtual ix => exact h_text (O := O) hx hb hml (pHd hdg hlen rfl (by decide)) hok hown hts ⟨by omega, by omega⟩ (by omega) (by omega) hA hcy hh hl h3 (fun H' locs' hh' ls' hl' => IH _ j row pc' L' st' _ res es1 kc ks hj hrun p e R s m args below meth c H' locs' cells slots Q ls' ad D cT A hbd hA hcy hl' hh' w1 w2 hwH hkc hks hret hthr)
                | _ => exact absurd h3 (by simp [pS3])
            | none =>
              rw [h3] at hrun
              dsimp only at hrun
              cases h4 : pFin ins st row.2.2.2.1 with
              | some v =>
                rw [h4] at hrun
                dsimp only at hrun
                cases hrun
                exact hret v ad H locs ls pc st ins len (q, a, b) rfl (fun _ _ => rfl) (Nat.le_refl _) hh hwH hwS hat h4
              | none =>
                rw [h4] at hrun
                dsimp only at hrun
                split at hrun
                · rename_i ix
                  cases hrun
                  exact hthr a ad H locs cells slots ls L pc ix len q rfl (fun _ _ => rfl) (Nat.le_refl _) hh hwH rfl rfl hl hat
                · split at hrun
                  · rename_i d' ra hra
                    cases hcl : pCall ins a b ra st es with
                    | none => rw [hcl] at hrun; cases hrun
                    | some ar =>
                      obtain ⟨as, rest⟩ := ar
                      rw [hcl] at hrun
                      dsimp only at hrun
                      have hwR : pOkS (64 + es.length) rest := by
                        obtain ⟨-, -, -, -, g5, -⟩ := pCall_spec hcl
                        exact fun x hx => hwS x (by rw [g5]; exact List.mem_append_right _ hx)
                      cases hcr : pRun O n d' a (0, pEntry as ra.2.2.1, [], es) with
                      | none => rw [hcr] at hrun; cases hrun
                      | some o =>
                        rw [hcr] at hrun
                        obtain ⟨resc, es2, kc1, ks1⟩ := o
                        cases resc with
                        | inl v =>
                          dsimp only at hrun
                          cases hr2 : pRun O n (d' + 1) j (pc + 3, L, v.toList ++ rest, es2) with
                          | none => rw [hr2] at hrun; cases hrun
                          | some o2 =>
                            rw [hr2] at hrun
                            obtain ⟨res', es1', kc', ks'⟩ := o2
                            simp only [pAdd, Option.some.injEq, Prod.mk.injEq] at hrun
                            obtain ⟨rfl, rfl, rfl, rfl⟩ := hrun
                            refine p_callM IH hx hb hml hown hts hdg hlen hok hra hcl hcr hA hcy hsz hh hwS hwH ⟨by omega, by omega⟩ ⟨by omega, by omega⟩ (fun ad' H1 Lx k1 k2 k3 k4 k5 => ?_)
                            refine IH (d' + 1) j row (pc + 3) L (v.toList ++ rest) es2 res' es1' kc' ks' hj hr2 p e R s m args below meth c H1 (locs ++ Lx) (cells + kc1) (slots + ks1) Q ls ad' D cT A hbd hA (hcy.ext (fun k hk => k1 k (by omega))) (hl.ext k1 hwL) k3 (fun i v hi => pOkV_mono (by omega) (hwL i v hi)) ?_ k4 (by omega) (by omega) ?_ ?_
                            · intro x hx
                              rcases List.mem_append.mp hx with h5 | h5
                              · exact k5 x h5
                              · exact pOkV_mono (by omega) (hwR x h5)
                            · intro v2 ad2 H2 locs2 ls2 pc2 st2 ins2 len2 x2 g1 g2 g3 g4 g5 g6 g7 g8
                              have h5 := hret v2 ad2 H2 locs2 ls2 pc2 st2 ins2 len2 x2 g1 (fun k hk => (g2 k (by omega)).trans (k1 k hk)) (by omega) g4 g5 g6 g7 g8
                              rw [show cells + kc1 + kc' = cells + (kc1 + kc') by omega, show slots + ks1 + ks' = slots + (ks1 + ks') by omega]
                              exact h5
                            · intro x ad2 H2 locs2 cells2 slots2 ls2 L2 pc2 ix len2 q2 g1 g2 g3 g4 g5 g6 g7 g8 g9
                              exact hthr x ad2 H2 locs2 cells2 slots2 ls2 L2 pc2 ix len2 q2 g1 (fun k hk => (g2 k (by omega)).trans (k1 k hk)) (by omega) g4 g5 (by omega) (by omega) g8 g9
                        | inr x =>
                          dsimp only at hrun
                          cases hH : (if pIsV ins b = true then pHand j pc x else none) with
                          | none => rw [hH] at hrun; cases hrun
                          | some h0' =>
                            rw [hH] at hrun
                            dsimp only at hrun
                            cases hP : pPut row.2.2.2.2.2.2 L h0' with
                            | none => rw [hP] at hrun; cases hrun
                            | some pl =>
                              obtain ⟨pc', L'⟩ := pl
                              rw [hP] at hrun
                              dsimp only at hrun
                              cases hr2 : pRun O n (d' + 1) j (pc', L', [], es2) with
                              | none => rw [hr2] at hrun; cases hrun
                              | some o2 =>
                                rw [hr2] at hrun
                                obtain ⟨res', es1', kc', ks'⟩ := o2
                                simp only [pAdd, Option.some.injEq, Prod.mk.injEq] at hrun
                                obtain ⟨rfl, rfl, rfl, rfl⟩ := hrun
                                have hwL' : pOkL (64 + es.length) L' := by
                                  unfold pPut at hP
                                  split at hP
                                  · split at hP
                                    · cases hP; exact okL_put hwL
                                    · cases hP
                                  · split at hP
                                    · cases hP; exact okL_put hwL
                                    · cases hP
                                  · cases hP
                                refine p_callT hfl IH hj hx hb hml hown hts hdg hlen hok hra hcl hcr hH hP htab hA hcy hl hwL hh hwS hwH ⟨by omega, by omega⟩ ⟨by omega, by omega⟩ (fun ad' H1 Lx ls' k1 k2 k3 k4 k5 => ?_)
                                refine IH (d' + 1) j row pc' L' [] es2 res' es1' kc' ks' hj hr2 p e R s m args below meth c H1 (locs ++ Lx) (cells + kc1) (slots + ks1) Q ls' ad' D cT A hbd hA (hcy.ext (fun k hk => k1 k (by omega))) k5 k3 (fun i v hi => pOkV_mono (by omega) (hwL' i v hi)) (fun _ h => by cases h) k4 (by omega) (by omega) ?_ ?_
                                · intro v2 ad2 H2 locs2 ls2 pc2 st2 ins2 len2 x2 g1 g2 g3 g4 g5 g6 g7 g8
                                  have h5 := hret v2 ad2 H2 locs2 ls2 pc2 st2 ins2 len2 x2 g1 (fun k hk => (g2 k (by omega)).trans (k1 k hk)) (by omega) g4 g5 g6 g7 g8
                                  rw [show cells + kc1 + kc' = cells + (kc1 + kc') by omega, show slots + ks1 + ks' = slots + (ks1 + ks') by omega]
                                  exact h5
                                · intro x2 ad2 H2 locs2 cells2 slots2 ls2 L2 pc2 ix len2 q2 g1 g2 g3 g4 g5 g6 g7 g8 g9
                                  exact hthr x2 ad2 H2 locs2 cells2 slots2 ls2 L2 pc2 ix len2 q2 g1 (fun k hk => (g2 k (by omega)).trans (k1 k hk)) (by omega) g4 g5 (by omega) (by omega) g8 g9
                  · cases hrun
