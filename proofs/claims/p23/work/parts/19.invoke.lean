/-! a call that returned, a call that threw -/
theorem pINI_cls : ∀ (a : Nat) (ra : pMrow), pINI.contains a = true → pM[a]? = some ra → ∃ q0, vwCl[ra.2.2.2.2.1]? = some q0 ∧ q0.1 = ra.1.cls := by
  have h : pINI.all (fun a => match pM[a]? with
    | some ra => (match vwCl[ra.2.2.2.2.1]? with
      | some q => q.1 == ra.1.cls
      | none => false)
    | none => true) = true := by decide +kernel
  intro a ra ha hra
  have h1 := List.all_eq_true.mp h a (List.contains_iff_mem.mp ha)
  rw [hra] at h1
  dsimp only at h1
  split at h1
  · rename_i q hq
    exact ⟨q, hq, by simpa using h1⟩
  · cases h1
theorem pM_iniC : ∀ r ∈ pM, r.1.name = "<init>" → (vwCl[r.2.2.2.2.1]?).map (·.1) = some r.1.cls := by
  have h : pM.all (fun r => r.1.name != "<init>" || decide ((vwCl[r.2.2.2.2.1]?).map (·.1) = some r.1.cls)) = true := by decide +kernel
  intro r hr hn
  have h1 := List.all_eq_true.mp h r hr
  rw [hn] at h1
  simpa using h1
theorem pM_math : ∀ r ∈ pM, r.1.cls = "java/lang/Math" → r.2.2.2.2.1 = 15 := by
  have h : pM.all (fun r => r.1.cls != "java/lang/Math" || r.2.2.2.2.1 == 15) = true := by decide +kernel
  intro r hr hn
  have h1 := List.all_eq_true.mp h r hr
  rw [hn] at h1
  simpa using h1
theorem pM_plain {a : Nat} {ra : pMrow} (h : pM[a]? = some ra) (h15 : ¬ ra.2.2.2.2.1 = 15) : Jvm.plainName ra.1.cls = true := by
  have hm := List.mem_of_getElem? h
  rcases (pM_tab ra hm).1 with h1 | h1
  · exact absurd (pM_math ra hm h1) h15
  · exact h1
theorem pCall_spec {ins : Instr} {a b : Nat} {ra : pMrow} {st as rest : List Value} {es : PH} (h : pCall ins a b ra st es = some (as, rest)) : ¬ ra.2.2.2.2.1 = 15 ∧ pAsz as ≤ ra.2.2.1 ∧ as.length = ra.2.2.2.2.2.1 ∧ pCat rest ≤ 8 ∧ st = as.reverse ++ rest ∧
    ((∃ ix, ins = .invokestatic ix ∧ (b = 0 ∨ b = 3)) ∨ (∃ ix k0 As fs, ins = .invokevirtual ix ∧ (b = 1 ∨ b = 4) ∧ as = .ref k0 :: As ∧ ¬ k0 < 64 ∧ es[k0 - 64]? = some (.inr (ra.2.2.2.2.1, fs))) ∨ (∃ ix k0 As, ins = .invokespecial ix ∧ (b = 2 ∨ b = 5) ∧ as = .ref k0 :: As)) := by
  unfold pCall at h
  split at h
  · cases h
  rename_i hc
  have c1 : ¬ ra.2.2.2.2.1 = 15 := fun z => hc (Or.inl z)
  have c2 : ¬ ra.2.2.1 < pCat (st.take ra.2.2.2.2.2.1) := fun z => hc (Or.inr (Or.inl z))
  have c3 : ¬ st.length < ra.2.2.2.2.2.1 := fun z => hc (Or.inr (Or.inr (Or.inl z)))
  have c4 : ¬ 8 < pCat (st.drop ra.2.2.2.2.2.1) := fun z => hc (Or.inr (Or.inr (Or.inr z)))
  have key : ∀ {as rest : List Value}, (st.take ra.2.2.2.2.2.1).reverse = as → st.drop ra.2.2.2.2.2.1 = rest → ¬ ra.2.2.2.2.1 = 15 ∧ pAsz as ≤ ra.2.2.1 ∧ as.length = ra.2.2.2.2.2.1 ∧ pCat rest ≤ 8 ∧ st = as.reverse ++ rest := by
    intro as rest h1 h2
    subst h1; subst h2
    refine ⟨c1, by rw [pAsz_cat, pCat_rev]; omega, by rw [List.length_reverse, List.length_take]; omega, by omega, ?_⟩
    rw [List.reverse_reverse, List.take_append_drop]
  split at h
  · rename_i ix
    split at h
    · rename_i hb
      cases h
      obtain ⟨k1, k2, k3, k4, k5⟩ := key rfl rfl
      exact ⟨k1, k2, k3, k4, k5, Or.inl ⟨ix, rfl, hb⟩⟩
    · cases h
  · rename_i ix
    split at h
    · rename_i hb
      split at h
      · rename_i k0 As has
        split at h
        · cases h
        rename_i hk
        split at h
        · rename_i ci fs he
          split at h
          · rename_i hci
            cases h
            obtain ⟨k1, k2, k3, k4, k5⟩ := key rfl rfl
            exact ⟨k1, k2, k3, k4, k5, Or.inr (Or.inl ⟨ix, k0, As, fs, rfl, hb, has, hk, by rw [← hci]; exact he⟩)⟩
          · cases h
        · cases h
      · cases h
    · cases h
  · rename_i ix
    split at h
    · rename_i hb
      split at h
      · rename_i k0 As has
        split at h
        · cases h
        cases h
        obtain ⟨k1, k2, k3, k4, k5⟩ := key rfl rfl
        exact ⟨k1, k2, k3, k4, k5, Or.inr (Or.inr ⟨ix, k0, As, rfl, hb, has⟩)⟩
      · cases h
    · cases h
  · cases h
section INV
variable {p : Program} {l : Launch} {e : Env} {R : Room} {s : State} {m : MethodId} {args : Array Value} {below : List Frame} {meth : Method} {c : Code} {H : Heap} {locs : List Loc} {cells slots : Nat} {Q : State → Prop} {cc : ByteArray} {pc nL : Nat} {ls : Array Slot} {ad : Nat → Nat} {st : List Value} {es es2 : PH}
variable {D : va_G} {cT : Nat → ClassId} {O : pOut} {A : Nat → Prop} {own : String} {q a b len d n kc1 ks1 : Nat} {ra : pMrow} {as rest : List Value} {ins : Instr} {v : Option Value}
/-- what the return of a call gives -/
theorem p_back {st₀ t : State} {H1 : Heap} {Lx : List Loc} {v' : Option Value} {al : Array Value} (hA : ∀ q, s.heap.size ≤ q → A q) (hh : pHeap D cT ad A s.heap H locs es) (h0 : st₀.heap = H) (h1 : t.heap = H1) (hq : pQr D cT ad es es2 H.size v al st₀ (.returned v') t) (hL : ∀ q ∈ Lx, va_A (pWs cT ad es) H.size q.base) :
    ∃ ad' : Nat → Nat, (∀ k, k < 64 + es.length → ad' k = ad k) ∧ es.length ≤ es2.length ∧ pHeap D cT ad' A s.heap H1 (locs ++ Lx) es2 ∧ pOkH (64 + es2.length) es2 ∧ pOkS (64 + es2.length) v.toList ∧ v' = v.map (pTr ad') := by
  obtain ⟨⟨ad', hwe, hok, hv⟩, hF⟩ := hq
  subst h1
  subst h0
  refine ⟨ad', hwe.1, hwe.2.1, p_after hA hh hwe hF.1 hF.2 hL, hwe.2.2.2.2, hok, ?_⟩
  cases hv
  rfl
set_option maxHeartbeats 4000000 in
theorem p_callM (IH : pSim l O n) (hx : p.tables.exec = Jvm.exec) (hb : c.code = cc) (hml : c.maxLocals = nL) (hown : s.vm.findClass own = some m.cls) (hts : ∀ w ∈ pW0, w.before args s = true) (hdg : decode cc pc = .ok (ins, len)) (hlen : pLen ins = 0 ∨ pLen ins = len) (hok : pOKe own (ins, len, q, a, b) = true) (hra : pM[a]? = some ra) (hcall : pCall ins a b ra st es = some (as, rest))
    (hrun : pRun O n d a (0, pEntry as ra.2.2.1, [], es) = some (.inl v, es2, kc1, ks1)) (hA : ∀ q, s.heap.size ≤ q → A q) (hcy : pCy D cT ad O A s s.heap) (hl : ls.size = nL) (hh : pHeap D cT ad A s.heap H locs es) (hwS : pOkS (64 + es.length) st) (hwH : pOkH (64 + es.length) es) (hR : d + 1 + 12 ≤ R.frames ∧ 100 * (d + 1 + 3) ≤ R.locals) (hf : cells + kc1 ≤ R.cells ∧ slots + ks1 ≤ R.slots)
    (K : ∀ (ad' : Nat → Nat) (H1 : Heap) (Lx : List Loc), (∀ k, k < 64 + es.length → ad' k = ad k) → es.length ≤ es2.length → pHeap D cT ad' A s.heap H1 (locs ++ Lx) es2 → pOkH (64 + es2.length) es2 → pOkS (64 + es2.length) v.toList → W p l e R s m args below meth c H1 (locs ++ Lx) (cells + kc1) (slots + ks1) Q (F0 m (pc + 3) ls ((v.toList ++ rest).map (pTr ad')))) :
    W p l e R s m args below meth c H locs cells slots Q (F0 m pc ls (st.map (pTr ad))) := by
  obtain ⟨g1, g2, g3, g4, g5, g6⟩ := pCall_spec hcall
  have hpl := pM_plain hra g1
  have hmx : ra.2.2.1 ≤ 60 := (pM_tab ra (List.mem_of_getElem? hra)).2.2.2.2
  have hwA : pOkS (64 + es.length) as := fun x hx => hwS x (by rw [g5]; exact List.mem_append_left _ (List.mem_reverse.mpr hx))
  have hwR : pOkS (64 + es.length) rest := fun x hx => hwS x (by rw [g5]; exact List.mem_append_right _ hx)
  have fin : ∀ {al : Array Value} (v' : Option Value) (st₀ t : State) (H1 : Heap) (Lx : List Loc), st₀.heap = H → t.heap = H1 → s.WarmedH t.vm → pQr D cT ad es es2 H.size v al st₀ (.returned v') t → (∀ q ∈ Lx, va_A (pWs cT ad es) H.size q.base) → W p l e R s m args below meth c H1 (locs ++ Lx) (cells + kc1) (slots + ks1) Q (F0 m (pc + 3) ls (v'.toList ++ rest.map (pTr ad))) := by
    intro al v' st₀ t H1 Lx h0 h1 hW hq hL
    obtain ⟨ad', k1, k2, k3, k4, k5, k6⟩ := p_back hA hh h0 h1 hq hL
    have h2 := K ad' H1 Lx k1 k2 k3 k4 k5
    rw [List.map_append, pTr_extS k1 hwR] at h2
    have e1 : v'.toList = v.toList.map (pTr ad') := by
      rw [k6]
      cases v <;> rfl
    rw [e1]
    exact h2
  rcases g6 with ⟨ix, rfl, hbb⟩ | ⟨ix, k0, As, fs, rfl, hbb, has, hk, he⟩ | ⟨ix, k0, As, rfl, hbb, has⟩
  · have hdg' := pHd (n := 3) hdg hlen rfl (by decide)
    rcases hbb with rfl | rfl
    · simp only [pOKe] at hok
      split at hok
      · rename_i w hw
        simp only [Bool.and_eq_true, beq_iff_eq, decide_eq_true_eq] at hok
        obtain ⟨o1, o2, o3, o4, -⟩ := hok
        have hlk := wML_in hw
        rw [o1, o2, o3, pY_at hra] at hlk
        by_cases ha : a < pNcode
        · exact p_call (r_S hx hb hml hown hts hdg' hra ha o4 hlk (pMet_of IH hra ha hpl hrun g2 hwA hwH) hA hcy hh g3 hl g5 g4 hmx hR hf) (fun v' st₀ t H1 L h0 h1 hW hq hL => fin v' st₀ t H1 L h0 h1 hW hq hL)
        · have ha' : pNcode ≤ a := by omega
          cases hh1 : pHH[a - pNcode]? with
          | none =>
            exfalso
            have h3 : pSTI.all (fun a => decide (a < pNcode) || (pHH[a - pNcode]?).isSome) = true := by decide +kernel
            have h4 := List.all_eq_true.mp h3 a (List.contains_iff_mem.mp o4)
            rw [hh1] at h4
            simp only [Bool.or_eq_true, decide_eq_true_eq] at h4
            rcases h4 with h4 | h4
            · exact ha h4
            · cases h4
          | some hhs =>
            exact p_callX (r_SX hx hb hml hown hts hdg' hra ha' hh1 o4 hlk (pMetW_of IH hra hh1 hpl hrun g2 hwA hwH) hA hcy hh g3 hl g5 g4 hmx hR hf) (fun v' st₀ t H1 L h0 h1 hW hq hL => fin v' st₀ t H1 L h0 h1 hW hq hL) (fun E ce q9 st₀ t H1 L _ _ _ hX => hX.elim)
      · cases hok
    · simp only [pOKe] at hok
      split at hok
      · rename_i w hw
        simp only [Bool.and_eq_true, beq_iff_eq, decide_eq_true_eq] at hok
        obtain ⟨o1, o2, o3, o4⟩ := hok
        have hlk := wNL_in hw
        rw [o1, o2, o3, pY_at hra] at hlk
        have ha : a < pNcode := by
          have h3 : pNL.all (fun w => decide (w.2.2.cls ≠ "MoveNotesLaw")) = true := by decide +kernel
          have h5 : (pM.drop pNcode).all (fun r => decide (r.1.cls = "MoveNotesLaw")) = true := by decide +kernel
          by_cases ha : a < pNcode
          · exact ha
          · exfalso
            have h4 := of_decide_eq_true (List.all_eq_true.mp h3 w (List.mem_of_getElem? hw))
            rw [o3, pY_at hra] at h4
            refine h4 (of_decide_eq_true (List.all_eq_true.mp h5 ra (List.mem_of_getElem? (i := a - pNcode) ?_)))
            rw [List.getElem?_drop, show pNcode + (a - pNcode) = a by omega]
            exact hra
        exact p_call (r_SN hx hb hml hown hts hdg' hra ha o4 hlk (pMet_of IH hra ha hpl hrun g2 hwA hwH) hA hcy hh g3 hl g5 g4 hmx hR hf) (fun v' st₀ t H1 L h0 h1 hW hq hL => fin v' st₀ t H1 L h0 h1 hW hq hL)
      · cases hok
  · have hdg' := pHd (n := 3) hdg hlen rfl (by decide)
    rcases hbb with rfl | rfl
    · simp only [pOKe] at hok
      split at hok
      · rename_i w hw
        simp only [Bool.and_eq_true, beq_iff_eq, decide_eq_true_eq] at hok
        obtain ⟨o1, o2, o3, o4, o5⟩ := hok
        have hlk := wML_in hw
        rw [o1, o2, o3, pY_at hra] at hlk
        obtain ⟨-, ha⟩ := pINI_ok a o4
        obtain ⟨q0, hc0, hq0⟩ := pINI_cls a ra o4 hra
        exact p_call (r_V hx hb hml hown hts hdg' hra trivial o4 o5 hlk (pMet_of IH hra ha hpl hrun g2 hwA hwH) hA hcy hh g3 hl g5 g4 hmx hR hf ⟨As, has⟩ hk he hc0 hq0) (fun v' st₀ t H1 L h0 h1 hW hq hL => fin v' st₀ t H1 L h0 h1 hW hq hL)
      · cases hok
    · simp only [pOKe] at hok
      split at hok
      · rename_i w hw
        simp only [Bool.and_eq_true, beq_iff_eq, decide_eq_true_eq] at hok
        obtain ⟨o1, o2, o3, o4, o5⟩ := hok
        have hlk := wNL_in hw
        rw [o1, o2, o3, pY_at hra] at hlk
        obtain ⟨-, ha⟩ := pINI_ok a o4
        obtain ⟨q0, hc0, hq0⟩ := pINI_cls a ra o4 hra
        exact p_call (r_VN hx hb hml hown hts hdg' hra trivial o4 o5 hlk (pMet_of IH hra ha hpl hrun g2 hwA hwH) hA hcy hh g3 hl g5 g4 hmx hR hf ⟨As, has⟩ hk he hc0 hq0) (fun v' st₀ t H1 L h0 h1 hW hq hL => fin v' st₀ t H1 L h0 h1 hW hq hL)
      · cases hok
  · have hdg' := pHd (n := 3) hdg hlen rfl (by decide)
    rcases hbb with rfl | rfl
    · simp only [pOKe] at hok
      split at hok
      · rename_i w hw
        simp only [Bool.and_eq_true, beq_iff_eq, decide_eq_true_eq] at hok
        obtain ⟨o1, o2, o3, o4, o5⟩ := hok
        have hlk := wML_in hw
        rw [o1, o2, o3, pY_at hra] at hlk
        rw [o3, pY_at hra] at o5
        obtain ⟨-, ha⟩ := pINI_ok a o4
        exact p_call (r_I hx hb hml hown hts hdg' hra trivial o4 o5 hlk (pMet_of IH hra ha hpl hrun g2 hwA hwH) hA hcy hh g3 hl g5 g4 hmx hR hf ⟨As, has⟩) (fun v' st₀ t H1 L h0 h1 hW hq hL => fin v' st₀ t H1 L h0 h1 hW hq hL)
      · cases hok
    · simp only [pOKe] at hok
      split at hok
      · rename_i w hw
        simp only [Bool.and_eq_true, beq_iff_eq, decide_eq_true_eq] at hok
        obtain ⟨o1, o2, o3, o4, o5⟩ := hok
        have hlk := wNL_in hw
        rw [o1, o2, o3, pY_at hra] at hlk
        rw [o3, pY_at hra] at o5
        obtain ⟨-, ha⟩ := pINI_ok a o4
        exact p_call (r_IN hx hb hml hown hts hdg' hra trivial o4 o5 hlk (pMet_of IH hra ha hpl hrun g2 hwA hwH) hA hcy hh g3 hl g5 g4 hmx hR hf ⟨As, has⟩) (fun v' st₀ t H1 L h0 h1 hW hq hL => fin v' st₀ t H1 L h0 h1 hW hq hL)
      · cases hok
end INV
