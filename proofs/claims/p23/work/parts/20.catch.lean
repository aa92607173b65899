/-! a call that threw, caught here -/
theorem pHH_ok : ∀ hh ∈ pHH, ∀ h ∈ hh, h.2.2.2 ≠ 0 ∧ ∃ y, y < 4 ∧ pHis h.2.2.2 y = true := by
  have h : pHH.all (fun hh => hh.all (fun h => decide (h.2.2.2 ≠ 0) && (List.range 4).any (fun y => pHis h.2.2.2 y))) = true := by decide +kernel
  intro hh hm h0 hm0
  have h1 := List.all_eq_true.mp (List.all_eq_true.mp h hh hm) h0 hm0
  rw [Bool.and_eq_true, decide_eq_true_eq, List.any_eq_true] at h1
  obtain ⟨a1, y, hy, a2⟩ := h1
  exact ⟨a1, y, List.mem_range.mp hy, a2⟩
theorem pHis_word {ct x : Nat} (h : pHis ct x = true) : ∃ X, pXN[x]? = some X ∧ Cond.classLink RL ct X ∈ pW0 := by
  unfold pHis at h
  obtain ⟨w, hw, h1⟩ := List.any_eq_true.mp h
  simp only [Bool.and_eq_true, beq_iff_eq] at h1
  obtain ⟨o1, o2, o3⟩ := h1
  obtain ⟨i, hi⟩ := List.getElem?_of_mem hw
  have h2 := wCK_in hi
  rw [o1, o2] at h2
  exact ⟨w.2.2, o3, h2⟩
theorem pCast {x : Nat} {X : String} (h : pXN[x]? = some X) : Cond.castable X X ∈ pBadW := by
  have h1 : pXN.all (fun X => decide (Cond.castable X X ∈ lw_tbl)) = true := by decide +kernel
  exact List.mem_filter.mpr ⟨of_decide_eq_true (List.all_eq_true.mp h1 X (List.mem_of_getElem? h)), rfl⟩
theorem pLoc.put {ad : Nat → Nat} {nL : Nat} {ls' : Array Slot} {L : PL} {lv : List (Nat × Value)} {i : Nat} {w : Value} (hL : L.length = nL) (hm : ∀ (i : Nat) (v : Value), L[i]? = some (some v) → (i, pTr ad v) ∈ lv)
    (h' : lv_has ls' nL ((i, w) :: lv.filter (fun q => !(q.1 == i) && !(q.1 + 1 == i && q.2.category == 2)))) : pLoc ad nL ls' ((pKill L i).set i none) := by
  refine ⟨_, h', by rw [List.length_set, pKill_len, hL], fun j v hj => ?_⟩
  rw [List.getElem?_set] at hj
  split at hj
  · split at hj <;> simp at hj
  · rename_i hne
    obtain ⟨h1, h2⟩ := pKill_get hj
    refine List.mem_cons_of_mem _ (List.mem_filter.mpr ⟨hm j v h1, ?_⟩)
    have e1 : (j == i) = false := by simpa using fun z => hne z.symm
    have e2 : (j + 1 == i && (pTr ad v).category == 2) = false := by
      rw [pTr_cat]
      cases hc : (j + 1 == i && v.category == 2) with
      | false => rfl
      | true =>
        rw [Bool.and_eq_true, beq_iff_eq, beq_iff_eq] at hc
        exact absurd hc h2
    simp only [e1, e2, Bool.not_false, Bool.and_self]
theorem okL_put {n : Nat} {L : PL} {i : Nat} (h : pOkL n L) : pOkL n ((pKill L i).set i none) := by
  intro j w hj
  rw [List.getElem?_set] at hj
  split at hj
  · split at hj <;> simp at hj
  · exact h j w (pKill_get hj).1
theorem pTable_mem {hh : List (Nat × Nat × Nat × Nat)} : tableOf hh = hh.map (fun h => ⟨h.1, h.2.1, h.2.2.1, h.2.2.2⟩) := by
  unfold tableOf
  rfl
section CATCH
variable {p : Program} {l : Launch} {e : Env} {R : Room} {s : State} {m : MethodId} {args : Array Value} {below : List Frame} {meth : Method} {c : Code} {H : Heap} {locs : List Loc} {cells slots : Nat} {Q : State → Prop} {cc : ByteArray} {pc nL : Nat} {ls : Array Slot} {ad : Nat → Nat} {st : List Value} {es es2 : PH}
variable {D : va_G} {cT : Nat → ClassId} {O : pOut} {A : Nat → Prop} {q a b len d n kc1 ks1 j x h0 pc' : Nat} {ra row : pMrow} {as rest : List Value} {ins : Instr} {L L' : PL}
set_option maxHeartbeats 4000000 in
theorem p_callT (hfl : l.stackTraces = false) (IH : pSim l O n) (hj : pM[j]? = some row) (hx : p.tables.exec = Jvm.exec) (hb : c.code = row.2.1) (hml : c.maxLocals = row.2.2.1) (hown : s.vm.findClass row.1.cls = some m.cls) (hts : ∀ w ∈ pW0, w.before args s = true) (hdg : decode row.2.1 pc = .ok (ins, len)) (hlen : pLen ins = 0 ∨ pLen ins = len) (hok : pOKe row.1.cls (ins, len, q, a, b) = true) (hra : pM[a]? = some ra) (hcall : pCall ins a b ra st es = some (as, rest))
    (hrun : pRun O n d a (0, pEntry as ra.2.2.1, [], es) = some (.inr x, es2, kc1, ks1)) (hHand0 : (if pIsV ins b = true then pHand j pc x else none) = some h0) (hPut : pPut row.2.2.2.2.2.2 L h0 = some (pc', L')) (htab : pNcode ≤ j → ∀ hh, pHH[j - pNcode]? = some hh → c.exceptionTable.toList = tableOf hh)
    (hA : ∀ q, s.heap.size ≤ q → A q) (hcy : pCy D cT ad O A s s.heap) (hl : pLoc ad row.2.2.1 ls L) (hwL : pOkL (64 + es.length) L) (hh : pHeap D cT ad A s.heap H locs es) (hwS : pOkS (64 + es.length) st) (hwH : pOkH (64 + es.length) es) (hR : d + 1 + 12 ≤ R.frames ∧ 100 * (d + 1 + 3) ≤ R.locals) (hf : cells + kc1 ≤ R.cells ∧ slots + ks1 ≤ R.slots)
    (K : ∀ (ad' : Nat → Nat) (H1 : Heap) (Lx : List Loc) (ls' : Array Slot), (∀ k, k < 64 + es.length → ad' k = ad k) → es.length ≤ es2.length → pHeap D cT ad' A s.heap H1 (locs ++ Lx) es2 → pOkH (64 + es2.length) es2 → pLoc ad' row.2.2.1 ls' L' → W p l e R s m args below meth c H1 (locs ++ Lx) (cells + kc1) (slots + ks1) Q (F0 m pc' ls' [])) :
    W p l e R s m args below meth c H locs cells slots Q (F0 m pc ls (st.map (pTr ad))) := by
  have hV : pIsV ins b = true := by
    by_cases hv : pIsV ins b = true
    · exact hv
    · rw [if_neg hv] at hHand0; cases hHand0
  have hHand : pHand j pc x = some h0 := by
    rw [if_pos hV] at hHand0
    exact hHand0
  have hjN : pNcode ≤ j := by
    unfold pHand at hHand
    split at hHand
    · cases hHand
    · omega
  obtain ⟨hh0, hHH, hfind, hrl⟩ : ∃ hh0 : List (Nat × Nat × Nat × Nat), pHH[j - pNcode]? = some hh0 ∧ (∃ h, hh0.find? (fun h => decide (h.1 ≤ pc) && (decide (pc < h.2.1) && pHis h.2.2.2 x)) = some h ∧ h.2.2.1 = h0) ∧ row.1.cls = RL := by
    unfold pHand at hHand
    split at hHand
    · cases hHand
    · split at hHand
      · cases hHand
      · rename_i hh0 hq
        split at hHand
        · rename_i h hfd
          refine ⟨hh0, hq, ⟨h, hfd, Option.some.inj hHand⟩, ?_⟩
          have h5 : (pM.drop pNcode).all (fun r => decide (r.1.cls = RL)) = true := by decide +kernel
          refine of_decide_eq_true (List.all_eq_true.mp h5 row (List.mem_of_getElem? (i := j - pNcode) ?_))
          rw [List.getElem?_drop, show pNcode + (j - pNcode) = j by omega]
          exact hj
        · cases hHand
  obtain ⟨hE, hfd, rfl⟩ := hfind
  obtain ⟨hP, pre, suf, hsp, hpre⟩ := List.find?_eq_some_iff_append.mp hfd
  have htb := htab hjN hh0 hHH
  have hokH := pHH_ok hh0 (List.mem_of_getElem? hHH)
  simp only [Bool.and_eq_true, decide_eq_true_eq] at hP
  obtain ⟨hP1, hP2, hP3⟩ := hP
  obtain ⟨g1, g2, g3, g4, g5, g6⟩ := pCall_spec hcall
  have hpl := pM_plain hra g1
  have hmx : ra.2.2.1 ≤ 60 := (pM_tab ra (List.mem_of_getElem? hra)).2.2.2.2
  have hwA : pOkS (64 + es.length) as := fun x hx => hwS x (by rw [g5]; exact List.mem_append_left _ (List.mem_reverse.mpr hx))
  have hsz : ls.size = row.2.2.1 := by obtain ⟨lv, h1, -, -⟩ := hl; exact h1.1
  rcases g6 with ⟨ix, rfl, hbb⟩ | ⟨ix, k0, As, fs, rfl, hbb, has, hk, he⟩ | ⟨ix, k0, As, rfl, hbb, has⟩
  · cases hV
  · have hdg' := pHd (n := 3) hdg hlen rfl (by decide)
    rcases hbb with rfl | rfl
    · simp only [pOKe] at hok
      split at hok
      · rename_i w hw
        simp only [Bool.and_eq_true, beq_iff_eq, decide_eq_true_eq] at hok
        obtain ⟨o1, o2, o3, o4, o5⟩ := hok
        have hlk := wML_in hw
        rw [o1, o2, o3, pY_at hra] at hlk
        obtain ⟨-, ha⟩ := pINI_ok a o4
        obtain ⟨q0, hc0, hq0⟩ := pINI_cls a ra o4 hra
        refine p_callX (r_VX hx hb hml hown hts hdg' hra trivial o4 o5 hlk (pMetX_of hfl IH hra ha hpl hrun g2 hwA hwH) hA hcy hh g3 hsz g5 g4 hmx hR hf ⟨As, has⟩ hk he hc0 hq0) (fun v' st₀ t H1 L h0 h1 hW hq hL => hq.elim) ?_
        intro E ce q9 st₀ t H1 Lx h0 h1 hW hX hL hce hcv hcl
        obtain ⟨hEx, ⟨ad', hwe⟩, hF⟩ := hX
        subst h1
        subst h0
        have hh' := p_after hA hh hwe hF.1 hF.2 hL
        rw [hrl] at hown
        obtain ⟨X, hX1, hlinkX⟩ := pHis_word hP3
        have hXE : X = E := Option.some.inj (hX1.symm.trans hEx)
        subst hXE
        refine vx_catch (E := X) (name := X) hown (pre.map (fun h => ⟨h.1, h.2.1, h.2.2.1, h.2.2.2⟩)) ⟨hE.1, hE.2.1, hE.2.2.1, hE.2.2.2⟩ (suf.map (fun h => ⟨h.1, h.2.1, h.2.2.1, h.2.2.2⟩)) ?_ ?_ ?_ ?_ (hts _ hlinkX) (va_Nw.use rfl (hcy.2.1.2.2.2 _ (pCast hX1))) hce hcv hcl ?_
        · rw [htb, pTable_mem, hsp, List.map_append, List.map_cons]
        · intro z hz
          obtain ⟨h2, hm2, rfl⟩ := List.mem_map.mp hz
          have hp2 := hpre h2 hm2
          have hm3 : h2 ∈ hh0 := by rw [hsp]; exact List.mem_append_left _ hm2
          obtain ⟨k1, y, hy, k2⟩ := hokH h2 hm3
          by_cases hcv2 : h2.1 ≤ pc ∧ pc < h2.2.1
          · refine Or.inr ⟨k1, ?_⟩
            obtain ⟨Y, hY1, hlinkY⟩ := pHis_word k2
            refine ⟨Y, hts _ hlinkY, hcy.2.1.2.2.1 x y X Y hX1 hY1 ?_⟩
            intro hxy
            subst hxy
            simp [hcv2.1, hcv2.2, k2] at hp2
          · left
            show (decide _ && decide _) = false
            by_cases h3 : h2.1 ≤ pc
            · have h4 : ¬ pc < h2.2.1 := fun z => hcv2 ⟨h3, z⟩
              simp [h4]
            · simp [h3]
        · show (decide _ && decide _) = true
          simp [hP1, hP2]
        · exact (hokH hE (by rw [hsp]; exact List.mem_append_right _ List.mem_cons_self)).1
        · unfold pPut at hPut
          obtain ⟨lv, l1, l2, l3⟩ := hl.ext hwe.1 hwL
          split at hPut
          · rename_i i u hat
            split at hPut
            · rename_i hi
              cases hPut
              obtain ⟨hd1, hd2⟩ := pM_at hj hat
              exact lv_astore_n hx hb (pHd hd1 hd2 rfl (by decide)) rfl l1 (by omega) rfl (fun ls' h' => K ad' t.heap Lx ls' hwe.1 hwe.2.1 hh' hwe.2.2.2.2 (pLoc.put l2 l3 h'))
            · cases hPut
          · rename_i i u hat
            split at hPut
            · rename_i hi
              cases hPut
              obtain ⟨hd1, hd2⟩ := pM_at hj hat
              exact lv_astore hx hb (pHd hd1 hd2 rfl (by decide)) l1 (by omega) rfl (fun ls' h' => K ad' t.heap Lx ls' hwe.1 hwe.2.1 hh' hwe.2.2.2.2 (pLoc.put l2 l3 h'))
            · cases hPut
          · cases hPut
      · cases hok
    · cases hV
  · cases hV
end CATCH
