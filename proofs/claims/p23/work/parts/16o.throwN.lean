/-! 'throw new NoSuchElementException("text")' -/
theorem pNS_at : pXN[3]? = some pNS := by decide +kernel
set_option maxHeartbeats 4000000 in
theorem vx_throwN {p : Program} {l : Launch} {e : Env} {R : Room} {s : State} {m : MethodId} {args : Array Value} {below : List Frame} {meth : Method} {c : Code} {H : Heap} {locs : List Loc} {cells slots mc ms : Nat} {ls : Array Slot} {Qc : Array Value → State → Outcome → State → Prop} {XC : String → State → State → Prop} {free : Addr → Prop} {cc : ByteArray} {pc : Nat} (hexec : p.tables.exec = Jvm.exec) (hb : c.code = cc) (hl : l.stackTraces = false) {own text : String} {ik is ic sa : Nat} {A : Nat → Prop}
    (hown : s.vm.findClass own = some m.cls)
    (hk : (Cond.classLink own ik pNS).before args s = true) (hini : (Cond.initialized pNS).before args s = true) (hstr : vk_R own is text sa s) (hat : ∀ w ∈ (pOwnN own ic).filter vx_no, w.before args s = true)
    (hgood : ∀ w ∈ Cond.classLink own ik pNS :: Cond.initialized pNS :: (pOwnN own ic).filter vx_no, vx_ot w = true)
    (hU : vx_Zq Bundle.tN "UNASSIGNED_STACK" Bundle.steD A s s.heap) (hN : vx_Zq Bundle.tN "SUPPRESSED_SENTINEL" Bundle.listD A s s.heap) (hS : va_S A s.heap H locs) (hsize : ls.size = c.maxLocals)
    (d0 : decode cc pc = .ok (.new ik, 3)) (d3 : decode cc (pc + 3) = .ok (.dup, 1)) (d4 : decode cc (pc + 4) = .ok (.ldc is, 2)) (d6 : decode cc (pc + 6) = .ok (.invokespecial ic, 3)) (d9 : decode cc (pc + 9) = .ok (.athrow, 1))
    (hout : ∀ x ∈ c.exceptionTable.toList, covers x (pc + 9) = false)
    (hRframes : 2 + 3 < R.frames) (hRlocals : 300 ≤ R.locals) (hRcells : cells + 1 ≤ R.cells) (hRslots : slots + 6 ≤ R.slots) (hlocks : meth.locks = false)
    (hx : ∀ t : State, s.vm.Alike t.vm → H.size ≤ t.heap.size → (∀ q : Nat, q < H.size → t.heap[q]? = H[q]?) → XC pNS s t)
    (hf : ∀ z ∈ locs, free z.base) (hc : cells + 1 ≤ mc) (hs : slots + 6 ≤ ms) :
    W p l e R s m args below meth c H locs cells slots (vx_MQ below Qc XC args s mc ms free) (F0 m pc ls []) := by
  intro T hT X
  have htr : e.platform.stackTraces = false := (show e.platform.stackTraces = l.stackTraces by rw [X.admits.platform]).trans hl
  have Y := vx_rebase X (R' := { frames := R.frames, locals := R.locals, cells := 1, slots := 6 }) (Nat.le_refl _) (Nat.le_refl _) hRcells hRslots
  obtain ⟨s', hA⟩ : ∃ z, z = (T.setVm s.vm).setFrames (.invoking m args :: below) := ⟨_, rfl⟩
  rw [← hA] at Y
  have hvm : s'.vm = s.vm := by rw [hA]; rfl
  have hhp : s'.heap = H := by rw [hA]; exact hT
  have hW0 : s.WarmedH s'.vm := by rw [hvm]; exact State.WarmedH.refl s
  have hat' : ∀ w ∈ (pOwnN own ic).filter vx_no, w.before args s' = true := fun w hw => vx_ot_at hW0 hvm.symm (hgood w (List.mem_cons_of_mem _ (List.mem_cons_of_mem _ hw))) (hat w hw)
  have hk' : (Cond.classLink own ik pNS).before args s' = true := vx_ot_at hW0 hvm.symm (hgood _ List.mem_cons_self) hk
  have hini' : (Cond.initialized pNS).before args s' = true := vx_ot_at hW0 hvm.symm (hgood _ (List.mem_cons_of_mem _ List.mem_cons_self)) hini
  have hU' : vx_Zq Bundle.tN "UNASSIGNED_STACK" Bundle.steD A s' s'.heap := by rw [hhp]; exact vx_Zq.moved hW0.alike (hU.kept hS.2.1)
  have hN' : vx_Zq Bundle.tN "SUPPRESSED_SENTINEL" Bundle.listD A s' s'.heap := by rw [hhp]; exact vx_Zq.moved hW0.alike (hN.kept hS.2.1)
  have h : ∀ w ∈ pOwnN own ic, w.before args s' = true := vx_own hat' (vx_isRefq hU'.1) (vx_isRefq hN'.1) hU'.2.word hN'.2.word
  have hown' : s'.vm.findClass own = some m.cls := by rw [hvm]; exact hown
  have hins : (Cond.instantiable pNS 6).before args s' = true := h _ (tail_in (k := 1) rfl)
  obtain ⟨vm₁, cX, kX, hfX, hkX, -, -, X₁, st1⟩ := Y.newCold hexec (own := own) (C := pNS) (index := ik) (n := 6) hown' hk' hins hini'
    (g := F0 m pc ls []) rfl (by rw [hb]; exact d0) (Nat.le_refl _) (Nat.le_refl _)
  generalize hT1 : (T.setVm vm₁).pushCell { cls := cX, slots := kX.instanceTypes.map defaultValue, vm := .none } = T1 at X₁ st1
  have hcat : (Value.ref T.heap.size).category = 1 := rfl
  have hcellA : T1.heap[T.heap.size]? = some (freshCell cX kX) := by rw [← hT1]; exact State.heap_pushCell_size _ _
  have d3' : decode c.code (pc + 3) = .ok (.dup, 1) := by rw [hb]; exact d3
  have d4' : decode c.code (pc + 4) = .ok (.ldc is, 2) := by rw [hb]; exact d4
  have hstr' : vk_R own is text sa s' := vk_R.warm hW0 hstr
  obtain ⟨U, hsteps, hrun, hend, hW, hsame, ce, hce, hcl0, hnone⟩ := p_ctorN X₁ hexec htr (own := own) (ic := ic) hown' h hfX hkX hcellA (by rw [hhp, hT]; exact Nat.le_refl _) (msg := .ref sa) rfl
    (g := { method := m, pc := pc + 6, locals := ls, stack := .ref sa :: .ref T.heap.size :: .ref T.heap.size :: [], locked := none }) rfl hsize rfl rfl (rest := []) rfl
    (by rw [hb]; exact d6) (by rw [hb]; exact d9) hout hRframes (by show 2 * 0 + (1 + 0) + (13 * (2 + 1) + 42) ≤ R.locals; omega) hlocks
  obtain ⟨f1, f2⟩ := vx_frame hsame
  rw [hhp] at f1 f2
  have hWs : s.WarmedH U.vm := State.WarmedH.trans hW0 hW
  have hcl : s.vm.findClass pNS = some ce.cls := by
    have h9 := hcl0
    rw [hvm] at h9
    exact h9
  have hall : s.sameButNew ({ U with vm := s.vm } : State) locs mc ms := by
    subst hA
    obtain ⟨e1, e2⟩ := hsame
    rw [State.setFrames_setFrames] at e1
    have h2 : (T.setVm s.vm).sameButNew ({ U with vm := s.vm } : State) [] (0 + 1) (0 + 6) := ⟨e1, e2⟩
    have h3 := X.same.trans h2
    rw [List.append_nil] at h3
    exact h3.mono hc hs
  refine ⟨U, ?_, .threw T.heap.size, hrun, hend, Or.inr ⟨T.heap.size, rfl, pNS, ce, locs, hx U hWs.alike f1 (fun q hq => f2 q hq (fun z hz => nomatch hz)), hce, hnone, hcl, hWs, hall, hf⟩⟩
  refine st1 _ ?_
  show Steps p.tables e below (T1.setTop { method := m, pc := pc + 3, locals := ls, stack := .ref T.heap.size :: [], locked := none }) _
  jvm_step X₁.here [X₁.here.top, hexec, d3', Value.category]
  exact X₁.ldcString hexec (own := own) (text := text) (index := is) (a := sa) hown' hstr'.1 hstr'.2
    (g := { method := m, pc := pc + 4, locals := ls, stack := .ref T.heap.size :: .ref T.heap.size :: [], locked := none }) rfl d4' _ hsteps
set_option maxHeartbeats 4000000 in
/-- a body that throws it, at its 'new' -/
theorem p_throwN {p : Program} {l : Launch} {e : Env} {R : Room} {s : State} {m : MethodId} {args : Array Value} {below : List Frame} {meth : Method} {c : Code} {H : Heap} {locs : List Loc} {cells slots mc ms pc j ix len q : Nat} {ls : Array Slot} {row : pMrow} {D : va_G} {cT : Nat → ClassId} {ad : Nat → Nat} {O : pOut} {A : Nat → Prop} {Qc : Array Value → State → Outcome → State → Prop} {XC : String → State → State → Prop} {free : Addr → Prop}
    (hfl : l.stackTraces = false) (hj : pM[j]? = some row) (hat : pAt row.2.2.2.2.2.2 pc = some (.new ix, len, q, 3, 1)) (hx : p.tables.exec = Jvm.exec) (hb : c.code = row.2.1) (hown : s.vm.findClass row.1.cls = some m.cls) (hts : ∀ w ∈ pW0, w.before args s = true) (hcy : pCy D cT ad O A s s.heap) (hS : va_S A s.heap H locs) (hsz : ls.size = c.maxLocals)
    (hex : ∀ z ∈ c.exceptionTable.toList, False) (hR : 12 ≤ R.frames ∧ 300 ≤ R.locals) (hcells : cells + 1 ≤ R.cells) (hslots : slots + 6 ≤ R.slots) (hlocks : meth.locks = false)
    (hXC : ∀ X, pXN[3]? = some X → ∀ t : State, s.vm.Alike t.vm → H.size ≤ t.heap.size → (∀ q : Nat, q < H.size → t.heap[q]? = H[q]?) → XC X s t) (hf : ∀ z ∈ locs, free z.base) (hc : cells + 1 ≤ mc) (hs : slots + 6 ≤ ms) :
    W p l e R s m args below meth c H locs cells slots (vx_MQ below Qc XC args s mc ms free) (F0 m pc ls []) := by
  obtain ⟨ht, hcls⟩ := pM_thr row (List.mem_of_getElem? hj)
  obtain ⟨rfl, is, ic, u1, u2, u3, u4, hC, a3, aR⟩ := pThr_at ht hat
  have hcl : row.1.cls = RX11 := by
    refine hcls ?_
    obtain ⟨r, -, -, hm⟩ := pAt_drop _ pc _ hat
    exact List.any_eq_true.mpr ⟨_, hm, rfl⟩
  rw [hcl] at hown
  have hok := pM_okAt hj hat
  simp only [pOKe] at hok
  split at hok
  · rename_i w X hw hX
    simp only [Bool.and_eq_true, beq_iff_eq] at hok
    obtain ⟨o1, o2, o3⟩ := hok
    cases Option.some.inj (hX.symm.trans pNS_at)
    have hcl2 := (pM_tab row (List.mem_of_getElem? hj)).2.1
    rw [hcl2, hcl] at o1
    unfold pThC at hC
    simp only [Bool.and_eq_true, beq_iff_eq] at hC
    obtain ⟨-, hC⟩ := hC
    split at hC
    · rename_i t wm hst hml
      simp only [Bool.and_eq_true, beq_iff_eq, decide_eq_true_eq] at hC
      obtain ⟨c1, c2, c3, c4, c5⟩ := hC
      have c6 : ic = 214 := by
        simp only [List.mem_cons, Prod.mk.injEq, List.not_mem_nil, or_false] at c5
        omega
      subst c6
      have hw1 := hts _ (wCK_in hw)
      rw [o1, o2, o3] at hw1
      have hi1 := hts _ (pW0_of (of_decide_eq_true vIniN) rfl)
      have hs1 := hcy.1.2.2.2.2.2 u2.1 t hst
      rw [c1, c2] at hs1
      have hat1 : ∀ w ∈ (pOwnN RX11 214).filter vx_no, w.before args s = true := fun w hw => by
        have h1 := List.all_eq_true.mp vAtN w hw
        simp only [Bool.and_eq_true, Bool.or_eq_true, decide_eq_true_eq] at h1
        obtain ⟨h1, h2, h3⟩ := h1
        rcases h2 with h2 | h2
        · exact hts _ (pW0_of h1 h2)
        · have h4 := hcy.2.1.2.2.2 w (List.mem_filter.mpr ⟨h1, h2⟩)
          refine va_Nw.use ?_ h4
          unfold isBad at h2
          split at h2
          · rfl
          · rfl
          · cases h2
      have hgood : ∀ w ∈ Cond.classLink RX11 ix pNS :: Cond.initialized pNS :: (pOwnN RX11 214).filter vx_no, vx_ot w = true := fun w hw => by
        rcases List.mem_cons.mp hw with rfl | hw
        · rfl
        · rcases List.mem_cons.mp hw with rfl | hw
          · rfl
          · have h1 := List.all_eq_true.mp vAtN w hw
            simp only [Bool.and_eq_true] at h1
            exact h1.2.2
      have d0 := (pM_at hj hat).1
      have d3 := (pM_at hj a3).1
      rcases aR with ⟨a4, a6, a9⟩ | ⟨hne, -⟩
      · exact vx_throwN hx hb hfl hown hw1 hi1 hs1 hat1 hgood hcy.2.1.1 hcy.2.1.2.1 hS hsz d0 d3 (pM_at hj a4).1 (pM_at hj a6).1 (pM_at hj a9).1 (fun z hz => (hex z hz).elim) (by show 2 + 3 < R.frames; omega) hR.2 hcells hslots hlocks (hXC pNS pNS_at) hf hc hs
      · exact absurd rfl hne
    · cases hC
  · cases hok
