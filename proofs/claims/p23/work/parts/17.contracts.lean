/-! contracts of methods that throw, and of the law's wrappers, which catch -/
set_option maxHeartbeats 4000000 in
/-- a body that throws, at its 'new' -/
theorem p_throw {p : Program} {l : Launch} {e : Env} {R : Room} {s : State} {m : MethodId} {args : Array Value} {below : List Frame} {meth : Method} {c : Code} {H : Heap} {locs : List Loc} {cells slots mc ms pc j ix len q x : Nat} {ls : Array Slot} {row : pMrow} {D : va_G} {cT : Nat → ClassId} {ad : Nat → Nat} {O : pOut} {A : Nat → Prop} {Qc : Array Value → State → Outcome → State → Prop} {XC : String → State → State → Prop} {free : Addr → Prop}
    (hfl : l.stackTraces = false) (hj : pM[j]? = some row) (hat : pAt row.2.2.2.2.2.2 pc = some (.new ix, len, q, x, 1)) (hx : p.tables.exec = Jvm.exec) (hb : c.code = row.2.1) (hown : s.vm.findClass row.1.cls = some m.cls) (hts : ∀ w ∈ pW0, w.before args s = true) (hcy : pCy D cT ad O A s s.heap) (hS : va_S A s.heap H locs) (hsz : ls.size = c.maxLocals)
    (hex : ∀ z ∈ c.exceptionTable.toList, False) (hR : 12 ≤ R.frames ∧ 300 ≤ R.locals) (hcells : cells + 1 ≤ R.cells) (hslots : slots + 6 ≤ R.slots) (hlocks : meth.locks = false)
    (hXC : ∀ X, pXN[x]? = some X → ∀ t : State, s.vm.Alike t.vm → H.size ≤ t.heap.size → (∀ q : Nat, q < H.size → t.heap[q]? = H[q]?) → XC X s t) (hf : ∀ z ∈ locs, free z.base) (hc : cells + 1 ≤ mc) (hs : slots + 6 ≤ ms) :
    W p l e R s m args below meth c H locs cells slots (vx_MQ below Qc XC args s mc ms free) (F0 m pc ls []) := by
  by_cases hx3 : x = 3
  · subst hx3
    exact p_throwN hfl hj hat hx hb hown hts hcy hS hsz hex hR hcells hslots hlocks hXC hf hc hs
  · exact p_throw3 hx3 hfl hj hat hx hb hown hts hcy hS hsz hex hR hcells hslots hlocks hXC hf hc hs
/-- the world behind a throw -/
def pXr (D : va_G) (cT : Nat → ClassId) (ad : Nat → Nat) (es es1 : PH) (sz x : Nat) : String → State → State → Prop := fun E st t =>
  pXN[x]? = some E ∧ (∃ ad' : Nat → Nat, pWe D cT ad es es1 sz ad' t.heap) ∧ va_F (va_A (pWs cT ad es) sz) st t
set_option maxHeartbeats 4000000 in
/-- the contract of a method that throws -/
theorem pMetX_of {l : Launch} {O : pOut} {n d a x : Nat} {ra : pMrow} {as : List Value} {es es1 : PH} {kc ks sz : Nat} {D : va_G} {cT : Nat → ClassId} {ad : Nat → Nat} (hfl : l.stackTraces = false) (IH : pSim l O n) (hra : pM[a]? = some ra) (ha : a < pNcode) (hpl : Jvm.plainName ra.1.cls = true) (hrun : pRun O n d a (0, pEntry as ra.2.2.1, [], es) = some (.inr x, es1, kc, ks))
    (hasz : pAsz as ≤ ra.2.2.1) (hwA : pOkS (64 + es.length) as) (hwH : pOkH (64 + es.length) es) :
    vx_Met l ra.1 (Cond.code ra.1 ra.2.1 ra.2.2.1 ra.2.2.2.1 :: pW0) (pRoom d kc ks) (va_Pc (as.map (pTr ad)) (fun U => U.heap.size = sz ∧ pWo D cT ad O es sz U)) (fun _ _ _ _ => False) (pXr D cT ad es es1 sz x) kc ks (va_A (pWs cT ad es) sz) := by
  refine vx_ofW (cc := ra.2.1) (maxL := ra.2.2.1) (ret := ra.2.2.2.1) hpl rfl ?_
  intro p e s m args below meth c s₁ B hml hex hv
  obtain ⟨rfl, hsz, hP, hD0, hcy⟩ := hv
  have hts := atoms_spec (ws := Cond.code ra.1 ra.2.1 ra.2.2.1 ra.2.2.2.1 :: pW0) B.pre
  have hnm : ra.1.name = "<init>" → meth.name = "<init>" := fun h => (name_of_methodNamed B.named B.method).1.trans h
  subst hsz
  have hD := hD0.self (sz := s.heap.size)
  rw [lg_entry_eq]
  refine IH d a ra 0 (pEntry as ra.2.2.1) [] es (.inr x) es1 kc ks hra hrun p e _ s m _ below meth c s.heap [] 0 0 _ _ ad D cT (va_A (pWs cT ad es) s.heap.size)
    ⟨B.exec, B.bytes, hml, findClass_of_methodNamed B.named, fun w hw => hts w (List.mem_cons_of_mem _ hw), hnm, Nat.le_refl _, Nat.le_refl _, fun h => absurd ha (by omega)⟩
    (fun q h => Or.inr h) hcy (pEntry_loc hasz) ⟨hP, hD, va_S.rf⟩ (pEntry_ok hwA) (fun _ h => by cases h) hwH (by rw [Nat.zero_add]; exact Nat.le_refl _) (by rw [Nat.zero_add]; exact Nat.le_refl _) (fun v _ _ _ _ _ _ _ _ _ h => by cases h) ?_
  intro x' ad' H' locs' cells' slots' ls' L' pc' ix len q hx' hag hle hh' hwH' hc' hs' hloc' hat
  cases hx'
  rw [Nat.zero_add] at hc' hs'
  have hlsz : ls'.size = c.maxLocals := by
    obtain ⟨lv, h1, -, -⟩ := hloc'
    rw [hml]; exact h1.1
  refine p_throw (D := D) (cT := cT) (ad := ad) (O := O) hfl hra hat B.exec B.bytes (findClass_of_methodNamed B.named) (fun w hw => hts w (List.mem_cons_of_mem _ hw)) hcy hh'.2.2 hlsz hex ⟨by show 12 ≤ d + 12; omega, by show 300 ≤ 100 * (d + 3); omega⟩ (by show cells' + 1 ≤ kc; omega) (by show slots' + 6 ≤ ks; omega) B.notSynchronized ?_ hh'.2.2.2.2 (by omega) (by omega)
  intro X hX t hal hle2 hq
  refine ⟨hX, ⟨ad', hag, hle, ?_, hh'.2.1, hwH'⟩, ?_⟩
  · exact hh'.1.kept fun k z hk => hq z.1 (hh'.1 k z hk).lt
  · exact ⟨Nat.le_trans hh'.2.2.1 hle2, fun z h1 h2 => (hq z (Nat.lt_of_lt_of_le h1 hh'.2.2.1)).trans (hh'.2.2.2.1 z h1 h2)⟩
set_option maxHeartbeats 4000000 in
/-- the contract of a wrapper of the law: it has a table, and returns -/
theorem pMetW_of {l : Launch} {O : pOut} {n d a : Nat} {ra : pMrow} {hh : List (Nat × Nat × Nat × Nat)} {as : List Value} {es es1 : PH} {v : Option Value} {kc ks sz : Nat} {D : va_G} {cT : Nat → ClassId} {ad : Nat → Nat} (IH : pSim l O n) (hra : pM[a]? = some ra) (hh1 : pHH[a - pNcode]? = some hh) (hpl : Jvm.plainName ra.1.cls = true) (hrun : pRun O n d a (0, pEntry as ra.2.2.1, [], es) = some (.inl v, es1, kc, ks))
    (hasz : pAsz as ≤ ra.2.2.1) (hwA : pOkS (64 + es.length) as) (hwH : pOkH (64 + es.length) es) :
    vx_Met l ra.1 (Cond.codeWith ra.1 ra.2.1 ra.2.2.1 ra.2.2.2.1 hh :: pW0) (pRoom d kc ks) (va_Pc (as.map (pTr ad)) (fun U => U.heap.size = sz ∧ pWo D cT ad O es sz U)) (pQr D cT ad es es1 sz v) (fun _ _ _ => False) kc ks (va_A (pWs cT ad es) sz) := by
  refine vx_ofWH (cc := ra.2.1) (maxL := ra.2.2.1) (ret := ra.2.2.2.1) (hh := hh) hpl rfl ?_
  intro p e s m args below meth c s₁ B hml hv
  obtain ⟨rfl, hsz, hP, hD0, hcy⟩ := hv
  have hts := atoms_spec (ws := Cond.codeWith ra.1 ra.2.1 ra.2.2.1 ra.2.2.2.1 hh :: pW0) B.pre
  have hnm : ra.1.name = "<init>" → meth.name = "<init>" := fun h => (name_of_methodNamed B.named B.method).1.trans h
  have htab := vx_table (x := ra.1) B (hts _ List.mem_cons_self)
  subst hsz
  have hD := hD0.self (sz := s.heap.size)
  rw [lg_entry_eq]
  refine IH d a ra 0 (pEntry as ra.2.2.1) [] es (.inl v) es1 kc ks hra hrun p e _ s m _ below meth c s.heap [] 0 0 _ _ ad D cT (va_A (pWs cT ad es) s.heap.size)
    ⟨B.exec, B.bytes, hml, findClass_of_methodNamed B.named, fun w hw => hts w (List.mem_cons_of_mem _ hw), hnm, Nat.le_refl _, Nat.le_refl _, fun h hh2 h2 => by
      have : hh = hh2 := Option.some.inj (hh1.symm.trans h2)
      rw [← this]; exact htab⟩
    (fun q h => Or.inr h) hcy (pEntry_loc hasz) ⟨hP, hD, va_S.rf⟩ (pEntry_ok hwA) (fun _ h => by cases h) hwH (by rw [Nat.zero_add]; exact Nat.le_refl _) (by rw [Nat.zero_add]; exact Nat.le_refl _) ?_ (fun x _ _ _ _ _ _ _ _ _ _ _ h => by cases h)
  intro v' ad' H' locs' ls' pc' st' ins len x hv' hag hle hh' hwH' hwS' hat hfin
  cases hv'
  rw [Nat.zero_add, Nat.zero_add]
  obtain ⟨hdg, hlen⟩ := pM_at hra hat
  exact vx_ret (p_fin (ad' := ad') B.exec B.bytes B.returns B.notSynchronized hdg hlen hfin (fun t ht hW => ⟨⟨ad', ⟨hag, hle, by rw [ht]; exact hh'.1, hh'.2.1, hwH'⟩, pFin_ok hfin hwS', rfl⟩, hh'.2.2.F ht⟩) hh'.2.2.2.2)
