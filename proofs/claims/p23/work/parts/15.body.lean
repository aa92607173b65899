/-! a method's body, run purely: its contract -/
def pRoom (d kc ks : Nat) : Room := { frames := d + 12, cells := kc, slots := ks, locals := 100 * (d + 3) }
/-- what holds all along a method's body -/
def pBd (p : Program) (R : Room) (s : State) (m : MethodId) (args : Array Value) (meth : Method) (c : Code) (j d : Nat) (row : pMrow) : Prop :=
  p.tables.exec = Jvm.exec ∧ c.code = row.2.1 ∧ c.maxLocals = row.2.2.1 ∧ s.vm.findClass row.1.cls = some m.cls ∧ (∀ w ∈ pW0, w.before args s = true) ∧ (row.1.name = "<init>" → meth.name = "<init>") ∧ d + 12 ≤ R.frames ∧ 100 * (d + 3) ≤ R.locals ∧
  (pNcode ≤ j → ∀ hh, pHH[j - pNcode]? = some hh → c.exceptionTable.toList = tableOf hh)
/-- run from here to the method's end, and what the machine does then -/
def pSim (l : Launch) (O : pOut) (n : Nat) : Prop :=
  ∀ (d j : Nat) (row : pMrow) (pc : Nat) (L : PL) (st : List Value) (es : PH) (res : Option Value ⊕ Nat) (es1 : PH) (kc ks : Nat), pM[j]? = some row → pRun O n d j (pc, L, st, es) = some (res, es1, kc, ks) →
  ∀ (p : Program) (e : Env) (R : Room) (s : State) (m : MethodId) (args : Array Value) (below : List Frame) (meth : Method) (c : Code) (H : Heap) (locs : List Loc) (cells slots : Nat) (Q : State → Prop) (ls : Array Slot) (ad : Nat → Nat) (D : va_G) (cT : Nat → ClassId) (A : Nat → Prop),
  pBd p R s m args meth c j d row → (∀ q, s.heap.size ≤ q → A q) → pCy D cT ad O A s s.heap → pLoc ad row.2.2.1 ls L → pHeap D cT ad A s.heap H locs es → pOkL (64 + es.length) L → pOkS (64 + es.length) st → pOkH (64 + es.length) es → cells + kc ≤ R.cells → slots + ks ≤ R.slots →
  (∀ (v : Option Value) (ad' : Nat → Nat) (H' : Heap) (locs' : List Loc) (ls' : Array Slot) (pc' : Nat) (st' : List Value) (ins : Instr) (len : Nat) (x : Nat × Nat × Nat), res = .inl v → (∀ k, k < 64 + es.length → ad' k = ad k) → es.length ≤ es1.length → pHeap D cT ad' A s.heap H' locs' es1 → pOkH (64 + es1.length) es1 → pOkS (64 + es1.length) st' →
    pAt row.2.2.2.2.2.2 pc' = some (ins, len, x) → pFin ins st' row.2.2.2.1 = some v → W p l e R s m args below meth c H' locs' (cells + kc) (slots + ks) Q (F0 m pc' ls' (st'.map (pTr ad')))) →
  (∀ (x : Nat) (ad' : Nat → Nat) (H' : Heap) (locs' : List Loc) (cells' slots' : Nat) (ls' : Array Slot) (L' : PL) (pc' ix len q : Nat), res = .inr x → (∀ k, k < 64 + es.length → ad' k = ad k) → es.length ≤ es1.length → pHeap D cT ad' A s.heap H' locs' es1 → pOkH (64 + es1.length) es1 → cells' + 1 = cells + kc → slots' + 6 = slots + ks → pLoc ad' row.2.2.1 ls' L' →
    pAt row.2.2.2.2.2.2 pc' = some (.new ix, len, q, x, 1) → W p l e R s m args below meth c H' locs' cells' slots' Q (F0 m pc' ls' [])) →
  W p l e R s m args below meth c H locs cells slots Q (F0 m pc ls (st.map (pTr ad)))
theorem pEntry_mem (ad : Nat → Nat) : ∀ (as : List Value) (i0 j : Nat) (v : Value), ((as.flatMap (fun v => if v.category = 2 then [some v, none] else [some v]) : PL))[j]? = some (some v) → (i0 + j, pTr ad v) ∈ lv_args i0 (as.map (pTr ad))
  | [], i0, j, v, h => by simp at h
  | w :: r, i0, j, v, h => by
    rw [List.flatMap_cons] at h
    rw [List.map_cons, lv_args, pTr_cat]
    by_cases hc : w.category = 2
    · rw [if_pos hc] at h ⊢
      match j, h with
      | 0, h => cases h; exact List.mem_cons_self
      | 1, h => cases h
      | j + 2, h =>
        have h2 := pEntry_mem ad r (i0 + 2) j v h
        rw [show i0 + (j + 2) = i0 + 2 + j by omega]
        exact List.mem_cons_of_mem _ h2
    · rw [if_neg hc] at h ⊢
      match j, h with
      | 0, h => cases h; exact List.mem_cons_self
      | j + 1, h =>
        have h2 := pEntry_mem ad r (i0 + 1) j v h
        rw [show i0 + (j + 1) = i0 + 1 + j by omega]
        exact List.mem_cons_of_mem _ h2
def pAsz (as : List Value) : Nat := (as.flatMap (fun v => if v.category = 2 then [some v, none] else [some v]) : PL).length
theorem pAsz_lg (ad : Nat → Nat) : ∀ as : List Value, (lg_sl (as.map (pTr ad))).length = pAsz as
  | [] => rfl
  | v :: r => by
    have ih := pAsz_lg ad r
    unfold lg_sl pAsz at ih ⊢
    rw [List.map_cons, List.flatMap_cons, List.flatMap_cons, List.length_append, List.length_append, ih, pTr_cat]
    by_cases hc : v.category = 2
    · rw [if_pos hc, if_pos hc]; rfl
    · rw [if_neg hc, if_neg hc]; rfl
theorem pEntry_loc {ad : Nat → Nat} {as : List Value} {n : Nat} (h : pAsz as ≤ n) : pLoc ad n ((lg_sl (as.map (pTr ad)) ++ List.replicate (n - (lg_sl (as.map (pTr ad))).length) Slot.unset).toArray) (pEntry as n) := by
  refine ⟨_, lv_entry (as.map (pTr ad)) (by rw [pAsz_lg]; exact h), ?_, fun j v hj => ?_⟩
  · unfold pEntry
    rw [List.length_append, List.length_replicate]
    unfold pAsz at h
    omega
  · unfold pEntry at hj
    by_cases hl : j < pAsz as
    · rw [List.getElem?_append_left hl] at hj
      have := pEntry_mem ad as 0 j v hj
      rwa [Nat.zero_add] at this
    · rw [List.getElem?_append_right (by unfold pAsz at hl; omega)] at hj
      rw [List.getElem?_replicate] at hj
      split at hj <;> simp at hj
theorem pEntry_ok {k n : Nat} {as : List Value} (h : pOkS k as) : pOkL k (pEntry as n) := by
  intro i v hi
  have hm := List.mem_of_getElem? hi
  unfold pEntry at hm
  rcases List.mem_append.mp hm with h1 | h1
  · obtain ⟨w, hw, h2⟩ := List.mem_flatMap.mp h1
    split at h2
    · rcases List.mem_cons.mp h2 with h3 | h3
      · cases h3; exact h v hw
      · simp at h3
    · rw [List.mem_singleton] at h2
      cases h2; exact h v hw
  · have := List.eq_of_mem_replicate h1
    cases this
/-- the world that a call finds -/
def pWo (D : va_G) (cT : Nat → ClassId) (ad : Nat → Nat) (O : pOut) (es : PH) (sz : Nat) (U : State) : Prop :=
  va_P D vwCl (pWs cT ad es) U.heap ∧ va_D (fun _ => True) (pWs cT ad es) ∧ pCy D cT ad O (va_A (pWs cT ad es) sz) U U.heap
/-- the world that it leaves -/
def pWe (D : va_G) (cT : Nat → ClassId) (ad : Nat → Nat) (es es1 : PH) (sz : Nat) (ad' : Nat → Nat) (H : Heap) : Prop :=
  (∀ k, k < 64 + es.length → ad' k = ad k) ∧ es.length ≤ es1.length ∧ va_P D vwCl (pWs cT ad' es1) H ∧ va_D (va_A (pWs cT ad es) sz) (pWs cT ad' es1) ∧ pOkH (64 + es1.length) es1
def pQr (D : va_G) (cT : Nat → ClassId) (ad : Nat → Nat) (es es1 : PH) (sz : Nat) (v : Option Value) : Array Value → State → Outcome → State → Prop := fun _ st oc t =>
  (∃ ad' : Nat → Nat, pWe D cT ad es es1 sz ad' t.heap ∧ pOkS (64 + es1.length) v.toList ∧ oc = .returned (v.map (pTr ad'))) ∧ va_F (va_A (pWs cT ad es) sz) st t
theorem pFin_ok {ins : Instr} {st : List Value} {ret : Option FieldType} {v : Option Value} {n : Nat} (h : pFin ins st ret = some v) (hs : pOkS n st) : pOkS n v.toList := by
  unfold pFin at h
  split at h
  · split at h
    · cases h; exact hs
    · split at h
      · cases h; exact hs
      · cases h
    · cases h
  · split at h
    · cases h; exact hs
    · cases h
  · split at h
    · cases h; exact hs
    · cases h
  · split at h
    · cases h; exact hs
    · cases h
  · cases h
/-- at the end of a body that returns -/
theorem p_fin {p : Program} {l : Launch} {e : Env} {R : Room} {s : State} {m : MethodId} {args : Array Value} {below : List Frame} {meth : Method} {c : Code} {H : Heap} {locs : List Loc} {kc ks pc len : Nat} {ls : Array Slot} {ins : Instr} {st : List Value} {ret : Option FieldType} {v : Option Value} {cc : ByteArray} {ad' : Nat → Nat} {Qc : Array Value → State → Outcome → State → Prop} {free : Addr → Prop}
    (hx : p.tables.exec = Jvm.exec) (hb : c.code = cc) (hr : meth.sig.returnType = ret) (hlocks : meth.locks = false) (hdg : decode cc pc = .ok (ins, len)) (hlen : pLen ins = 0 ∨ pLen ins = len) (hf : pFin ins st ret = some v)
    (hq : ∀ t : State, t.heap = H → s.WarmedH t.vm → Qc args s (.returned (v.map (pTr ad'))) t) (hfr : ∀ q ∈ locs, free q.base) : W p l e R s m args below meth c H locs kc ks (MQ below Qc args s kc ks free) (F0 m pc ls (st.map (pTr ad'))) := by
  unfold pFin at hf
  split at hf
  · split at hf
    · cases hf
      exact W.iret hx hb hr hq hfr (pHd hdg hlen rfl (by decide)) hlocks
    · split at hf
      · rename_i hv
        cases hf
        refine W.zret hx hb hr ?_ hq hfr (pHd hdg hlen rfl (by decide)) hlocks
        rcases hv with hv | hv <;> subst hv <;> rfl
      · cases hf
    · cases hf
  · split at hf
    · cases hf
      exact W.lret hx hb hr hq hfr (pHd hdg hlen rfl (by decide)) hlocks
    · cases hf
  · split at hf
    · cases hf
      exact W.aret hx hb hr (Or.inr ⟨_, rfl⟩) (Or.inr ⟨_, rfl⟩) hq hfr (pHd hdg hlen rfl (by decide)) hlocks
    · cases hf
  · split at hf
    · cases hf
      exact W.vret hx hb hr hq hfr (pHd hdg hlen rfl (by decide)) hlocks
    · cases hf
  · cases hf
set_option maxHeartbeats 4000000 in
/-- the contract of a method that returns -/
theorem pMet_of {l : Launch} {O : pOut} {n d a : Nat} {ra : pMrow} {as : List Value} {es es1 : PH} {v : Option Value} {kc ks sz : Nat} {D : va_G} {cT : Nat → ClassId} {ad : Nat → Nat} (IH : pSim l O n) (hra : pM[a]? = some ra) (ha : a < pNcode) (hpl : Jvm.plainName ra.1.cls = true) (hrun : pRun O n d a (0, pEntry as ra.2.2.1, [], es) = some (.inl v, es1, kc, ks))
    (hasz : pAsz as ≤ ra.2.2.1) (hwA : pOkS (64 + es.length) as) (hwH : pOkH (64 + es.length) es) :
    Met l ra.1 (Cond.code ra.1 ra.2.1 ra.2.2.1 ra.2.2.2.1 :: pW0) (pRoom d kc ks) (va_Pc (as.map (pTr ad)) (fun U => U.heap.size = sz ∧ pWo D cT ad O es sz U)) (pQr D cT ad es es1 sz v) kc ks (va_A (pWs cT ad es) sz) := by
  refine Met.ofW (cc := ra.2.1) (maxL := ra.2.2.1) (ret := ra.2.2.2.1) hpl rfl ?_
  intro p e s m args below meth c s₁ B hml hv
  obtain ⟨rfl, hsz, hP, hD0, hcy⟩ := hv
  have hts := atoms_spec (ws := Cond.code ra.1 ra.2.1 ra.2.2.1 ra.2.2.2.1 :: pW0) B.pre
  have hnm : ra.1.name = "<init>" → meth.name = "<init>" := fun h => (name_of_methodNamed B.named B.method).1.trans h
  subst hsz
  have hD := hD0.self (sz := s.heap.size)
  rw [lg_entry_eq]
  refine IH d a ra 0 (pEntry as ra.2.2.1) [] es (.inl v) es1 kc ks hra hrun p e _ s m _ below meth c s.heap [] 0 0 _ _ ad D cT (va_A (pWs cT ad es) s.heap.size)
    ⟨B.exec, B.bytes, hml, findClass_of_methodNamed B.named, fun w hw => hts w (List.mem_cons_of_mem _ hw), hnm, Nat.le_refl _, Nat.le_refl _, fun h => absurd ha (by omega)⟩
    (fun q h => Or.inr h) hcy (pEntry_loc hasz) ⟨hP, hD, va_S.rf⟩ (pEntry_ok hwA) (fun _ h => by cases h) hwH (by rw [Nat.zero_add]; exact Nat.le_refl _) (by rw [Nat.zero_add]; exact Nat.le_refl _) ?_ (fun x _ _ _ _ _ _ _ _ _ _ _ h => by cases h)
  intro v' ad' H' locs' ls' pc' st' ins len x hv' hag hle hh' hwH' hwS' hat hfin
  cases hv'
  rw [Nat.zero_add, Nat.zero_add]
  obtain ⟨hdg, hlen⟩ := pM_at hra hat
  exact p_fin (ad' := ad') B.exec B.bytes B.returns B.notSynchronized hdg hlen hfin (fun t ht hW => ⟨⟨ad', ⟨hag, hle, by rw [ht]; exact hh'.1, hh'.2.1, hwH'⟩, pFin_ok hfin hwS', rfl⟩, hh'.2.2.F ht⟩) hh'.2.2.2.2
