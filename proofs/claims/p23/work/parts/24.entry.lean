-- ===== end of PART A; then your names; then what follows =====
/-! THE CLAIM OUT OF ONE WALK OF THE LAW'S BODY. Your part is whole_start (and what it stands on); all else here is the same for every law, but numbers. -/
def R_law : String := "MoveNotesLaw"
def lw_P (b : Addr) (xs : List Int32) (args : Array Value) (s : State) : Prop := args = #[.ref b] ∧ s.IntsAt b xs ∧ xs.length ≤ 3584 ∧ (Jvm.Cond.and given_1 narrow_1).before args s = true
def lw_Q (_ : Array Value) (s : State) (o : Outcome) (t : State) : Prop := o = .returned (some (.int 1)) ∧ Framed s o t [] 601024 7293034
def lw_Z (below : List Frame) (a : Array Value) (s : State) : State → Prop := fun t => ∃ o, t.status = .running ∧ Ended t below o ∧ lw_Q a s o t
/-- the law's own end, with 1 on the stack, nothing written that was there before, its room as the claim has it -/
theorem lw_ret {p : Program} {l : Launch} {e : Env} {s : State} {m : MethodId} {below : List Frame} {meth : Method} {c : Code} {b : Nat} (hx : p.tables.exec = Jvm.exec) (hb : c.code = code) (hr : meth.sig.returnType = ret) (hlocks : meth.locks = false) {pc : Nat} {H : Heap} {ls : Array Slot} (hdg : decode code pc = .ok (.ireturn, 1)) : W p l e room_1 s m #[Value.ref b] below meth c H [] 601024 7293034 (lw_Z below #[Value.ref b] s) (F0 m pc ls [.int 1]) := by
  intro T hT X
  obtain ⟨fs, hret, hrun, hended, hW, hframe⟩ := X.leave (v := some (.int 1)) (hlocks := hlocks) (fun h => by rw [hr] at h; cases h)
  have hmeth' : T.vm.method? m = some meth := X.method'
  refine ⟨T.setFrames fs, ?_, .returned (some (.int 1)), hrun, hended, rfl, ⟨_, rfl⟩, hW, hframe⟩
  jvm_step X.here [X.here.top, hx, hb, hdg, hmeth', hr, ret, narrow_b1]
  (try refine ⟨rfl, ?_⟩); (try refine ⟨rfl, ?_⟩)
  first | (intro acts; rw [hret _ acts rfl rfl rfl]) | rw [hret _ _ rfl rfl rfl]
  exact Steps.refl _
/-- what holds at the law's entry: the machine, the code, the tables' words (any of lw_tbl by 'hts w (by decide +kernel)'), the script of L ints xs at the cell b, what the Statement gives of the start (any of its parts by flat_of_before) -/
def lw_At (p : Program) (s : State) (m : MethodId) (meth : Method) (c : Code) (b L : Nat) (xs : Nat → Int32) : Prop :=
  p.tables.exec = Jvm.exec ∧ c.code = code ∧ meth.sig.returnType = ret ∧ c.maxLocals = 8 ∧ s.vm.findClass R_law = some m.cls ∧ (∀ w ∈ lw_tbl, w.before #[Value.ref b] s = true) ∧ va_X b L xs s s.heap ∧ b < s.heap.size ∧ meth.locks = false ∧ (Jvm.Cond.and given_1 narrow_1).before #[Value.ref b] s = true
theorem pLaw_at : ∃ row, pM[301]? = some row ∧ row.1 = x ∧ row.2.1 = code ∧ row.2.2.1 = 8 ∧ row.2.2.2.1 = ret ∧ row.1.cls = R_law ∧ row.1.name ≠ "<init>" := ⟨_, rfl, rfl, rfl, rfl, rfl, rfl, by decide⟩
theorem pHH_law : pHH[301 - pNcode]? = none := by decide +kernel
set_option maxHeartbeats 4000000 in
/-- the law's walk out of its pure run -/
theorem pure_start {p : Program} {e : Env} {s : State} {m : MethodId} {below : List Frame} {meth : Method} {c : Code} (l : Launch) (hflags : l.flags = flags0) {b n : Nat} {xs : Nat → Int32} (C0 : lw_At p s m meth c b n xs)
    {k d kc ks : Nat} {es1 : PH} (hrun : pRun (pO0 xs n) k d 301 (0, pEntry [.ref 7] 8, [], []) = some (.inl (some (.int 1)), es1, kc, ks)) (hd : d ≤ 400) (hkc : kc ≤ 601024) (hks : ks ≤ 7293034) :
    W p l e room_1 s m #[Value.ref b] below meth c s.heap [] 0 0 (lw_Z below #[Value.ref b] s) (entryFrame m ([Value.ref b] : List Value).toArray 8) := by
  obtain ⟨hx, hb, hr, hml, hown, hts, hX, hbs, hlocks, hg⟩ := C0
  have hfl : l.stackTraces = false := by
    unfold Launch.stackTraces
    rw [hflags]
    decide
  obtain ⟨D, cT, ad, had, hcy⟩ := st_Cy hts hX hbs hg
  obtain ⟨row, hrow, h1, h2, h3, h4, h5, h6⟩ := pLaw_at
  have hts0 : ∀ w ∈ pW0, w.before #[Value.ref b] s = true := fun w hw => hts w (pW0_in hw).1
  have hnil : pWs cT ad [] = [] := rfl
  rw [lg_entry_eq]
  have e0 : ([Value.ref b] : List Value) = ([Value.ref 7] : List Value).map (pTr ad) := by
    show _ = [Value.ref (ad 7)]
    rw [had]
  have hloc : pLoc ad 8 ((lg_sl ([Value.ref b] : List Value) ++ List.replicate (8 - (lg_sl ([Value.ref b] : List Value)).length) Slot.unset).toArray) (pEntry [.ref 7] 8) := by
    rw [e0]
    exact pEntry_loc (by decide)
  rw [← h3] at hrun hloc
  have hR1 : room_1.cells = 601024 ∧ room_1.slots = 7293034 ∧ 2000 ≤ room_1.frames ∧ 80000 ≤ room_1.locals := by decide
  refine pSim_all hfl (pO0 xs n) k d 301 row 0 _ [] [] _ es1 kc ks hrow hrun p e room_1 s m #[Value.ref b] below meth c s.heap [] 0 0 _ _ ad D cT (fun q => s.heap.size ≤ q)
    ⟨hx, hb.trans h2.symm, hml.trans h3.symm, by rw [h5]; exact hown, hts0, fun h => absurd h h6, by omega, by omega, fun _ hh h => by rw [pHH_law] at h; cases h⟩
    (fun q h => h) hcy (by rw [← h3]; rw [h3]; rw [h3] at hloc; exact hloc) ⟨fun k q h => by rw [hnil] at h; simp at h, ⟨fun i j p q h => by rw [hnil] at h; simp at h, fun k q h => by rw [hnil] at h; simp at h⟩, va_S.rf⟩ ?_ (fun _ h => by cases h) (fun k e h => by simp at h) (by omega) (by omega) ?_ (fun x _ _ _ _ _ _ _ _ _ _ _ h => by cases h)
  · refine pEntry_ok (fun v hv => ?_)
    rw [List.mem_singleton] at hv
    subst hv
    decide
  · intro v ad' H' locs' ls' pc' st' ins len x' hv hag hle hh' hwH' hwS' hat hfin
    cases hv
    have hst : ins = .ireturn ∧ st' = [.int 1] := by
      unfold pFin at hfin
      split at hfin
      · split at hfin
        · cases hfin; exact ⟨rfl, rfl⟩
        · split at hfin
          · cases hfin; exact ⟨rfl, rfl⟩
          · cases hfin
        · cases hfin
      · split at hfin
        · cases hfin
        · cases hfin
      · split at hfin
        · cases hfin
        · cases hfin
      · split at hfin
        · cases hfin
        · cases hfin
      · cases hfin
    obtain ⟨rfl, rfl⟩ := hst
    obtain ⟨hdg, hlen⟩ := pM_at hrow hat
    refine va_forget (fun q hq => hh'.2.2.2.2 q hq) ?_
    refine W.widen (k := 601024) (n := 7293034) (by omega) (by omega) ?_
    exact lw_ret hx hb hr hlocks (by rw [h2] at hdg; exact pHd hdg hlen rfl (by decide))
