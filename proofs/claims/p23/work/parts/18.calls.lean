/-! calls -/
theorem pMc_len : pMc.length = pNcode := by decide +kernel
theorem pM_len : pM.length = 302 := by decide +kernel
theorem pM_cls : ∀ r ∈ pM, r.1.cls ∈ pCls := by
  have h : pM.all (fun r => pCls.contains r.1.cls) = true := by decide +kernel
  intro r hr
  have h1 := List.all_eq_true.mp h r hr
  exact List.contains_iff_mem.mp h1
theorem pINI_ok : ∀ a, pINI.contains a = true → pSTI.contains a = false ∧ a < pNcode := by
  have h : pINI.all (fun a => !pSTI.contains a && decide (a < pNcode)) = true := by decide +kernel
  intro a ha
  have h1 := List.all_eq_true.mp h a (List.contains_iff_mem.mp ha)
  simp only [Bool.and_eq_true, Bool.not_eq_true', decide_eq_true_eq] at h1
  exact h1
theorem pY_at {a : Nat} {ra : pMrow} (h : pM[a]? = some ra) : pY a = ra.1 := by
  unfold pY
  rw [List.getElem?_map, h]
  rfl
theorem wCode_in {a : Nat} {ra : pMrow} (h : pM[a]? = some ra) (ha : a < pNcode) : Cond.code ra.1 ra.2.1 ra.2.2.1 ra.2.2.2.1 ∈ pW0 := by
  have h1 : pMc[a]? = some ra := by
    rw [pM_split, List.getElem?_append_left (by rw [pMc_len]; exact ha)] at h
    exact h
  exact pW0_of (wC_all ra (List.mem_of_getElem? h1)) rfl
theorem wCodeW_in {a : Nat} {ra : pMrow} {hh : List (Nat × Nat × Nat × Nat)} (h : pM[a]? = some ra) (ha : pNcode ≤ a) (hh1 : pHH[a - pNcode]? = some hh) : Cond.codeWith ra.1 ra.2.1 ra.2.2.1 ra.2.2.2.1 hh ∈ pW0 := by
  have h1 : Cond.codeWith ra.1 ra.2.1 ra.2.2.1 ra.2.2.2.1 hh ∈ lw_tbl.filter isCw := by
    rw [wCw]
    refine List.mem_map.mpr ⟨(ra, hh), ?_, rfl⟩
    have hi : a - pNcode < 24 := (List.getElem?_eq_some_iff.mp hh1).1
    refine List.mem_of_getElem? (i := a - pNcode) ?_
    rw [List.getElem?_zip_eq_some]
    refine ⟨?_, hh1⟩
    rw [List.getElem?_take_of_lt hi, List.getElem?_drop, show pNcode + (a - pNcode) = a by omega]
    exact h
  exact pW0_of (List.mem_filter.mp h1).1 rfl
theorem wIni_in {a : Nat} {ra : pMrow} (h : pM[a]? = some ra) : Cond.initialized ra.1.cls ∈ pW0 :=
  pW0_of (of_decide_eq_true (List.all_eq_true.mp wIn _ (pM_cls ra (List.mem_of_getElem? h)))) rfl
theorem wSt_in {a : Nat} {ra : pMrow} (h : pM[a]? = some ra) (hs : pSTI.contains a = true) : Cond.static ra.1 ∈ pW0 := by
  have h1 : Cond.static ra.1 ∈ lw_tbl.filter isSt := by
    rw [wSt, List.append_nil]
    exact List.mem_map.mpr ⟨a, List.contains_iff_mem.mp hs, by rw [pY_at h]⟩
  exact pW0_of (List.mem_filter.mp h1).1 rfl
theorem wIm_in {a : Nat} {ra : pMrow} (h : pM[a]? = some ra) (hs : pINI.contains a = true) : Cond.instanceMethod ra.1 ∈ pW0 := by
  have h1 : Cond.instanceMethod ra.1 ∈ lw_tbl.filter isIm := by
    rw [wIm]
    exact List.mem_map.mpr ⟨a, List.contains_iff_mem.mp hs, by rw [pY_at h]⟩
  exact pW0_of (List.mem_filter.mp h1).1 rfl
theorem wSe_in {a : Nat} {ra : pMrow} (h : pM[a]? = some ra) (hs : pSEI.contains a = true) : Cond.selects ra.1.cls ra.1 ra.1 ∈ pW0 := by
  have h1 : Cond.selects ra.1.cls ra.1 ra.1 ∈ lw_tbl.filter isSe := by
    rw [wSe]
    exact List.mem_map.mpr ⟨a, List.contains_iff_mem.mp hs, by rw [pY_at h]⟩
  exact pW0_of (List.mem_filter.mp h1).1 rfl
theorem goodIn_W0 {ws : List Cond} (h : ∀ w ∈ ws, w ∈ pW0) : GoodIn pW0 ws := fun w hw => ⟨h w hw, good_of_word (pW0_in (h w hw)).2⟩
theorem pPar {a : Nat} {ra : pMrow} {n : Nat} (h : pM[a]? = some ra) (hn : ra.2.2.2.2.2.1 - (if pSTI.contains a then 0 else if a < pNcode then 1 else 0) = n) : ra.1.cls ≠ "java/lang/invoke/MethodHandle" ∧ ra.1.cls ≠ "java/lang/invoke/VarHandle" ∧ (parseMethodDescriptor ra.1.desc).map (fun d => d.parameters.length) = some n := by
  obtain ⟨-, -, h1, h2, -⟩ := pM_tab ra (List.mem_of_getElem? h)
  exact ⟨h1, h2, by rw [pM_par a ra h, hn]⟩
theorem pAsz_cat (as : List Value) : pAsz as = pCat as := by
  induction as with
  | nil => rfl
  | cons v r ih =>
    unfold pAsz pCat at ih ⊢
    rw [List.flatMap_cons, List.length_append, ih, List.map_cons, List.sum_cons]
    by_cases hc : v.category = 2
    · rw [if_pos hc, hc]; rfl
    · rw [if_neg hc]
      have : v.category = 1 := (lv_cat v).resolve_right hc
      rw [this]; rfl
theorem pCat_tr (ad : Nat → Nat) (st : List Value) : ((st.map (pTr ad)).map fun v => v.category).sum = pCat st := by
  unfold pCat
  rw [List.map_map]
  congr 1
  exact List.map_congr_left (fun v _ => pTr_cat ad v)
theorem pCat_rev (st : List Value) : pCat st.reverse = pCat st := by
  unfold pCat
  rw [List.map_reverse, List.sum_reverse]
theorem pM_ini : ∀ r ∈ pM, r.1.name = "<init>" → r.2.2.2.1 = none := by
  have h : pM.all (fun r => r.1.name != "<init>" || r.2.2.2.1.isNone) = true := by decide +kernel
  intro r hr hn
  have h1 := List.all_eq_true.mp h r hr
  rw [hn] at h1
  simpa using h1
theorem wNL_in {q : Nat} {w : String × Nat × MethodName} (h : pNL[q]? = some w) : Cond.methodLinkNest w.1 w.2.1 w.2.2 "MoveNotes" ∈ pNestM := List.mem_map.mpr ⟨w, List.mem_of_getElem? h, rfl⟩
section CALL
variable {p : Program} {l : Launch} {e : Env} {R : Room} {s : State} {m : MethodId} {args : Array Value} {below : List Frame} {meth : Method} {c : Code} {H : Heap} {locs : List Loc} {cells slots : Nat} {Q : State → Prop} {cc : ByteArray} {pc nL : Nat} {ls : Array Slot} {ad : Nat → Nat} {st : List Value} {es es1 : PH}
variable {D : va_G} {cT : Nat → ClassId} {O : pOut} {A : Nat → Prop} {own : String} {q a len d kc ks ix : Nat} {ra : pMrow} {as rest : List Value} {Qc : Array Value → State → Outcome → State → Prop} {XC : String → State → State → Prop} {free : Addr → Prop}
theorem p_sub (hA : ∀ q, s.heap.size ≤ q → A q) (hh : pHeap D cT ad A s.heap H locs es) : ∀ q, va_A (pWs cT ad es) H.size q → A q := by
  intro q hq
  rcases hq with ⟨k, e, hk⟩ | hq
  · exact hh.2.1.2 k _ hk
  · exact hA q (Nat.le_trans hh.2.2.1 hq)
theorem p_blind {avs : List Value} {sz : Nat} : FrameBlind (va_Pc avs (fun U => U.heap.size = sz ∧ pWo D cT ad O es sz U)) := by
  intro a U g mk hp
  obtain ⟨h1, h2, h3, h4, h5⟩ := hp
  exact ⟨h1, h2, h3, h4, h5.go (U := U.calling g mk a) (State.WarmedH.refl U) (Nat.le_refl _) (fun _ _ _ => rfl) (fun _ h => h)⟩
theorem p_preU (hA : ∀ q, s.heap.size ≤ q → A q) (hcy : pCy D cT ad O A s s.heap) (hh : pHeap D cT ad A s.heap H locs es) (avs : List Value) : ∀ U : State, U.heap = H → s.WarmedH U.vm → va_Pc avs (fun U => U.heap.size = H.size ∧ pWo D cT ad O es H.size U) avs.toArray U := by
  intro U hU hW
  refine ⟨rfl, by rw [hU], by rw [hU]; exact hh.1, hh.2.1.weaken (fun _ _ _ _ => trivial), ?_⟩
  rw [hU]
  exact hcy.go hW hh.2.2.1 hh.2.2.2.1 (p_sub hA hh)
theorem p_after {ad' : Nat → Nat} {H1 : Heap} {Lx : List Loc} (hA : ∀ q, s.heap.size ≤ q → A q) (hh : pHeap D cT ad A s.heap H locs es) (hwe : pWe D cT ad es es1 H.size ad' H1) (h1 : H.size ≤ H1.size) (h2 : ∀ q : Nat, q < H.size → ¬ va_A (pWs cT ad es) H.size q → H1[q]? = H[q]?) (hL : ∀ q ∈ Lx, va_A (pWs cT ad es) H.size q.base) : pHeap D cT ad' A s.heap H1 (locs ++ Lx) es1 := by
  have hs := p_sub hA hh
  refine ⟨hwe.2.2.1, hwe.2.2.2.1.weaken (fun k q _ h => hs _ h), Nat.le_trans hh.2.2.1 h1, fun q g1 g2 => ?_, fun q hq => ?_⟩
  · rw [h2 q (Nat.lt_of_lt_of_le g1 hh.2.2.1) (fun z => g2 (hs q z))]
    exact hh.2.2.2.1 q g1 g2
  · rcases List.mem_append.mp hq with h | h
    · exact hh.2.2.2.2 q h
    · exact hs _ (hL q h)
/-- the rows of a static call -/
theorem r_S (hx : p.tables.exec = Jvm.exec) (hb : c.code = cc) (hml : c.maxLocals = nL) (hown : s.vm.findClass own = some m.cls) (hts : ∀ w ∈ pW0, w.before args s = true) (hdg : decode cc pc = .ok (.invokestatic ix, 3)) (hra : pM[a]? = some ra) (ha : a < pNcode) (hst : pSTI.contains a = true) (hlk : Cond.methodLink own ix ra.1 ∈ pW0)
    (hM : Met l ra.1 (Cond.code ra.1 ra.2.1 ra.2.2.1 ra.2.2.2.1 :: pW0) (pRoom d kc ks) (va_Pc (as.map (pTr ad)) (fun U => U.heap.size = H.size ∧ pWo D cT ad O es H.size U)) Qc kc ks free) (hA : ∀ q, s.heap.size ≤ q → A q) (hcy : pCy D cT ad O A s s.heap) (hh : pHeap D cT ad A s.heap H locs es)
    (hn : as.length = ra.2.2.2.2.2.1) (hsz : ls.size = nL) (hstk : st = as.reverse ++ rest) (hcat : pCat rest ≤ 8) (hmx : ra.2.2.1 ≤ 60) (hR : d + 1 + 12 ≤ R.frames ∧ 100 * (d + 1 + 3) ≤ R.locals) (hf : cells + kc ≤ R.cells ∧ slots + ks ≤ R.slots) :
    va_Run p l e R s m args below meth c H locs cells slots kc ks (F0 m pc ls (st.map (pTr ad))) (rest.map (pTr ad)) (Qc (as.map (pTr ad)).toArray) free := by
  have hw : ∀ w ∈ va_wsS own ix ra.1 (Cond.code ra.1 ra.2.1 ra.2.2.1 ra.2.2.2.1 :: pW0), w ∈ pW0 := by
    intro w hw
    unfold va_wsS at hw
    rcases List.mem_append.mp hw with h | h
    · simp only [List.mem_cons, List.not_mem_nil, or_false] at h
      rcases h with rfl | rfl | rfl
      · exact hlk
      · exact wSt_in hra hst
      · exact wIni_in hra
    · rcases List.mem_cons.mp h with rfl | h
      · exact wCode_in hra ha
      · exact h
  refine va_runS (n := as.length) ⟨hx, hb, hml, hown, hts⟩ hM (va_cwS _ hts (goodIn_W0 hw) rfl rfl rfl (pPar hra (by rw [hst, if_pos rfl, Nat.sub_zero, hn])) ⟨by show d + 12 + 1 ≤ R.frames; omega, by show 8 + (ra.2.2.1 + 11) + 100 * (d + 3) ≤ R.locals; omega⟩) ⟨p_blind, p_preU hA hcy hh _⟩ rfl (by rw [List.length_map]) hsz ?_ ?_ hdg hf
  · show st.map (pTr ad) = _
    rw [hstk, List.map_append, List.map_reverse]
  · show 2 * 0 + _ ≤ 8
    rw [pCat_tr]
    omega
/-- the rows of a static call of a nest mate -/
theorem r_SN (hx : p.tables.exec = Jvm.exec) (hb : c.code = cc) (hml : c.maxLocals = nL) (hown : s.vm.findClass own = some m.cls) (hts : ∀ w ∈ pW0, w.before args s = true) (hdg : decode cc pc = .ok (.invokestatic ix, 3)) (hra : pM[a]? = some ra) (ha : a < pNcode) (hst : pSTI.contains a = true) (hlk : Cond.methodLinkNest own ix ra.1 "MoveNotes" ∈ pNestM)
    (hM : Met l ra.1 (Cond.code ra.1 ra.2.1 ra.2.2.1 ra.2.2.2.1 :: pW0) (pRoom d kc ks) (va_Pc (as.map (pTr ad)) (fun U => U.heap.size = H.size ∧ pWo D cT ad O es H.size U)) Qc kc ks free) (hA : ∀ q, s.heap.size ≤ q → A q) (hcy : pCy D cT ad O A s s.heap) (hh : pHeap D cT ad A s.heap H locs es)
    (hn : as.length = ra.2.2.2.2.2.1) (hsz : ls.size = nL) (hstk : st = as.reverse ++ rest) (hcat : pCat rest ≤ 8) (hmx : ra.2.2.1 ≤ 60) (hR : d + 1 + 12 ≤ R.frames ∧ 100 * (d + 1 + 3) ≤ R.locals) (hf : cells + kc ≤ R.cells ∧ slots + ks ≤ R.slots) :
    va_Run p l e R s m args below meth c H locs cells slots kc ks (F0 m pc ls (st.map (pTr ad))) (rest.map (pTr ad)) (Qc (as.map (pTr ad)).toArray) free := by
  have hw : ∀ w ∈ (Cond.code ra.1 ra.2.1 ra.2.2.1 ra.2.2.2.1 :: pW0), w ∈ pW0 := by
    intro w hw
    rcases List.mem_cons.mp hw with rfl | h
    · exact wCode_in hra ha
    · exact h
  refine va_runSN (n := as.length) ⟨hx, hb, hml, hown, hts⟩ hM ⟨va_cnB _ hts (goodIn_W0 hw) rfl rfl rfl (hcy.1.2.2.1 _ hlk) (hts _ (wIni_in hra)) (pPar hra (by rw [hst, if_pos rfl, Nat.sub_zero, hn])) ⟨by show d + 12 + 1 ≤ R.frames; omega, by show 8 + (ra.2.2.1 + 11) + 100 * (d + 3) ≤ R.locals; omega⟩, hts _ (wSt_in hra hst), trivial⟩ ⟨p_blind, p_preU hA hcy hh _⟩ rfl (by rw [List.length_map]) hsz ?_ ?_ hdg hf
  · show st.map (pTr ad) = _
    rw [hstk, List.map_append, List.map_reverse]
  · show 2 * 0 + _ ≤ 8
    rw [pCat_tr]
    omega
/-- the rows of a call of a wrapper -/
theorem r_SX {hhs : List (Nat × Nat × Nat × Nat)} (hx : p.tables.exec = Jvm.exec) (hb : c.code = cc) (hml : c.maxLocals = nL) (hown : s.vm.findClass own = some m.cls) (hts : ∀ w ∈ pW0, w.before args s = true) (hdg : decode cc pc = .ok (.invokestatic ix, 3)) (hra : pM[a]? = some ra) (ha : pNcode ≤ a) (hh1 : pHH[a - pNcode]? = some hhs) (hst : pSTI.contains a = true) (hlk : Cond.methodLink own ix ra.1 ∈ pW0)
    (hM : vx_Met l ra.1 (Cond.codeWith ra.1 ra.2.1 ra.2.2.1 ra.2.2.2.1 hhs :: pW0) (pRoom d kc ks) (va_Pc (as.map (pTr ad)) (fun U => U.heap.size = H.size ∧ pWo D cT ad O es H.size U)) Qc XC kc ks free) (hA : ∀ q, s.heap.size ≤ q → A q) (hcy : pCy D cT ad O A s s.heap) (hh : pHeap D cT ad A s.heap H locs es)
    (hn : as.length = ra.2.2.2.2.2.1) (hsz : ls.size = nL) (hstk : st = as.reverse ++ rest) (hcat : pCat rest ≤ 8) (hmx : ra.2.2.1 ≤ 60) (hR : d + 1 + 12 ≤ R.frames ∧ 100 * (d + 1 + 3) ≤ R.locals) (hf : cells + kc ≤ R.cells ∧ slots + ks ≤ R.slots) :
    vx_Run p l e R s m args below meth c H locs cells slots kc ks (F0 m pc ls (st.map (pTr ad))) (rest.map (pTr ad)) (Qc (as.map (pTr ad)).toArray) XC free := by
  have hw : ∀ w ∈ va_wsS own ix ra.1 (Cond.codeWith ra.1 ra.2.1 ra.2.2.1 ra.2.2.2.1 hhs :: pW0), w ∈ pW0 := by
    intro w hw
    unfold va_wsS at hw
    rcases List.mem_append.mp hw with h | h
    · simp only [List.mem_cons, List.not_mem_nil, or_false] at h
      rcases h with rfl | rfl | rfl
      · exact hlk
      · exact wSt_in hra hst
      · exact wIni_in hra
    · rcases List.mem_cons.mp h with rfl | h
      · exact wCodeW_in hra ha hh1
      · exact h
  refine vx_runSX (n := as.length) (hh := hhs) ⟨hx, hb, hml, hown, hts⟩ hM (vx_cwSW _ hts (goodIn_W0 hw) rfl rfl rfl (pPar hra (by rw [hst, if_pos rfl, Nat.sub_zero, hn])) ⟨by show d + 12 + 1 ≤ R.frames; omega, by show 8 + (ra.2.2.1 + 11) + 100 * (d + 3) ≤ R.locals; omega⟩) ⟨p_blind, p_preU hA hcy hh _⟩ rfl (by rw [List.length_map]) hsz ?_ ?_ hdg hf
  · show st.map (pTr ad) = _
    rw [hstk, List.map_append, List.map_reverse]
  · show 2 * 0 + _ ≤ 8
    rw [pCat_tr]
    omega
theorem r_V {k0 : Nat} {fs : List Value} {ci : Nat} {q0 : vw_C} (hx : p.tables.exec = Jvm.exec) (hb : c.code = cc) (hml : c.maxLocals = nL) (hown : s.vm.findClass own = some m.cls) (hts : ∀ w ∈ pW0, w.before args s = true) (hdg : decode cc pc = .ok (.invokevirtual ix, 3)) (hra : pM[a]? = some ra) (ha : True) (hin : pINI.contains a = true) (hsel : pSEI.contains a = true) (hlk : Cond.methodLink own ix ra.1 ∈ pW0)
    (hM : Met l ra.1 (Cond.code ra.1 ra.2.1 ra.2.2.1 ra.2.2.2.1 :: pW0) (pRoom d kc ks) (va_Pc (as.map (pTr ad)) (fun U => U.heap.size = H.size ∧ pWo D cT ad O es H.size U)) Qc kc ks free) (hA : ∀ q, s.heap.size ≤ q → A q) (hcy : pCy D cT ad O A s s.heap) (hh : pHeap D cT ad A s.heap H locs es)
    (hn : as.length = ra.2.2.2.2.2.1) (hsz : ls.size = nL) (hstk : st = as.reverse ++ rest) (hcat : pCat rest ≤ 8) (hmx : ra.2.2.1 ≤ 60) (hR : d + 1 + 12 ≤ R.frames ∧ 100 * (d + 1 + 3) ≤ R.locals) (hf : cells + kc ≤ R.cells ∧ slots + ks ≤ R.slots) (has : ∃ As, as = .ref k0 :: As) (hk : ¬ k0 < 64) (he : es[k0 - 64]? = some (.inr (ci, fs))) (hc : vwCl[ci]? = some q0) (hq0 : q0.1 = ra.1.cls) :
    va_Run p l e R s m args below meth c H locs cells slots kc ks (F0 m pc ls (st.map (pTr ad))) (rest.map (pTr ad)) (Qc (as.map (pTr ad)).toArray) free := by
  obtain ⟨hst, ha⟩ := pINI_ok a hin
  obtain ⟨As, rfl⟩ : ∃ As, as = .ref k0 :: As := has
  have hw : ∀ w ∈ wsV own ix ra.1.cls ra.1 (Cond.code ra.1 ra.2.1 ra.2.2.1 ra.2.2.2.1 :: pW0), w ∈ pW0 := by
    intro w hw
    unfold wsV at hw
    rcases List.mem_append.mp hw with h | h
    · simp only [List.mem_cons, List.not_mem_nil, or_false] at h
      rcases h with rfl | rfl | rfl | rfl
      · exact hlk
      · exact wIm_in hra hin
      · exact wSe_in hra hsel
      · exact wIni_in hra
    · rcases List.mem_cons.mp h with rfl | h
      · exact wCode_in hra ha
      · exact h
  have hrc : ∃ cellB : Cell, H[ad k0]? = some cellB ∧ cellB.vm.isStatics = false ∧ s.vm.findClass ra.1.cls = some cellB.cls := by
    rw [← hq0]
    exact va_recv (D := D) hcy.1.1 hh.1 hc (pWs_at (cT := cT) hk he)
  refine va_runV (C := ra.1.cls) (n := ra.2.2.2.2.2.1 - 1) (b := ad k0) (As := As.map (pTr ad)) ⟨hx, hb, hml, hown, hts⟩ hM (cwV _ hts (goodIn_W0 hw) rfl rfl rfl ⟨rfl, (pPar hra (by rw [hst, if_neg (by decide), if_pos ha]))⟩ ⟨by show d + 12 + 1 ≤ R.frames; omega, by show 8 + (ra.2.2.1 + 11) + 100 * (d + 3) ≤ R.locals; omega⟩) ⟨p_blind, hrc, p_preU hA hcy hh _⟩ rfl ?_ hsz ?_ ?_ hdg hf
  · rw [List.length_map]; rw [List.length_cons] at hn; omega
  · show st.map (pTr ad) = _
    rw [hstk, List.reverse_cons, List.append_assoc, List.map_append, List.map_append, List.map_reverse]
    rfl
  · show 2 * 0 + _ ≤ 8
    rw [pCat_tr]
    omega
theorem r_VX {k0 : Nat} {fs : List Value} {ci : Nat} {q0 : vw_C} (hx : p.tables.exec = Jvm.exec) (hb : c.code = cc) (hml : c.maxLocals = nL) (hown : s.vm.findClass own = some m.cls) (hts : ∀ w ∈ pW0, w.before args s = true) (hdg : decode cc pc = .ok (.invokevirtual ix, 3)) (hra : pM[a]? = some ra) (ha : True) (hin : pINI.contains a = true) (hsel : pSEI.contains a = true) (hlk : Cond.methodLink own ix ra.1 ∈ pW0)
    (hM : vx_Met l ra.1 (Cond.code ra.1 ra.2.1 ra.2.2.1 ra.2.2.2.1 :: pW0) (pRoom d kc ks) (va_Pc (as.map (pTr ad)) (fun U => U.heap.size = H.size ∧ pWo D cT ad O es H.size U)) Qc XC kc ks free) (hA : ∀ q, s.heap.size ≤ q → A q) (hcy : pCy D cT ad O A s s.heap) (hh : pHeap D cT ad A s.heap H locs es)
    (hn : as.length = ra.2.2.2.2.2.1) (hsz : ls.size = nL) (hstk : st = as.reverse ++ rest) (hcat : pCat rest ≤ 8) (hmx : ra.2.2.1 ≤ 60) (hR : d + 1 + 12 ≤ R.frames ∧ 100 * (d + 1 + 3) ≤ R.locals) (hf : cells + kc ≤ R.cells ∧ slots + ks ≤ R.slots) (has : ∃ As, as = .ref k0 :: As) (hk : ¬ k0 < 64) (he : es[k0 - 64]? = some (.inr (ci, fs))) (hc : vwCl[ci]? = some q0) (hq0 : q0.1 = ra.1.cls) :
    vx_Run p l e R s m args below meth c H locs cells slots kc ks (F0 m pc ls (st.map (pTr ad))) (rest.map (pTr ad)) (Qc (as.map (pTr ad)).toArray) XC free := by
  obtain ⟨hst, ha⟩ := pINI_ok a hin
  obtain ⟨As, rfl⟩ : ∃ As, as = .ref k0 :: As := has
  have hw : ∀ w ∈ wsV own ix ra.1.cls ra.1 (Cond.code ra.1 ra.2.1 ra.2.2.1 ra.2.2.2.1 :: pW0), w ∈ pW0 := by
    intro w hw
    unfold wsV at hw
    rcases List.mem_append.mp hw with h | h
    · simp only [List.mem_cons, List.not_mem_nil, or_false] at h
      rcases h with rfl | rfl | rfl | rfl
      · exact hlk
      · exact wIm_in hra hin
      · exact wSe_in hra hsel
      · exact wIni_in hra
    · rcases List.mem_cons.mp h with rfl | h
      · exact wCode_in hra ha
      · exact h
  have hrc : ∃ cellB : Cell, H[ad k0]? = some cellB ∧ cellB.vm.isStatics = false ∧ s.vm.findClass ra.1.cls = some cellB.cls := by
    rw [← hq0]
    exact va_recv (D := D) hcy.1.1 hh.1 hc (pWs_at (cT := cT) hk he)
  refine vx_runV (C := ra.1.cls) (n := ra.2.2.2.2.2.1 - 1) (b := ad k0) (As := As.map (pTr ad)) ⟨hx, hb, hml, hown, hts⟩ hM (cwV _ hts (goodIn_W0 hw) rfl rfl rfl ⟨rfl, (pPar hra (by rw [hst, if_neg (by decide), if_pos ha]))⟩ ⟨by show d + 12 + 1 ≤ R.frames; omega, by show 8 + (ra.2.2.1 + 11) + 100 * (d + 3) ≤ R.locals; omega⟩) ⟨p_blind, hrc, p_preU hA hcy hh _⟩ rfl ?_ hsz ?_ ?_ hdg hf
  · rw [List.length_map]; rw [List.length_cons] at hn; omega
  · show st.map (pTr ad) = _
    rw [hstk, List.reverse_cons, List.append_assoc, List.map_append, List.map_append, List.map_reverse]
    rfl
  · show 2 * 0 + _ ≤ 8
    rw [pCat_tr]
    omega
theorem r_VN {k0 : Nat} {fs : List Value} {ci : Nat} {q0 : vw_C} (hx : p.tables.exec = Jvm.exec) (hb : c.code = cc) (hml : c.maxLocals = nL) (hown : s.vm.findClass own = some m.cls) (hts : ∀ w ∈ pW0, w.before args s = true) (hdg : decode cc pc = .ok (.invokevirtual ix, 3)) (hra : pM[a]? = some ra) (ha : True) (hin : pINI.contains a = true) (hsel : pSEI.contains a = true) (hlk : Cond.methodLinkNest own ix ra.1 "MoveNotes" ∈ pNestM)
    (hM : Met l ra.1 (Cond.code ra.1 ra.2.1 ra.2.2.1 ra.2.2.2.1 :: pW0) (pRoom d kc ks) (va_Pc (as.map (pTr ad)) (fun U => U.heap.size = H.size ∧ pWo D cT ad O es H.size U)) Qc kc ks free) (hA : ∀ q, s.heap.size ≤ q → A q) (hcy : pCy D cT ad O A s s.heap) (hh : pHeap D cT ad A s.heap H locs es)
    (hn : as.length = ra.2.2.2.2.2.1) (hsz : ls.size = nL) (hstk : st = as.reverse ++ rest) (hcat : pCat rest ≤ 8) (hmx : ra.2.2.1 ≤ 60) (hR : d + 1 + 12 ≤ R.frames ∧ 100 * (d + 1 + 3) ≤ R.locals) (hf : cells + kc ≤ R.cells ∧ slots + ks ≤ R.slots) (has : ∃ As, as = .ref k0 :: As) (hk : ¬ k0 < 64) (he : es[k0 - 64]? = some (.inr (ci, fs))) (hc : vwCl[ci]? = some q0) (hq0 : q0.1 = ra.1.cls) :
    va_Run p l e R s m args below meth c H locs cells slots kc ks (F0 m pc ls (st.map (pTr ad))) (rest.map (pTr ad)) (Qc (as.map (pTr ad)).toArray) free := by
  obtain ⟨hst, ha⟩ := pINI_ok a hin
  obtain ⟨As, rfl⟩ : ∃ As, as = .ref k0 :: As := has
  have hw : ∀ w ∈ (Cond.code ra.1 ra.2.1 ra.2.2.1 ra.2.2.2.1 :: pW0), w ∈ pW0 := by
    intro w hw
    rcases List.mem_cons.mp hw with rfl | h
    · exact wCode_in hra ha
    · exact h
  have hrc : ∃ cellB : Cell, H[ad k0]? = some cellB ∧ cellB.vm.isStatics = false ∧ s.vm.findClass ra.1.cls = some cellB.cls := by
    rw [← hq0]
    exact va_recv (D := D) hcy.1.1 hh.1 hc (pWs_at (cT := cT) hk he)
  refine va_runVN (C := ra.1.cls) (n := ra.2.2.2.2.2.1 - 1) (b := ad k0) (As := As.map (pTr ad)) ⟨hx, hb, hml, hown, hts⟩ hM ⟨va_cnB _ hts (goodIn_W0 hw) rfl rfl rfl (hcy.1.2.2.1 _ hlk) (hts _ (wIni_in hra)) (pPar hra (by rw [hst, if_neg (by decide), if_pos ha])) ⟨by show d + 12 + 1 ≤ R.frames; omega, by show 8 + (ra.2.2.1 + 11) + 100 * (d + 3) ≤ R.locals; omega⟩, hts _ (wIm_in hra hin), hts _ (wSe_in hra hsel)⟩ ⟨p_blind, hrc, p_preU hA hcy hh _⟩ rfl ?_ hsz ?_ ?_ hdg hf
  · rw [List.length_map]; rw [List.length_cons] at hn; omega
  · show st.map (pTr ad) = _
    rw [hstk, List.reverse_cons, List.append_assoc, List.map_append, List.map_append, List.map_reverse]
    rfl
  · show 2 * 0 + _ ≤ 8
    rw [pCat_tr]
    omega
theorem r_I {k0 : Nat}  (hx : p.tables.exec = Jvm.exec) (hb : c.code = cc) (hml : c.maxLocals = nL) (hown : s.vm.findClass own = some m.cls) (hts : ∀ w ∈ pW0, w.before args s = true) (hdg : decode cc pc = .ok (.invokespecial ix, 3)) (hra : pM[a]? = some ra) (ha : True) (hin : pINI.contains a = true) (hnm : ra.1.name = "<init>") (hlk : Cond.methodLink own ix ra.1 ∈ pW0)
    (hM : Met l ra.1 (Cond.code ra.1 ra.2.1 ra.2.2.1 ra.2.2.2.1 :: pW0) (pRoom d kc ks) (va_Pc (as.map (pTr ad)) (fun U => U.heap.size = H.size ∧ pWo D cT ad O es H.size U)) Qc kc ks free) (hA : ∀ q, s.heap.size ≤ q → A q) (hcy : pCy D cT ad O A s s.heap) (hh : pHeap D cT ad A s.heap H locs es)
    (hn : as.length = ra.2.2.2.2.2.1) (hsz : ls.size = nL) (hstk : st = as.reverse ++ rest) (hcat : pCat rest ≤ 8) (hmx : ra.2.2.1 ≤ 60) (hR : d + 1 + 12 ≤ R.frames ∧ 100 * (d + 1 + 3) ≤ R.locals) (hf : cells + kc ≤ R.cells ∧ slots + ks ≤ R.slots) (has : ∃ As, as = .ref k0 :: As) :
    va_Run p l e R s m args below meth c H locs cells slots kc ks (F0 m pc ls (st.map (pTr ad))) (rest.map (pTr ad)) (Qc (as.map (pTr ad)).toArray) free := by
  obtain ⟨hst, ha⟩ := pINI_ok a hin
  obtain ⟨As, rfl⟩ : ∃ As, as = .ref k0 :: As := has
  have hret := pM_ini ra (List.mem_of_getElem? hra) hnm
  rw [hret] at hM
  have hw : ∀ w ∈ (Cond.code ra.1 ra.2.1 ra.2.2.1 none :: pW0), w ∈ pW0 := by
    intro w hw
    rcases List.mem_cons.mp hw with rfl | h
    · have := wCode_in hra ha
      rwa [hret] at this
    · exact h
  refine va_runI (n := ra.2.2.2.2.2.1 - 1) (b := ad k0) (As := As.map (pTr ad)) ⟨hx, hb, hml, hown, hts⟩ hM (cwI _ hts (goodIn_W0 hw) rfl rfl rfl (hts _ (wIni_in hra)) (hts _ hlk) (hts _ (wIm_in hra hin)) hnm (pPar hra (by rw [hst, if_neg (by decide), if_pos ha])) ⟨by show d + 12 + 1 ≤ R.frames; omega, by show 8 + (ra.2.2.1 + 11) + 100 * (d + 3) ≤ R.locals; omega⟩) ⟨p_blind, p_preU hA hcy hh _⟩ rfl ?_ hsz ?_ ?_ hdg hf
  · rw [List.length_map]; rw [List.length_cons] at hn; omega
  · show st.map (pTr ad) = _
    rw [hstk, List.reverse_cons, List.append_assoc, List.map_append, List.map_append, List.map_reverse]
    rfl
  · show 2 * 0 + _ ≤ 8
    rw [pCat_tr]
    omega
theorem r_IN {k0 : Nat}  (hx : p.tables.exec = Jvm.exec) (hb : c.code = cc) (hml : c.maxLocals = nL) (hown : s.vm.findClass own = some m.cls) (hts : ∀ w ∈ pW0, w.before args s = true) (hdg : decode cc pc = .ok (.invokespecial ix, 3)) (hra : pM[a]? = some ra) (ha : True) (hin : pINI.contains a = true) (hnm : ra.1.name = "<init>") (hlk : Cond.methodLinkNest own ix ra.1 "MoveNotes" ∈ pNestM)
    (hM : Met l ra.1 (Cond.code ra.1 ra.2.1 ra.2.2.1 ra.2.2.2.1 :: pW0) (pRoom d kc ks) (va_Pc (as.map (pTr ad)) (fun U => U.heap.size = H.size ∧ pWo D cT ad O es H.size U)) Qc kc ks free) (hA : ∀ q, s.heap.size ≤ q → A q) (hcy : pCy D cT ad O A s s.heap) (hh : pHeap D cT ad A s.heap H locs es)
    (hn : as.length = ra.2.2.2.2.2.1) (hsz : ls.size = nL) (hstk : st = as.reverse ++ rest) (hcat : pCat rest ≤ 8) (hmx : ra.2.2.1 ≤ 60) (hR : d + 1 + 12 ≤ R.frames ∧ 100 * (d + 1 + 3) ≤ R.locals) (hf : cells + kc ≤ R.cells ∧ slots + ks ≤ R.slots) (has : ∃ As, as = .ref k0 :: As) :
    va_Run p l e R s m args below meth c H locs cells slots kc ks (F0 m pc ls (st.map (pTr ad))) (rest.map (pTr ad)) (Qc (as.map (pTr ad)).toArray) free := by
  obtain ⟨hst, ha⟩ := pINI_ok a hin
  obtain ⟨As, rfl⟩ : ∃ As, as = .ref k0 :: As := has
  have hret := pM_ini ra (List.mem_of_getElem? hra) hnm
  rw [hret] at hM
  have hw : ∀ w ∈ (Cond.code ra.1 ra.2.1 ra.2.2.1 none :: pW0), w ∈ pW0 := by
    intro w hw
    rcases List.mem_cons.mp hw with rfl | h
    · have := wCode_in hra ha
      rwa [hret] at this
    · exact h
  refine va_runIN (n := ra.2.2.2.2.2.1 - 1) (b := ad k0) (As := As.map (pTr ad)) ⟨hx, hb, hml, hown, hts⟩ hM ⟨va_cnB _ hts (goodIn_W0 hw) rfl rfl rfl (hcy.1.2.2.1 _ hlk) (hts _ (wIni_in hra)) (pPar hra (by rw [hst, if_neg (by decide), if_pos ha])) ⟨by show d + 12 + 1 ≤ R.frames; omega, by show 8 + (ra.2.2.1 + 11) + 100 * (d + 3) ≤ R.locals; omega⟩, hnm, hts _ (wIm_in hra hin)⟩ ⟨p_blind, p_preU hA hcy hh _⟩ rfl ?_ hsz ?_ ?_ hdg hf
  · rw [List.length_map]; rw [List.length_cons] at hn; omega
  · show st.map (pTr ad) = _
    rw [hstk, List.reverse_cons, List.append_assoc, List.map_append, List.map_append, List.map_reverse]
    rfl
  · show 2 * 0 + _ ≤ 8
    rw [pCat_tr]
    omega
end CALL
