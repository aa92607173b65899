/-! arrays and the rest of the heap's instructions -/
section SIM2
variable {p : Program} {l : Launch} {e : Env} {R : Room} {s : State} {m : MethodId} {args : Array Value} {below : List Frame} {meth : Method} {c : Code} {H : Heap} {locs : List Loc} {cells slots : Nat} {Q : State → Prop} {cc : ByteArray} {pc nL : Nat} {ls : Array Slot} {ad : Nat → Nat} {L : PL} {st : List Value} {es : PH} {r : pSt}
variable {D : va_G} {cT : Nat → ClassId} {O : pOut} {A : Nat → Prop} {own : String} {ini : Bool} {q a b len : Nat}
theorem h_iaload (hx : p.tables.exec = Jvm.exec) (hb : c.code = cc) (hdg : decode cc pc = .ok (.iaload, 1))
    (hcx : pCx D cT ad O A s s.heap) (hl : pLoc ad nL ls L) (hh : pHeap D cT ad A s.heap H locs es) (h : pS1 O ini .iaload q a b pc L st es = some r) (k : pWH p l e R s m args below meth c cells slots Q D cT ad A nL r) : W p l e R s m args below meth c H locs cells slots Q (F0 m pc ls (st.map (pTr ad))) := by
  simp only [pS1] at h
  split at h
  · rename_i i k0 rr
    split at h
    · rename_i n f harr
      split at h
      · rename_i hin
        cases h
        unfold pArrI at harr
        split at harr
        · rcases (hcx.2.2.2.1 k0 n f harr).2 with ⟨x1, x2, x3⟩ | x1
          · exact va_sld hx hb x1 x2 x3 hh.2.2 (pIn_ok hin) hdg (k H locs hh ls hl)
          · exact va_ti hx hb x1 hh.2.2 (pIn_ok hin) rfl hdg (k H locs hh ls hl)
        · rename_i hk
          split at harr
          · rename_i n2 f2 he
            cases harr
            exact va_iald (D := D) hx hb hcx.1 hh.1 (k0 - 64) 0 (pWs_at (cT := cT) hk he) rfl (pIn_ok hin) hdg (k H locs hh ls hl)
          · cases harr
      · cases h
    · cases h
  · cases h
theorem h_baload (hx : p.tables.exec = Jvm.exec) (hb : c.code = cc) (hdg : decode cc pc = .ok (.baload, 1))
    (hcx : pCx D cT ad O A s s.heap) (hl : pLoc ad nL ls L) (hh : pHeap D cT ad A s.heap H locs es) (h : pS1 O ini .baload q a b pc L st es = some r) (k : pWH p l e R s m args below meth c cells slots Q D cT ad A nL r) : W p l e R s m args below meth c H locs cells slots Q (F0 m pc ls (st.map (pTr ad))) := by
  simp only [pS1] at h
  split at h
  · rename_i i k0 rr
    split at h
    · cases h
    rename_i hk
    split at h
    · rename_i t n f he
      split at h
      · rename_i hin
        cases h
        rcases hin with ⟨ht | ht, hin⟩
        · subst ht
          exact va_bald (D := D) hx hb hcx.1 hh.1 (k0 - 64) 2 (pWs_at (cT := cT) hk he) rfl (pIn_ok hin) hdg (k H locs hh ls hl)
        · subst ht
          exact va_zald (D := D) hx hb hcx.1 hh.1 (k0 - 64) 3 (pWs_at (cT := cT) hk he) rfl (pIn_ok hin) hdg (k H locs hh ls hl)
      · cases h
    · cases h
  · cases h
theorem h_laload (hx : p.tables.exec = Jvm.exec) (hb : c.code = cc) (hdg : decode cc pc = .ok (.laload, 1))
    (hcx : pCx D cT ad O A s s.heap) (hl : pLoc ad nL ls L) (hh : pHeap D cT ad A s.heap H locs es) (h : pS1 O ini .laload q a b pc L st es = some r) (k : pWH p l e R s m args below meth c cells slots Q D cT ad A nL r) : W p l e R s m args below meth c H locs cells slots Q (F0 m pc ls (st.map (pTr ad))) := by
  simp only [pS1] at h
  split at h
  · rename_i i k0 rr
    split at h
    · cases h
    rename_i hk
    split at h
    · rename_i n f he
      split at h
      · rename_i hin
        cases h
        exact va_lald (D := D) hx hb hcx.1 hh.1 (k0 - 64) 1 (pWs_at (cT := cT) hk he) rfl (pIn_ok hin) hdg (k H locs hh ls hl)
      · cases h
    · cases h
  · cases h
theorem h_iastore (hx : p.tables.exec = Jvm.exec) (hb : c.code = cc) (hdg : decode cc pc = .ok (.iastore, 1))
    (hcx : pCx D cT ad O A s s.heap) (hl : pLoc ad nL ls L) (hh : pHeap D cT ad A s.heap H locs es) (h : pS1 O ini .iastore q a b pc L st es = some r) (k : pWH p l e R s m args below meth c cells slots Q D cT ad A nL r) : W p l e R s m args below meth c H locs cells slots Q (F0 m pc ls (st.map (pTr ad))) := by
  simp only [pS1] at h
  split at h
  · rename_i x i k0 rr
    split at h
    · cases h
    rename_i hk
    split at h
    · rename_i n f he
      split at h
      · rename_i hin
        cases h
        refine va_iast (D := D) hx hb hcx.1 hh.1 hh.2.1 hh.2.2 (k0 - 64) 0 (pWs_at (cT := cT) hk he) rfl (pIn_ok hin) hdg (fun H1 locs1 g1 g2 g3 => k H1 locs1 ⟨?_, ?_, g3⟩ ls hl)
        · show va_P D vwCl (pWs cT ad (es.set (k0 - 64) _)) H1
          rw [pWs_set hk]; exact g1
        · show va_D A (pWs cT ad (es.set (k0 - 64) _))
          rw [pWs_set hk]; exact g2
      · cases h
    · cases h
  · cases h
theorem h_lastore (hx : p.tables.exec = Jvm.exec) (hb : c.code = cc) (hdg : decode cc pc = .ok (.lastore, 1))
    (hcx : pCx D cT ad O A s s.heap) (hl : pLoc ad nL ls L) (hh : pHeap D cT ad A s.heap H locs es) (h : pS1 O ini .lastore q a b pc L st es = some r) (k : pWH p l e R s m args below meth c cells slots Q D cT ad A nL r) : W p l e R s m args below meth c H locs cells slots Q (F0 m pc ls (st.map (pTr ad))) := by
  simp only [pS1] at h
  split at h
  · rename_i x i k0 rr
    split at h
    · cases h
    rename_i hk
    split at h
    · rename_i n f he
      split at h
      · rename_i hin
        cases h
        refine va_last (D := D) hx hb hcx.1 hh.1 hh.2.1 hh.2.2 (k0 - 64) 1 (pWs_at (cT := cT) hk he) rfl (pIn_ok hin) hdg (fun H1 locs1 g1 g2 g3 => k H1 locs1 ⟨?_, ?_, g3⟩ ls hl)
        · show va_P D vwCl (pWs cT ad (es.set (k0 - 64) _)) H1
          rw [pWs_set hk]; exact g1
        · show va_D A (pWs cT ad (es.set (k0 - 64) _))
          rw [pWs_set hk]; exact g2
      · cases h
    · cases h
  · cases h
theorem h_bastore (hx : p.tables.exec = Jvm.exec) (hb : c.code = cc) (hdg : decode cc pc = .ok (.bastore, 1))
    (hcx : pCx D cT ad O A s s.heap) (hl : pLoc ad nL ls L) (hh : pHeap D cT ad A s.heap H locs es) (h : pS1 O ini .bastore q a b pc L st es = some r) (k : pWH p l e R s m args below meth c cells slots Q D cT ad A nL r) : W p l e R s m args below meth c H locs cells slots Q (F0 m pc ls (st.map (pTr ad))) := by
  simp only [pS1] at h
  split at h
  · rename_i x i k0 rr
    split at h
    · cases h
    rename_i hk
    split at h
    · rename_i n f he
      split at h
      · rename_i hin
        cases h
        refine va_bast (D := D) hx hb hcx.1 hh.1 hh.2.1 hh.2.2 (k0 - 64) 2 (pWs_at (cT := cT) hk he) rfl (pIn_ok hin) hdg (fun H1 locs1 g1 g2 g3 => k H1 locs1 ⟨?_, ?_, g3⟩ ls hl)
        · show va_P D vwCl (pWs cT ad (es.set (k0 - 64) _)) H1
          rw [pWs_set hk]; exact g1
        · show va_D A (pWs cT ad (es.set (k0 - 64) _))
          rw [pWs_set hk]; exact g2
      · cases h
    · rename_i n f he
      split at h
      · rename_i hin
        cases h
        refine va_zast (D := D) hx hb hcx.1 hh.1 hh.2.1 hh.2.2 (k0 - 64) 3 (pWs_at (cT := cT) hk he) rfl (pIn_ok hin) hdg (fun H1 locs1 g1 g2 g3 => k H1 locs1 ⟨?_, ?_, g3⟩ ls hl)
        · show va_P D vwCl (pWs cT ad (es.set (k0 - 64) _)) H1
          rw [pWs_set hk]; exact g1
        · show va_D A (pWs cT ad (es.set (k0 - 64) _))
          rw [pWs_set hk]; exact g2
      · cases h
    · cases h
  · cases h
/-- the types of the heap's rows are the four -/
def pOkT (es : PH) : Prop := ∀ (k : Nat) (x : Nat × Nat × ((Nat → Int32) ⊕ (Nat → Int64))), es[k]? = some (.inl x) → x.1 < 4
theorem h_arraylength (hx : p.tables.exec = Jvm.exec) (hb : c.code = cc) (hdg : decode cc pc = .ok (.arraylength, 1)) (hT : pOkT es)
    (hcx : pCx D cT ad O A s s.heap) (hl : pLoc ad nL ls L) (hh : pHeap D cT ad A s.heap H locs es) (h : pS1 O ini .arraylength q a b pc L st es = some r) (k : pWH p l e R s m args below meth c cells slots Q D cT ad A nL r) : W p l e R s m args below meth c H locs cells slots Q (F0 m pc ls (st.map (pTr ad))) := by
  simp only [pS1] at h
  split at h
  · rename_i k0 rr
    split at h
    · rename_i n hlen
      cases h
      unfold pLenA at hlen
      split at hlen
      · rename_i hk
        cases hO : O k0 with
        | none => rw [hO] at hlen; cases hlen
        | some x =>
          rw [hO] at hlen
          cases hlen
          rcases (hcx.2.2.2.1 k0 x.1 x.2 hO).2 with ⟨x1, x2, x3⟩ | x1
          · exact va_slen hx hb x1 x2 x3 hh.2.2 hdg (k H locs hh ls hl)
          · exact va_tlen hx hb x1 hh.2.2 rfl hdg (k H locs hh ls hl)
      · rename_i hk
        split at hlen
        · rename_i t n2 f he
          cases hlen
          have ht : t < 4 := hT _ _ he
          have hty : ∃ ty, pTys[t]? = some ty := ⟨pTys[t]'ht, List.getElem?_eq_getElem ht⟩
          obtain ⟨ty, hty⟩ := hty
          cases f with
          | inl f => exact va_alen (D := D) hx hb hcx.1 hh.1 (k0 - 64) t (pWs_at (cT := cT) hk he) (pTyL_at cT hty) rfl hdg (k H locs hh ls hl)
          | inr f => exact va_alen (D := D) hx hb hcx.1 hh.1 (k0 - 64) t (pWs_at (cT := cT) hk he) (pTyL_at cT hty) rfl hdg (k H locs hh ls hl)
        · cases hlen
    · cases h
  · cases h
theorem h_ldc {ix : Nat} (hx : p.tables.exec = Jvm.exec) (hb : c.code = cc) (hdg : decode cc pc = .ok (.ldc ix, 2)) (hok : pOKe own (.ldc ix, len, q, a, b) = true) (hown : s.vm.findClass own = some m.cls) (hts : ∀ w ∈ pW0, w.before args s = true)
    (hcx : pCx D cT ad O A s s.heap) (hl : pLoc ad nL ls L) (hh : pHeap D cT ad A s.heap H locs es) (h : pS1 O ini (.ldc ix) q a b pc L st es = some r) (k : pWH p l e R s m args below meth c cells slots Q D cT ad A nL r) : W p l e R s m args below meth c H locs cells slots Q (F0 m pc ls (st.map (pTr ad))) := by
  simp only [pS1] at h
  simp only [pOKe] at hok
  split at hok
  · simp only [if_true] at h
    split at hok
    · rename_i w hw
      rw [Bool.and_eq_true, beq_iff_eq, beq_iff_eq] at hok
      obtain ⟨o1, o2⟩ := hok
      split at h
      · rename_i w' hw'
        cases h
        cases hw.symm.trans hw'
        have hw1 := hts _ (wKI_in hw)
        rw [o1, o2] at hw1
        exact lv_ldc hx hb hown hw1 hdg (k H locs hh ls hl)
      · cases h
    · cases hok
  · simp only [Nat.succ_ne_zero, if_false] at h
    split at hok
    · rename_i w hw
      rw [Bool.and_eq_true, beq_iff_eq, beq_iff_eq] at hok
      obtain ⟨o1, o2⟩ := hok
      cases h
      have hw1 := hcx.2.2.2.2.2 q w hw
      rw [o1, o2] at hw1
      exact va_ldcS hx hb hown hw1 hdg (k H locs hh ls hl)
    · cases hok
  · cases hok
theorem h_ldcw {ix : Nat} (hx : p.tables.exec = Jvm.exec) (hb : c.code = cc) (hdg : decode cc pc = .ok (.ldc_w ix, 3)) (hok : pOKe own (.ldc_w ix, len, q, a, b) = true) (hown : s.vm.findClass own = some m.cls) (hts : ∀ w ∈ pW0, w.before args s = true)
    (hl : pLoc ad nL ls L) (hh : pHeap D cT ad A s.heap H locs es) (h : pS1 O ini (.ldc_w ix) q a b pc L st es = some r) (k : pWH p l e R s m args below meth c cells slots Q D cT ad A nL r) : W p l e R s m args below meth c H locs cells slots Q (F0 m pc ls (st.map (pTr ad))) := by
  simp only [pS1] at h
  simp only [pOKe] at hok
  split at hok
  · simp only [if_true] at h
    split at hok
    · rename_i w hw
      rw [Bool.and_eq_true, beq_iff_eq, beq_iff_eq] at hok
      obtain ⟨o1, o2⟩ := hok
      split at h
      · rename_i w' hw'
        cases h
        cases hw.symm.trans hw'
        have hw1 := hts _ (wKI_in hw)
        rw [o1, o2] at hw1
        exact lv_ldcw hx hb hown hw1 hdg (k H locs hh ls hl)
      · cases h
    · cases hok
  · simp only [Nat.succ_ne_zero, if_false] at h
    cases h
  · cases hok
theorem h_ldc2 {ix : Nat} (hx : p.tables.exec = Jvm.exec) (hb : c.code = cc) (hdg : decode cc pc = .ok (.ldc2_w ix, 3)) (hok : pOKe own (.ldc2_w ix, len, q, a, b) = true) (hown : s.vm.findClass own = some m.cls) (hts : ∀ w ∈ pW0, w.before args s = true)
    (hl : pLoc ad nL ls L) (hh : pHeap D cT ad A s.heap H locs es) (h : pS1 O ini (.ldc2_w ix) q a b pc L st es = some r) (k : pWH p l e R s m args below meth c cells slots Q D cT ad A nL r) : W p l e R s m args below meth c H locs cells slots Q (F0 m pc ls (st.map (pTr ad))) := by
  simp only [pS1] at h
  simp only [pOKe] at hok
  split at hok
  · rename_i w hw
    rw [Bool.and_eq_true, beq_iff_eq, beq_iff_eq] at hok
    obtain ⟨o1, o2⟩ := hok
    split at h
    · rename_i w' hw'
      cases h
      cases hw.symm.trans hw'
      have hw1 := hts _ (wKL_in hw)
      rw [o1, o2] at hw1
      exact lv_ldc2 hx hb hown hw1 hdg (k H locs hh ls hl)
    · cases h
  · cases hok
theorem h_getstatic {ix : Nat} (hx : p.tables.exec = Jvm.exec) (hb : c.code = cc) (hdg : decode cc pc = .ok (.getstatic ix, 3)) (hok : pOKe own (.getstatic ix, len, q, a, b) = true) (hown : s.vm.findClass own = some m.cls)
    (hcx : pCx D cT ad O A s s.heap) (hl : pLoc ad nL ls L) (hh : pHeap D cT ad A s.heap H locs es) (h : pS1 O ini (.getstatic ix) q a b pc L st es = some r) (k : pWH p l e R s m args below meth c cells slots Q D cT ad A nL r) : W p l e R s m args below meth c H locs cells slots Q (F0 m pc ls (st.map (pTr ad))) := by
  simp only [pS1] at h
  cases h
  simp only [pOKe] at hok
  split at hok
  · rename_i w n hw hn
    simp only [Bool.and_eq_true, beq_iff_eq] at hok
    obtain ⟨o1, o2, o3, o4, o5⟩ := hok
    have hw0 : Cond.fieldLinkNest w.1 w.2.1 w.2.2.1 w.2.2.2.1 w.2.2.2.2 "MoveNotes" ∈ pNestF := List.mem_map.mpr ⟨w, List.mem_of_getElem? hw, rfl⟩
    have hw1 := hcx.2.1 _ hw0
    rw [o1, o2, o3, o4, o5] at hw1
    exact va_getsN hx hb (hcx.2.2.2.2.1 a n hn) hh.2.2 hown (va_Nw.use rfl hw1) (fun x h9 => h9) hdg (k H locs hh ls hl)
  · cases hok
theorem h_objInit {ix : Nat} (hx : p.tables.exec = Jvm.exec) (hb : c.code = cc) (hdg : decode cc pc = .ok (.invokespecial ix, 3)) (hok : pOKe own (.invokespecial ix, len, q, a, b) = true) (hown : s.vm.findClass own = some m.cls) (hts : ∀ w ∈ pW0, w.before args s = true) (hnL : c.maxLocals = nL)
    (hR : 1 ≤ R.frames ∧ 100 ≤ R.locals) (hcat : (st.map (fun v => v.category)).sum ≤ 40)
    (hl : pLoc ad nL ls L) (hh : pHeap D cT ad A s.heap H locs es) (h : pS1 O ini (.invokespecial ix) q a b pc L st es = some r) (k : pWH p l e R s m args below meth c cells slots Q D cT ad A nL r) : W p l e R s m args below meth c H locs cells slots Q (F0 m pc ls (st.map (pTr ad))) := by
  simp only [pS1] at h
  split at h
  · rename_i hb6
    subst hb6
    split at h
    · rename_i k0 rr
      split at h
      · cases h
      cases h
      simp only [pOKe] at hok
      split at hok
      · rename_i w hw
        simp only [Bool.and_eq_true, beq_iff_eq, decide_eq_true_eq] at hok
        obtain ⟨o1, o2, o3⟩ := hok
        have hw1 := hts _ (wML_in hw)
        rw [o1, o2, o3] at hw1
        have hsz : ls.size = nL := by obtain ⟨lv, h1, -, -⟩ := hl; exact h1.1
        refine W.objInit hx hb hown hw1 (hts _ pW_objI) (hts _ pW_objC) rfl (by rw [hnL]; exact hsz) rfl hdg hR.1 ?_ (k H locs hh ls hl)
        have e1 : ((rr.map (pTr ad)).map fun v => v.category) = rr.map (fun v => v.category) := by
          rw [List.map_map]
          exact List.map_congr_left (fun v _ => pTr_cat ad v)
        show 2 * 0 + ((rr.map (pTr ad)).map fun v => v.category).sum + 12 ≤ R.locals
        rw [e1]
        simp only [List.map_cons, List.sum_cons] at hcat
        have := hR.2
        omega
      · cases hok
    · cases h
  · cases h
theorem h_arraycopy {ix : Nat} (hx : p.tables.exec = Jvm.exec) (hb : c.code = cc) (hdg : decode cc pc = .ok (.invokestatic ix, 3)) (hok : pOKe own (.invokestatic ix, len, q, a, b) = true) (hown : s.vm.findClass own = some m.cls) (hts : ∀ w ∈ pW0, w.before args s = true) (hnL : c.maxLocals = nL)
    (hR : 1 ≤ R.frames ∧ 100 ≤ R.locals) (hcat : (st.map (fun v => v.category)).sum ≤ 40)
    (hcx : pCx D cT ad O A s s.heap) (hl : pLoc ad nL ls L) (hh : pHeap D cT ad A s.heap H locs es) (h : pS1 O ini (.invokestatic ix) q a b pc L st es = some r) (k : pWH p l e R s m args below meth c cells slots Q D cT ad A nL r) : W p l e R s m args below meth c H locs cells slots Q (F0 m pc ls (st.map (pTr ad))) := by
  simp only [pS1] at h
  split at h
  · rename_i hb7
    subst hb7
    split at h
    · rename_i n dp k1 sp k0 rr
      split at h
      · cases h
      rename_i hk
      split at h
      · rename_i n0 f n1 g he0 he1
        split at h
        · rename_i hc
          obtain ⟨c1, c2, c3, c4, c5⟩ := hc
          cases h
          simp only [pOKe] at hok
          split at hok
          · rename_i w hw
            simp only [Bool.and_eq_true, beq_iff_eq, decide_eq_true_eq] at hok
            obtain ⟨o1, o2, o3⟩ := hok
            have hw1 := hts _ (wML_in hw)
            rw [o1, o2, o3] at hw1
            have hk0 : ¬ k0 < 64 := fun z => hk (Or.inl z)
            have hk1 : ¬ k1 < 64 := fun z => hk (Or.inr z)
            have hsz : ls.size = nL := by obtain ⟨lv, h1, -, -⟩ := hl; exact h1.1
            refine va_copyi (D := D) (ty := .int) hx hb (hnL.trans hsz.symm) hown hw1 (hts _ pW_acN) (hts _ pW_acS) (hts _ pW_sys) hcx.1 hh.1 hh.2.1 hh.2.2 (k0 - 64) (k1 - 64) 0 0 (pWs_at (cT := cT) hk0 he0) (pWs_at (cT := cT) hk1 he1) rfl rfl rfl c1 c2 c3 c4 c5 (fun _ _ => rfl) hR.1 ?_ hdg (fun H1 locs1 g1 g2 g3 => k H1 locs1 ⟨?_, ?_, g3⟩ ls hl)
            · have e1 : ((rr.map (pTr ad)).map fun v => v.category) = rr.map (fun v => v.category) := by
                rw [List.map_map]
                exact List.map_congr_left (fun v _ => pTr_cat ad v)
              have e2 : nativeFrameWords "java/lang/System" "arraycopy" 5 + 11 ≤ 60 := by decide
              rw [e1]
              simp only [List.map_cons, List.sum_cons] at hcat
              have := hR.2
              omega
            · show va_P D vwCl (pWs cT ad (es.set (k1 - 64) _)) H1
              rw [pWs_set hk1]; exact g1
            · show va_D A (pWs cT ad (es.set (k1 - 64) _))
              rw [pWs_set hk1]; exact g2
          · cases hok
        · cases h
      · cases h
    · cases h
  · cases h
theorem sim1 {ins : Instr} (hx : p.tables.exec = Jvm.exec) (hb : c.code = cc) (hdg : decode cc pc = .ok (ins, len)) (hlen : pLen ins = 0 ∨ pLen ins = len) (hok : pOKe own (ins, len, q, a, b) = true) (hown : s.vm.findClass own = some m.cls) (hts : ∀ w ∈ pW0, w.before args s = true) (hnL : c.maxLocals = nL) (hini : ini = true → meth.name = "<init>" ∧ (vwCl[a]?).map (·.1) = some own)
    (hR : 1 ≤ R.frames ∧ 100 ≤ R.locals) (hcat : pIsInv ins = true → (st.map (fun v => v.category)).sum ≤ 40) (hT : pOkT es)
    (hcx : pCx D cT ad O A s s.heap) (hl : pLoc ad nL ls L) (hh : pHeap D cT ad A s.heap H locs es) (h : pS1 O ini ins q a b pc L st es = some r) (k : pWH p l e R s m args below meth c cells slots Q D cT ad A nL r) : W p l e R s m args below meth c H locs cells slots Q (F0 m pc ls (st.map (pTr ad))) := by
  cases ins
  case getfield ix => exact h_getfield hx hb (pHd hdg hlen rfl (by decide)) hok hown hts hcx hl hh h k
  case putfield ix => exact h_putfield hx hb (pHd hdg hlen rfl (by decide)) hok hown hts hini hcx hl hh h k
  case iaload => exact h_iaload hx hb (pHd hdg hlen rfl (by decide)) hcx hl hh h k
  case baload => exact h_baload hx hb (pHd hdg hlen rfl (by decide)) hcx hl hh h k
  case laload => exact h_laload hx hb (pHd hdg hlen rfl (by decide)) hcx hl hh h k
  case iastore => exact h_iastore hx hb (pHd hdg hlen rfl (by decide)) hcx hl hh h k
  case bastore => exact h_bastore hx hb (pHd hdg hlen rfl (by decide)) hcx hl hh h k
  case lastore => exact h_lastore hx hb (pHd hdg hlen rfl (by decide)) hcx hl hh h k
  case arraylength => exact h_arraylength hx hb (pHd hdg hlen rfl (by decide)) hT hcx hl hh h k
  case ldc ix => exact h_ldc hx hb (pHd hdg hlen rfl (by decide)) hok hown hts hcx hl hh h k
  case ldc_w ix => exact h_ldcw hx hb (pHd hdg hlen rfl (by decide)) hok hown hts hl hh h k
  case ldc2_w ix => exact h_ldc2 hx hb (pHd hdg hlen rfl (by decide)) hok hown hts hl hh h k
  case getstatic ix => exact h_getstatic hx hb (pHd hdg hlen rfl (by decide)) hok hown hcx hl hh h k
  case invokespecial ix => exact h_objInit hx hb (pHd hdg hlen rfl (by decide)) hok hown hts hnL hR (hcat rfl) hl hh h k
  case invokestatic ix => exact h_arraycopy hx hb (pHd hdg hlen rfl (by decide)) hok hown hts hnL hR (hcat rfl) hcx hl hh h k
  all_goals (exact absurd h (by simp [pS1]))
end SIM2
