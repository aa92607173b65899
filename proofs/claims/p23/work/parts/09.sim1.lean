/-! the pure machine's instructions of the heap, over the machine -/
def pCell (cT : Nat → ClassId) (ad : Nat → Nat) : PE → va_E
  | .inl (t, n, .inl f) => .inl (cT t, n, .inl f)
  | .inl (t, n, .inr f) => .inl (cT t, n, .inr (.inl f))
  | .inr (ci, fs) => .inr (ci, fs.map (pTr ad))
def pWs (cT : Nat → ClassId) (ad : Nat → Nat) (es : PH) : va_W := es.mapIdx (fun i e => (ad (64 + i), pCell cT ad e))
def pTyL (cT : Nat → ClassId) : List (ClassId × FieldType) := [(cT 0, .int), (cT 1, .long), (cT 2, .byte), (cT 3, .boolean)]
theorem pTyL_at (cT : Nat → ClassId) : ∀ {t : Nat} {ty : FieldType}, pTys[t]? = some ty → (pTyL cT)[t]? = some (cT t, ty)
  | 0, _, h => by cases h; rfl
  | 1, _, h => by cases h; rfl
  | 2, _, h => by cases h; rfl
  | 3, _, h => by cases h; rfl
  | _ + 4, _, h => by simp [pTys] at h
theorem pWs_at {cT : Nat → ClassId} {ad : Nat → Nat} {es : PH} {k : Nat} {e : PE} (hk : ¬ k < 64) (h : es[k - 64]? = some e) : (pWs cT ad es)[k - 64]? = some (ad k, pCell cT ad e) := by
  unfold pWs
  rw [List.getElem?_mapIdx, h, Option.map_some, show 64 + (k - 64) = k by omega]
theorem pWs_set {cT : Nat → ClassId} {ad : Nat → Nat} {es : PH} {k : Nat} {e : PE} (hk : ¬ k < 64) : pWs cT ad (es.set (k - 64) e) = (pWs cT ad es).set (k - 64) (ad k, pCell cT ad e) := by
  unfold pWs
  rw [List.mapIdx_set, show 64 + (k - 64) = k by omega]
def pNestF : List Cond := pSL.map (fun w => Cond.fieldLinkNest w.1 w.2.1 w.2.2.1 w.2.2.2.1 w.2.2.2.2 "MoveNotes")
def pNestM : List Cond := pNL.map (fun w => Cond.methodLinkNest w.1 w.2.1 w.2.2 "MoveNotes")
/-- a row of ints that was there before: the script, or a fixed row -/
def pRow (a n : Nat) (f : Nat → Int32) (A : Nat → Prop) (s : State) (H : Heap) : Prop := (va_X a n f s H ∧ a < H.size ∧ ¬ A a) ∨ va_T .int a n (fun j => .int (f j)) A s H
/-- what holds while a method runs, of what was there before it: the tables, the rows of steps, the script, the texts -/
def pCx (D : va_G) (cT : Nat → ClassId) (ad : Nat → Nat) (O : pOut) (A : Nat → Prop) (s : State) (H : Heap) : Prop :=
  va_K D vwCl (pTyL cT) s ∧ (∀ w ∈ pNestF, va_Nw w s) ∧ (∀ w ∈ pNestM, va_Nw w s) ∧ (∀ (k n : Nat) (f : Nat → Int32), O k = some (n, f) → k < 64 ∧ pRow (ad k) n f A s H) ∧
  (∀ (k : Nat) (n : String), pSN[k]? = some n → va_Z "MoveNotes" n "[I" (.ref (ad k)) A s H) ∧ (∀ (q : Nat) (w : String × Nat × String), pST[q]? = some w → vk_R w.1 w.2.1 w.2.2 (ad (8 + q)) s)
/-- the pure heap lies in the heap -/
def pHeap (D : va_G) (cT : Nat → ClassId) (ad : Nat → Nat) (A : Nat → Prop) (H0 H : Heap) (locs : List Loc) (es : PH) : Prop :=
  va_P D vwCl (pWs cT ad es) H ∧ va_D A (pWs cT ad es) ∧ va_S A H0 H locs
/-- a class's fields -/
theorem pCl_facts : ∀ {a : Nat} {C : String} {T : u_T} {N : Nat}, vwCl[a]? = some (C, T, N) → ∃ ty0 : Nat → FieldType, (∀ k, k < N → parseFieldDescriptor (T k).2.2.1 = some (ty0 k)) ∧ (∀ k q, pFty a k = some q → k < N ∧ q = (ty0 k, (T k).2.2.2)) ∧ (∀ a, a < N → ∀ b, b < N → a ≠ b → (T a).2.1 ≠ (T b).2.1) ∧ pBlank a = (List.range N).map (fun k => pDefV (ty0 k)) := by
  have key : ∀ (N : Nat) (g : Nat → FieldType × Bool) (k : Nat) (q : FieldType × Bool), ((List.range N).map g)[k]? = some q → k < N ∧ q = g k := by
    intro N g k q h
    rw [List.getElem?_map] at h
    by_cases hk : k < N
    · rw [List.getElem?_range hk] at h
      cases h
      exact ⟨hk, rfl⟩
    · rw [List.getElem?_eq_none (by simpa using hk)] at h
      cases h
  intro a C T N h
  match a, h with
  | 0, h => cases h; exact ⟨tyX0, tyX0_ok, fun k q hq => key _ _ k q hq, nmX0, rfl⟩
  | 1, h => cases h; exact ⟨tyX1, tyX1_ok, fun k q hq => key _ _ k q hq, nmX1, rfl⟩
  | 2, h => cases h; exact ⟨tyX2, tyX2_ok, fun k q hq => key _ _ k q hq, nmX2, rfl⟩
  | 3, h => cases h; exact ⟨tyX3, tyX3_ok, fun k q hq => key _ _ k q hq, nmX3, rfl⟩
  | 4, h => cases h; exact ⟨tyX4, tyX4_ok, fun k q hq => key _ _ k q hq, nmX4, rfl⟩
  | 5, h => cases h; exact ⟨tyX5, tyX5_ok, fun k q hq => key _ _ k q hq, nmX5, rfl⟩
  | 6, h => cases h; exact ⟨tyX6, tyX6_ok, fun k q hq => key _ _ k q hq, nmX6, rfl⟩
  | 7, h => cases h; exact ⟨tyX7, tyX7_ok, fun k q hq => key _ _ k q hq, nmX7, rfl⟩
  | 8, h => cases h; exact ⟨tyX8, tyX8_ok, fun k q hq => key _ _ k q hq, nmX8, rfl⟩
  | 9, h => cases h; exact ⟨tyX9, tyX9_ok, fun k q hq => key _ _ k q hq, nmX9, rfl⟩
  | 10, h => cases h; exact ⟨tyX10, tyX10_ok, fun k q hq => key _ _ k q hq, nmX10, rfl⟩
  | 11, h => cases h; exact ⟨tyX11, tyX11_ok, fun k q hq => key _ _ k q hq, nmX11, rfl⟩
  | 12, h => cases h; exact ⟨tyX12, tyX12_ok, fun k q hq => key _ _ k q hq, nmX12, rfl⟩
  | _ + 13, h => simp [vwCl] at h
theorem pFit_ok (ad : Nat → Nat) {ty : FieldType} {v : Value} (h : pFit ty v = true) : narrow ty (pTr ad v) = pTr ad v ∧ fits ty (pTr ad v) = true := by
  unfold pFit at h
  split at h
  · exact ⟨rfl, rfl⟩
  · rename_i x
    simp only [Bool.or_eq_true, beq_iff_eq] at h
    rcases h with h | h <;> subst h <;> exact ⟨rfl, rfl⟩
  · exact ⟨rfl, rfl⟩
  · exact ⟨rfl, rfl⟩
  · exact ⟨rfl, rfl⟩
  · cases h
theorem pUws_in {a : Nat} {C : String} {T : u_T} {N : Nat} (h : vwCl[a]? = some (C, T, N)) : ∀ w ∈ u_ws C T N, w ∈ pW0 := by
  intro w hw
  have h1 := List.all_eq_true.mp wUws _ (List.mem_of_getElem? h)
  have h2 := List.all_eq_true.mp h1 w hw
  rw [Bool.and_eq_true, decide_eq_true_eq] at h2
  exact pW0_of h2.1 h2.2
theorem wFL_in {q : Nat} {w : String × Nat × String × String × String} (h : pFL[q]? = some w) : Cond.fieldLink w.1 w.2.1 w.2.2.1 w.2.2.2.1 w.2.2.2.2 ∈ pW0 := by
  have h1 : Cond.fieldLink w.1 w.2.1 w.2.2.1 w.2.2.2.1 w.2.2.2.2 ∈ lw_tbl.filter isFL := by
    rw [wFL]
    exact List.mem_map.mpr ⟨w, List.mem_of_getElem? h, rfl⟩
  exact pW0_of (List.mem_filter.mp h1).1 rfl
theorem wML_in {q : Nat} {w : String × Nat × MethodName} (h : pML[q]? = some w) : Cond.methodLink w.1 w.2.1 w.2.2 ∈ pW0 := by
  have h1 : Cond.methodLink w.1 w.2.1 w.2.2 ∈ lw_tbl.filter isML := by
    rw [wML]
    exact List.mem_map.mpr ⟨w, List.mem_of_getElem? h, rfl⟩
  exact pW0_of (List.mem_filter.mp h1).1 rfl
theorem wCK_in {q : Nat} {w : String × Nat × String} (h : pCK[q]? = some w) : Cond.classLink w.1 w.2.1 w.2.2 ∈ pW0 := by
  have h1 : Cond.classLink w.1 w.2.1 w.2.2 ∈ lw_tbl.filter isCK := by
    rw [wCK]
    exact List.mem_map.mpr ⟨w, List.mem_of_getElem? h, rfl⟩
  exact pW0_of (List.mem_filter.mp h1).1 rfl
theorem wKI_in {q : Nat} {w : String × Nat × Int32} (h : pKI[q]? = some w) : Cond.constant w.1 w.2.1 w.2.2 ∈ pW0 := by
  have h1 : Cond.constant w.1 w.2.1 w.2.2 ∈ lw_tbl.filter isKI := by
    rw [wKI]
    exact List.mem_map.mpr ⟨w, List.mem_of_getElem? h, rfl⟩
  exact pW0_of (List.mem_filter.mp h1).1 rfl
theorem wKL_in {q : Nat} {w : String × Nat × Int64} (h : pKL[q]? = some w) : Cond.constantLong w.1 w.2.1 w.2.2 ∈ pW0 := by
  have h1 : Cond.constantLong w.1 w.2.1 w.2.2 ∈ lw_tbl.filter isKL := by
    rw [wKL]
    exact List.mem_map.mpr ⟨w, List.mem_of_getElem? h, rfl⟩
  exact pW0_of (List.mem_filter.mp h1).1 rfl
theorem pW0_lit {w : Cond} (h : (decide (w ∈ lw_tbl) && goodWord w) = true) : w ∈ pW0 := by
  rw [Bool.and_eq_true, decide_eq_true_eq] at h
  exact pW0_of h.1 h.2
theorem pW_objI : Cond.instanceMethod Jvm.Lib.objectInit ∈ pW0 := pW0_lit (by decide +kernel)
theorem pW_objC : Cond.code Jvm.Lib.objectInit ⟨#[0xb1]⟩ 1 none ∈ pW0 := pW0_lit (by decide +kernel)
theorem pW_acN : Cond.native arraycopyName ∈ pW0 := pW0_lit (by decide +kernel)
theorem pW_acS : Cond.static arraycopyName ∈ pW0 := pW0_lit (by decide +kernel)
theorem pW_sys : Cond.initialized "java/lang/System" ∈ pW0 := pW0_lit (by decide +kernel)
theorem pIn_ok {i : Int32} {n : Nat} (h : pIn i n = true) : vp_in i n := by simpa [pIn, vp_in] using h
def pIsInv : Instr → Bool
  | .invokespecial _ => true
  | .invokestatic _ => true
  | _ => false
section SIM1
variable {p : Program} {l : Launch} {e : Env} {R : Room} {s : State} {m : MethodId} {args : Array Value} {below : List Frame} {meth : Method} {c : Code} {H : Heap} {locs : List Loc} {cells slots : Nat} {Q : State → Prop} {cc : ByteArray} {pc nL : Nat} {ls : Array Slot} {ad : Nat → Nat} {L : PL} {st : List Value} {es : PH} {r : pSt}
variable {D : va_G} {cT : Nat → ClassId} {O : pOut} {A : Nat → Prop} {own : String} {ini : Bool} {q a b len : Nat}
/-- the machine at a pure state, the heap with it -/
abbrev pWH (p : Program) (l : Launch) (e : Env) (R : Room) (s : State) (m : MethodId) (args : Array Value) (below : List Frame) (meth : Method) (c : Code) (cells slots : Nat) (Q : State → Prop) (D : va_G) (cT : Nat → ClassId) (ad : Nat → Nat) (A : Nat → Prop) (nL : Nat) (r : pSt) : Prop :=
  ∀ (H' : Heap) (locs' : List Loc), pHeap D cT ad A s.heap H' locs' r.2.2.2 → pW p l e R s m args below meth c H' locs' cells slots Q ad nL r
theorem h_getfield {ix : Nat} (hx : p.tables.exec = Jvm.exec) (hb : c.code = cc) (hdg : decode cc pc = .ok (.getfield ix, 3)) (hok : pOKe own (.getfield ix, len, q, a, b) = true) (hown : s.vm.findClass own = some m.cls) (hts : ∀ w ∈ pW0, w.before args s = true)
    (hcx : pCx D cT ad O A s s.heap) (hl : pLoc ad nL ls L) (hh : pHeap D cT ad A s.heap H locs es) (h : pS1 O ini (.getfield ix) q a b pc L st es = some r) (k : pWH p l e R s m args below meth c cells slots Q D cT ad A nL r) : W p l e R s m args below meth c H locs cells slots Q (F0 m pc ls (st.map (pTr ad))) := by
  simp only [pS1] at h
  split at h
  · rename_i k0 rr
    split at h
    · cases h
    rename_i hk
    split at h
    · rename_i cx fs he
      split at h
      · rename_i hca
        subst hca
        split at h
        · rename_i v hv
          cases h
          simp only [pOKe] at hok
          split at hok
          · rename_i w cl hw hcl
            obtain ⟨C, T, N⟩ := cl
            simp only [Bool.and_eq_true, beq_iff_eq, decide_eq_true_eq] at hok
            obtain ⟨o1, o2, o3, o4, o5, o6, o7⟩ := hok
            have hw1 := hts _ (wFL_in hw)
            rw [o1, o2, o3, ← o5, ← o6] at hw1
            refine va_get (D := D) (ci := cx) (C := C) (T := T) (N := N) hx hb hts (pUws_in hcl) hown hcx.1 hh.1 (k0 - 64) (pWs_at (cT := cT) hk he) hcl b o7 hw1 (fun x h9 => by rw [← o4]; exact h9) (v := pTr ad v) ?_ hdg (k H locs hh ls hl)
            rw [List.getElem?_map, hv]
            rfl
          · cases hok
        · cases h
      · cases h
    · cases h
  · cases h
theorem h_putfield {ix : Nat} (hx : p.tables.exec = Jvm.exec) (hb : c.code = cc) (hdg : decode cc pc = .ok (.putfield ix, 3)) (hok : pOKe own (.putfield ix, len, q, a, b) = true) (hown : s.vm.findClass own = some m.cls) (hts : ∀ w ∈ pW0, w.before args s = true) (hini : ini = true → meth.name = "<init>" ∧ (vwCl[a]?).map (·.1) = some own)
    (hcx : pCx D cT ad O A s s.heap) (hl : pLoc ad nL ls L) (hh : pHeap D cT ad A s.heap H locs es) (h : pS1 O ini (.putfield ix) q a b pc L st es = some r) (k : pWH p l e R s m args below meth c cells slots Q D cT ad A nL r) : W p l e R s m args below meth c H locs cells slots Q (F0 m pc ls (st.map (pTr ad))) := by
  simp only [pS1] at h
  split at h
  · rename_i v k0 rr
    split at h
    · cases h
    rename_i hk
    split at h
    · rename_i cx fs he
      split at h
      · rename_i hca
        subst hca
        split at h
        · rename_i ty fin hty
          split at h
          · rename_i hc
            cases h
            simp only [Bool.and_eq_true, decide_eq_true_eq] at hc
            obtain ⟨⟨hfit, hfin⟩, hlen⟩ := hc
            simp only [pOKe] at hok
            split at hok
            · rename_i w cl hw hcl
              obtain ⟨C, T, N⟩ := cl
              simp only [Bool.and_eq_true, beq_iff_eq, decide_eq_true_eq] at hok
              obtain ⟨o1, o2, o3, o4, o5, o6, o7⟩ := hok
              have hw1 := hts _ (wFL_in hw)
              rw [o1, o2, o3, ← o5, ← o6] at hw1
              obtain ⟨ty0, t1, t2, t3, -⟩ := pCl_facts hcl
              obtain ⟨-, htf⟩ := t2 _ _ hty
              cases htf
              obtain ⟨n1, n2⟩ := pFit_ok ad hfit
              have fin' : ∀ (H1 : Heap) (locs1 : List Loc), va_P D vwCl ((pWs cT ad es).set (k0 - 64) (ad k0, .inr (cx, (fs.map (pTr ad)).set b (pTr ad v)))) H1 → va_D A ((pWs cT ad es).set (k0 - 64) (ad k0, .inr (cx, (fs.map (pTr ad)).set b (pTr ad v)))) → va_S A s.heap H1 locs1 → W p l e R s m args below meth c H1 locs1 cells slots Q (F0 m (pc + 3) ls (rr.map (pTr ad))) := by
                intro H1 locs1 g1 g2 g3
                have e1 : pWs cT ad (es.set (k0 - 64) (.inr (cx, fs.set b v))) = (pWs cT ad es).set (k0 - 64) (ad k0, .inr (cx, (fs.map (pTr ad)).set b (pTr ad v))) := by
                  rw [pWs_set hk]
                  simp only [pCell, List.map_set]
                refine k H1 locs1 ⟨?_, ?_, g3⟩ ls hl
                · show va_P D vwCl (pWs cT ad (es.set (k0 - 64) (.inr (cx, fs.set b v)))) H1
                  rw [e1]; exact g1
                · show va_D A (pWs cT ad (es.set (k0 - 64) (.inr (cx, fs.set b v))))
                  rw [e1]; exact g2
              cases hf : (T b).2.2.2 with
              | false =>
                exact va_put (D := D) (ci := cx) (C := C) (T := T) (N := N) hx hb hts (pUws_in hcl) ty0 t1 t3 hown hcx.1 hh.1 hh.2.1 hh.2.2 (k0 - 64) (pWs_at (cT := cT) hk he) hcl b o7 hw1 (fun x h9 => by rw [← o4]; exact h9) hf (t1 b o7) n1 n2 (by rw [List.length_map]; exact hlen) hdg fin'
              | true =>
                rw [hf] at hfin
                have hi : ini = true := by simpa using hfin
                obtain ⟨i1, i2⟩ := hini hi
                rw [hcl] at i2
                have i3 : C = own := Option.some.inj i2
                exact va_putF (D := D) (ci := cx) (C := C) (T := T) (N := N) hx hb hts (pUws_in hcl) ty0 t1 t3 hown hcx.1 hh.1 hh.2.1 hh.2.2 (k0 - 64) (pWs_at (cT := cT) hk he) hcl b o7 hw1 (fun x h9 => by rw [← o4]; exact h9) hf i1 (o4.trans i3) (t1 b o7) n1 n2 (by rw [List.length_map]; exact hlen) hdg fin'
            · cases hok
          · cases h
        · cases h
      · cases h
    · cases h
  · cases h
end SIM1
