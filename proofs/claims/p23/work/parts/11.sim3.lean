/-! what is made; what references are good -/
def pOkV (n : Nat) : Value → Bool
  | .ref k => decide (k < n)
  | _ => true
def pOkL (n : Nat) (L : PL) : Prop := ∀ (i : Nat) (v : Value), L[i]? = some (some v) → pOkV n v = true
def pOkS (n : Nat) (st : List Value) : Prop := ∀ v ∈ st, pOkV n v = true
def pOkE (n : Nat) : PE → Prop
  | .inl x => x.1 < 4
  | .inr (_, fs) => ∀ v ∈ fs, pOkV n v = true
def pOkH (n : Nat) (es : PH) : Prop := ∀ (k : Nat) (e : PE), es[k]? = some e → pOkE n e
theorem pOkV_mono {n n' : Nat} (h : n ≤ n') {v : Value} (hv : pOkV n v = true) : pOkV n' v = true := by
  cases v with
  | ref k =>
    simp only [pOkV, decide_eq_true_eq] at hv ⊢
    exact Nat.lt_of_lt_of_le hv h
  | _ => rfl
theorem pOkE_mono {n n' : Nat} (h : n ≤ n') {e : PE} (hv : pOkE n e) : pOkE n' e := by
  cases e with
  | inl x => exact hv
  | inr x => exact fun v hm => pOkV_mono h (hv v hm)
theorem pOkT_of {n : Nat} {es : PH} (h : pOkH n es) : pOkT es := fun k x hx => h k _ hx
theorem pTr_ext {n : Nat} {ad ad' : Nat → Nat} (h : ∀ k, k < n → ad' k = ad k) {v : Value} (hv : pOkV n v = true) : pTr ad' v = pTr ad v := by
  cases v with
  | ref k =>
    simp only [pOkV, decide_eq_true_eq] at hv
    simp only [pTr]
    rw [h _ hv]
  | _ => rfl
theorem pTr_extS {n : Nat} {ad ad' : Nat → Nat} (h : ∀ k, k < n → ad' k = ad k) {st : List Value} (hv : pOkS n st) : st.map (pTr ad') = st.map (pTr ad) :=
  List.map_congr_left (fun v hm => pTr_ext h (hv v hm))
theorem pLoc.ext {n nL : Nat} {ls : Array Slot} {L : PL} {ad ad' : Nat → Nat} (h : ∀ k, k < n → ad' k = ad k) (hl : pLoc ad nL ls L) (hv : pOkL n L) : pLoc ad' nL ls L := by
  obtain ⟨lv, h1, h2, h3⟩ := hl
  exact ⟨lv, h1, h2, fun i v hi => by rw [pTr_ext h (hv i v hi)]; exact h3 i v hi⟩
theorem pWs_ext {n : Nat} {cT : Nat → ClassId} {ad ad' : Nat → Nat} {es : PH} (h : ∀ k, k < n → ad' k = ad k) (hn : 64 + es.length ≤ n) (hv : pOkH n es) : pWs cT ad' es = pWs cT ad es := by
  unfold pWs
  refine List.ext_getElem? fun i => ?_
  rw [List.getElem?_mapIdx, List.getElem?_mapIdx]
  cases he : es[i]? with
  | none => rfl
  | some e =>
    have hi : i < es.length := (List.getElem?_eq_some_iff.mp he).1
    simp only [Option.map_some]
    rw [h (64 + i) (by omega)]
    have h2 := hv i e he
    congr 2
    match e, h2 with
    | .inl (t, n, .inl f), _ => rfl
    | .inl (t, n, .inr f), _ => rfl
    | .inr (ci, fs), h2 =>
      simp only [pCell]
      rw [pTr_extS h h2]
theorem pWs_push {cT : Nat → ClassId} {ad : Nat → Nat} {es : PH} {e : PE} : pWs cT ad (es ++ [e]) = pWs cT ad es ++ [(ad (64 + es.length), pCell cT ad e)] := by
  unfold pWs
  rw [List.mapIdx_concat]
theorem pST_len : pST.length = 42 := by decide +kernel
theorem pCx.ext {D : va_G} {cT : Nat → ClassId} {ad ad' : Nat → Nat} {O : pOut} {A : Nat → Prop} {s : State} {H : Heap} (h : ∀ k, k < 64 → ad' k = ad k) (hc : pCx D cT ad O A s H) : pCx D cT ad' O A s H := by
  obtain ⟨h1, h2, h3, h4, h5, h6⟩ := hc
  refine ⟨h1, h2, h3, fun k n f hO => ?_, fun k n hk => ?_, fun q w hq => ?_⟩
  · obtain ⟨g1, g2⟩ := h4 k n f hO
    rw [h k g1]
    exact ⟨g1, g2⟩
  · have hk7 : k < 7 := (List.getElem?_eq_some_iff.mp hk).1
    rw [h k (by omega)]
    exact h5 k n hk
  · have hq7 : q < pST.length := (List.getElem?_eq_some_iff.mp hq).1
    rw [pST_len] at hq7
    rw [h (8 + q) (by omega)]
    exact h6 q w hq
theorem pCx.go {D : va_G} {cT : Nat → ClassId} {ad : Nat → Nat} {O : pOut} {A B : Nat → Prop} {s U : State} {H H1 : Heap} (hc : pCx D cT ad O A s H) (hW : s.WarmedH U.vm) (hsz : H.size ≤ H1.size) (hq : ∀ q : Nat, q < H.size → ¬ A q → H1[q]? = H[q]?) (hAB : ∀ q, B q → A q) : pCx D cT ad O B U H1 := by
  obtain ⟨h1, h2, h3, h4, h5, h6⟩ := hc
  refine ⟨h1.moved hW.alike, fun w hw => ?_, fun w hw => ?_, fun k n f hO => ?_, fun k n hk => ?_, fun q w hw => (h6 q w hw).warm hW⟩
  · obtain ⟨x, -, rfl⟩ := List.mem_map.mp hw
    exact va_Nw.warmF hW (h2 _ hw)
  · obtain ⟨x, -, rfl⟩ := List.mem_map.mp hw
    exact va_Nw.warmM hW (h3 _ hw)
  · obtain ⟨g1, g2⟩ := h4 k n f hO
    refine ⟨g1, ?_⟩
    rcases g2 with ⟨g2, g3, g4⟩ | g2
    · exact Or.inl ⟨(g2.moved hW.alike).kept (hq _ g3 g4), Nat.lt_of_lt_of_le g3 hsz, fun z => g4 (hAB _ z)⟩
    · exact Or.inr (((g2.moved hW.alike).kept hq).narrow hAB)
  · exact (((h5 k n hk).moved hW.alike).kept hq).narrow hAB
theorem pTy_cls {D : va_G} {cT : Nat → ClassId} {s : State} {cA : ClassId} {t : Nat} {ty : FieldType} (hK : va_K D vwCl (pTyL cT) s) (hK' : va_K D vwCl (pTyL cT ++ [(cA, ty)]) s) (ht : pTys[t]? = some ty) : cA = cT t := by
  have h1 := (hK.2 t _ (pTyL_at cT ht)).2
  have h2 := (hK'.2 4 (cA, ty) rfl).2
  match t, ht with
  | 0, ht => cases ht; exact Option.some.inj (h2.symm.trans h1)
  | 1, ht => cases ht; exact Option.some.inj (h2.symm.trans h1)
  | 2, ht => cases ht; exact Option.some.inj (h2.symm.trans h1)
  | 3, ht => cases ht; exact Option.some.inj (h2.symm.trans h1)
  | _ + 4, ht => simp [pTys] at ht
theorem pW_arr {t : FieldType} (h : t ∈ [FieldType.int, .long, .byte, .boolean]) : Cond.arrayClass t ∈ lw_tbl := by
  have h1 := List.all_eq_true.mp wArr t h
  exact of_decide_eq_true h1
theorem pW_arr0 {t : FieldType} (h : t ∈ [FieldType.int, .long, .byte, .boolean]) : Cond.arrayClass t ∈ pW0 := pW0_of (pW_arr h) rfl
def pNew (ins : Instr) (a : Nat) (st : List Value) : Nat := match ins, st with
  | .newarray _, .int n :: _ => n.toNatClampNeg
  | _, _ => (pBlank a).length
def pPush (es : PH) (ad : Nat → Nat) (q : Nat) : Nat → Nat := fun k => if k = 64 + es.length then q else ad k
theorem pPush_lt {es : PH} {ad : Nat → Nat} {q : Nat} : ∀ k, k < 64 + es.length → pPush es ad q k = ad k := fun k hk => by
  unfold pPush
  rw [if_neg (by omega)]
theorem pPush_at {es : PH} {ad : Nat → Nat} {q : Nat} : pPush es ad q (64 + es.length) = q := by
  unfold pPush
  rw [if_pos rfl]
theorem pBlank_tr {a : Nat} (ad : Nat → Nat) : (pBlank a).map (pTr ad) = pBlank a := by
  unfold pBlank
  rw [List.map_map]
  refine List.map_congr_left fun q _ => ?_
  obtain ⟨ty, f⟩ := q
  cases ty <;> rfl
theorem pCl_def : ∀ {a : Nat} {C : String} {T : u_T} {N : Nat}, vwCl[a]? = some (C, T, N) → ∀ (k : Nat) (ty : FieldType), k < N → parseFieldDescriptor (T k).2.2.1 = some ty → defaultValue ty = pDefV ty := by
  have key : ∀ {T : u_T} {N : Nat} {ty0 : Nat → FieldType}, (∀ k, k < N → parseFieldDescriptor (T k).2.2.1 = some (ty0 k)) → (∀ k, k < N → defaultValue (ty0 k) = pDefV (ty0 k)) → ∀ (k : Nat) (ty : FieldType), k < N → parseFieldDescriptor (T k).2.2.1 = some ty → defaultValue ty = pDefV ty := by
    intro T N ty0 h1 h2 k ty hk h
    cases (h1 k hk).symm.trans h
    exact h2 k hk
  intro a C T N h
  match a, h with
  | 0, h => cases h; exact key tyX0_ok (by decide)
  | 1, h => cases h; exact key tyX1_ok (by decide)
  | 2, h => cases h; exact key tyX2_ok (by decide)
  | 3, h => cases h; exact key tyX3_ok (by decide)
  | 4, h => cases h; exact key tyX4_ok (by decide)
  | 5, h => cases h; exact key tyX5_ok (by decide)
  | 6, h => cases h; exact key tyX6_ok (by decide)
  | 7, h => cases h; exact key tyX7_ok (by decide)
  | 8, h => cases h; exact key tyX8_ok (by decide)
  | 9, h => cases h; exact key tyX9_ok (by decide)
  | 10, h => cases h; exact key tyX10_ok (by decide)
  | 11, h => cases h; exact key tyX11_ok (by decide)
  | 12, h => cases h; exact key tyX12_ok (by decide)
  | _ + 13, h => simp [vwCl] at h
section SIM3
variable {p : Program} {l : Launch} {e : Env} {R : Room} {s : State} {m : MethodId} {args : Array Value} {below : List Frame} {meth : Method} {c : Code} {H : Heap} {locs : List Loc} {cells slots : Nat} {Q : State → Prop} {cc : ByteArray} {pc nL : Nat} {ls : Array Slot} {ad : Nat → Nat} {L : PL} {st : List Value} {es : PH} {r : pSt}
variable {D : va_G} {cT : Nat → ClassId} {O : pOut} {A : Nat → Prop} {own : String} {q a b len : Nat}
/-- the heap with one thing more -/
theorem pHeap_push {q : Nat} {H1 : Heap} {x : PE} {y : va_E} (hwH : pOkH (64 + es.length) es) (g1 : va_P D vwCl (pWs cT ad es ++ [(q, y)]) H1) (g2 : va_D A (pWs cT ad es ++ [(q, y)])) (g3 : va_S A s.heap H1 locs) (hy : pCell cT (pPush es ad q) x = y) : pHeap D cT (pPush es ad q) A s.heap H1 locs (es ++ [x]) := by
  have e1 : pWs cT (pPush es ad q) (es ++ [x]) = pWs cT ad es ++ [(q, y)] := by
    rw [pWs_push, pPush_at, hy, pWs_ext (n := 64 + es.length) (ad := ad) pPush_lt (Nat.le_refl _) hwH]
  refine ⟨?_, ?_, g3⟩
  · rw [e1]; exact g1
  · rw [e1]; exact g2
theorem n_array {t : ArrayType} {ty : FieldType} (hx : p.tables.exec = Jvm.exec) (hb : c.code = cc) (hdg : decode cc pc = .ok (.newarray t, 2)) (hts : ∀ w ∈ pW0, w.before args s = true) (hA : ∀ q, s.heap.size ≤ q → A q)
    (hty : newarray.typeOf t = ty) (hat : pTys[a]? = some ty) {x : (Nat → Int32) ⊕ (Nat → Int64)} {y : (Nat → Int32) ⊕ (Nat → Int64) ⊕ (Nat → UInt32) ⊕ (Nat → UInt64) ⊕ (Nat → Option Nat)} (hcell : ∀ (cA : ClassId) (n : Nat), vp_cell cA (n, y) = arrV cA n (fun _ => defaultValue ty)) (hpc : ∀ (ad : Nat → Nat) (n : Nat), pCell cT ad (.inl (a, n, x)) = .inl (cT a, n, y))
    (hcb : componentBytes ty ≤ 8) {n : Int32} {rr : List Value} (hn : ¬ (n < 0 ∨ 2000000 < n.toNatClampNeg)) (hwH : pOkH (64 + es.length) es)
    (hcx : pCx D cT ad O A s s.heap) (hl : pLoc ad nL ls L) (hwL : pOkL (64 + es.length) L) (hwS : pOkS (64 + es.length) rr) (hh : pHeap D cT ad A s.heap H locs es) (hroom : cells + 1 ≤ R.cells ∧ slots + n.toNatClampNeg ≤ R.slots)
    (k : ∀ ad' : Nat → Nat, (∀ k, k < 64 + es.length → ad' k = ad k) → pWH p l e R s m args below meth c (cells + 1) (slots + n.toNatClampNeg) Q D cT ad' A nL (pc + 2, L, .ref (64 + es.length) :: rr, es ++ [.inl (a, n.toNatClampNeg, x)])) : W p l e R s m args below meth c H locs cells slots Q (F0 m pc ls (.int n :: rr.map (pTr ad))) := by
  have hmem : ty ∈ [FieldType.int, .long, .byte, .boolean] := by
    match a, hat with
    | 0, h => cases h; simp
    | 1, h => cases h; simp
    | 2, h => cases h; simp
    | 3, h => cases h; simp
    | _ + 4, h => simp [pTys] at h
  have hbytes : n.toNatClampNeg * componentBytes ty ≤ 536870912 := by
    have h1 : n.toNatClampNeg ≤ 2000000 := by
      have := fun z => hn (Or.inr z)
      omega
    exact Nat.le_trans (Nat.mul_le_mul h1 hcb) (by decide)
  refine va_newa (D := D) (atype := t) (ty := ty) hx hb (by rw [hty]; exact hts _ (pW_arr0 hmem)) hty hcx.1 hh.1 hh.2.1 hh.2.2 hA (N' := n.toNatClampNeg) (a0 := (n.toNatClampNeg, y)) (fun cA => hcell cA _) (fun z => hn (Or.inl z)) rfl hbytes hroom.1 hroom.2 hdg (fun q cA H1 g0 g1 g2 g3 => ?_)
  have hcA : cA = cT a := pTy_cls hcx.1 g0 hat
  subst hcA
  have hk := k (pPush es ad q) pPush_lt H1 locs (pHeap_push hwH g1 g2 g3 (hpc _ _)) ls (hl.ext pPush_lt hwL)
  have e2 : (List.map (pTr (pPush es ad q)) (Value.ref (64 + es.length) :: rr)) = .ref q :: rr.map (pTr ad) := by
    rw [List.map_cons, pTr_extS pPush_lt hwS]
    simp only [pTr, pPush_at]
  rw [show (List.map (pTr (pPush es ad q)) (pc + 2, L, Value.ref (64 + es.length) :: rr, es ++ [Sum.inl (a, n.toNatClampNeg, x)]).2.2.1) = .ref q :: rr.map (pTr ad) from e2] at hk
  exact hk
theorem n_newarray {t : ArrayType} (hx : p.tables.exec = Jvm.exec) (hb : c.code = cc) (hdg : decode cc pc = .ok (.newarray t, 2)) (hok : pOKe own (.newarray t, len, q, a, b) = true) (hts : ∀ w ∈ pW0, w.before args s = true) (hA : ∀ q, s.heap.size ≤ q → A q)
    (hwH : pOkH (64 + es.length) es) (hwL : pOkL (64 + es.length) L) (hwS : pOkS (64 + es.length) st)
    (hcx : pCx D cT ad O A s s.heap) (hl : pLoc ad nL ls L) (hh : pHeap D cT ad A s.heap H locs es) (hroom : cells + 1 ≤ R.cells ∧ slots + pNew (.newarray t) a st ≤ R.slots)
    (h : pS2 (.newarray t) a b pc L st es = some r)
    (k : ∀ ad' : Nat → Nat, (∀ k, k < 64 + es.length → ad' k = ad k) → pWH p l e R s m args below meth c (cells + 1) (slots + pNew (.newarray t) a st) Q D cT ad' A nL r) : W p l e R s m args below meth c H locs cells slots Q (F0 m pc ls (st.map (pTr ad))) := by
  simp only [pS2] at h
  split at h
  · rename_i n rr
    split at h
    · cases h
    · rename_i hn
      cases h
      simp only [pOKe, Bool.and_eq_true, beq_iff_eq, decide_eq_true_eq] at hok
      obtain ⟨hta, ha4⟩ := hok
      have hwS' : pOkS (64 + es.length) rr := fun v hv => hwS v (List.mem_cons_of_mem _ hv)
      cases t with
      | int =>
        subst hta
        exact n_array (O := O) (ty := .int) (x := .inl (fun _ => 0)) (y := .inl (fun _ => 0)) hx hb hdg hts hA rfl rfl (fun _ _ => rfl) (fun _ _ => rfl) (by decide) hn hwH hcx hl hwL hwS' hh hroom k
      | long =>
        subst hta
        exact n_array (O := O) (ty := .long) (x := .inr (fun _ => 0)) (y := .inr (.inl (fun _ => 0))) hx hb hdg hts hA rfl rfl (fun _ _ => rfl) (fun _ _ => rfl) (by decide) hn hwH hcx hl hwL hwS' hh hroom k
      | byte =>
        subst hta
        exact n_array (O := O) (ty := .byte) (x := .inl (fun _ => 0)) (y := .inl (fun _ => 0)) hx hb hdg hts hA rfl rfl (fun _ _ => rfl) (fun _ _ => rfl) (by decide) hn hwH hcx hl hwL hwS' hh hroom k
      | boolean =>
        subst hta
        exact n_array (O := O) (ty := .boolean) (x := .inl (fun _ => 0)) (y := .inl (fun _ => 0)) hx hb hdg hts hA rfl rfl (fun _ _ => rfl) (fun _ _ => rfl) (by decide) hn hwH hcx hl hwL hwS' hh hroom k
      | _ => simp [pAty] at hta; omega
  · cases h
theorem n_new {ix : Nat} (hx : p.tables.exec = Jvm.exec) (hb : c.code = cc) (hdg : decode cc pc = .ok (.new ix, 3)) (hok : pOKe own (.new ix, len, q, a, b) = true) (hown : s.vm.findClass own = some m.cls) (hts : ∀ w ∈ pW0, w.before args s = true) (hA : ∀ q, s.heap.size ≤ q → A q)
    (hwH : pOkH (64 + es.length) es) (hwL : pOkL (64 + es.length) L) (hwS : pOkS (64 + es.length) st)
    (hcx : pCx D cT ad O A s s.heap) (hl : pLoc ad nL ls L) (hh : pHeap D cT ad A s.heap H locs es) (hroom : cells + 1 ≤ R.cells ∧ slots + pNew (.new ix) a st ≤ R.slots)
    (h : pS2 (.new ix) a b pc L st es = some r)
    (k : ∀ ad' : Nat → Nat, (∀ k, k < 64 + es.length → ad' k = ad k) → pWH p l e R s m args below meth c (cells + 1) (slots + pNew (.new ix) a st) Q D cT ad' A nL r) : W p l e R s m args below meth c H locs cells slots Q (F0 m pc ls (st.map (pTr ad))) := by
  simp only [pS2] at h
  split at h
  · rename_i hb0
    subst hb0
    cases h
    simp only [pOKe] at hok
    split at hok
    · rename_i w cl hw hcl
      obtain ⟨C, T, N⟩ := cl
      simp only [Bool.and_eq_true, beq_iff_eq] at hok
      obtain ⟨o1, o2, o3⟩ := hok
      have hw1 := hts _ (wCK_in hw)
      rw [o1, o2, o3] at hw1
      obtain ⟨ty0, t1, t2, t3, t4⟩ := pCl_facts hcl
      have hinst : Cond.instantiable C N ∈ pW0 := pW0_of (of_decide_eq_true (List.all_eq_true.mp wInst _ (List.mem_of_getElem? hcl))) rfl
      have hini : Cond.initialized C ∈ pW0 := by
        have hC : C ∈ pCls := by
          match a, hcl with
          | 0, h => cases h; simp [pCls]
          | 1, h => cases h; simp [pCls]
          | 2, h => cases h; simp [pCls]
          | 3, h => cases h; simp [pCls]
          | 4, h => cases h; simp [pCls]
          | 5, h => cases h; simp [pCls]
          | 6, h => cases h; simp [pCls]
          | 7, h => cases h; simp [pCls]
          | 8, h => cases h; simp [pCls]
          | 9, h => cases h; simp [pCls]
          | 10, h => cases h; simp [pCls]
          | 11, h => cases h; simp [pCls]
          | 12, h => cases h; simp [pCls]
          | _ + 13, h => simp [vwCl] at h
        exact pW0_of (of_decide_eq_true (List.all_eq_true.mp wIn _ hC)) rfl
      have hN : pNew (.new ix) a st = N := by
        have e1 : pNew (.new ix) a st = (pBlank a).length := by
          unfold pNew
          split
          · rename_i h; cases h
          · rfl
        rw [e1, t4, List.length_map, List.length_range]
      rw [hN] at hroom k
      refine va_new (D := D) (ci := a) (C := C) (T := T) (N := N) (fs := pBlank a) hx hb hts (pUws_in hcl) ty0 t1 hown hw1 (hts _ hinst) (hts _ hini) hcx.1 hh.1 hh.2.1 hh.2.2 hA hcl (fun j hj => ?_) hroom.1 hroom.2 hdg (fun q H1 g1 g2 g3 => ?_)
      · rw [t4]
        unfold vp_V
        rw [List.getD_eq_getElem?_getD, List.getElem?_map, List.getElem?_range hj]
        exact pCl_def hcl j _ hj (t1 j hj)
      · have hk := k (pPush es ad q) pPush_lt H1 locs (pHeap_push (x := .inr (a, pBlank a)) hwH g1 g2 g3 (by simp only [pCell]; rw [pBlank_tr])) ls (hl.ext pPush_lt hwL)
        have e2 : (List.map (pTr (pPush es ad q)) (Value.ref (64 + es.length) :: st)) = .ref q :: st.map (pTr ad) := by
          rw [List.map_cons, pTr_extS pPush_lt hwS]
          simp only [pTr, pPush_at]
        rw [show (List.map (pTr (pPush es ad q)) (pc + 3, L, Value.ref (64 + es.length) :: st, es ++ [Sum.inr (a, pBlank a)]).2.2.1) = .ref q :: st.map (pTr ad) from e2] at hk
        exact hk
    · cases hok
  · cases h
end SIM3
