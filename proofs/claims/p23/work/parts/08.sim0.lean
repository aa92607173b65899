/-! the pure machine's instructions of stack and locals, over the machine -/
def pTr (ad : Nat → Nat) : Value → Value
  | .ref k => .ref (ad k)
  | v => v
theorem pTr_cat (ad : Nat → Nat) (v : Value) : (pTr ad v).category = v.category := by cases v <;> rfl
/-- the locals: what the pure frame holds the frame holds -/
def pLoc (ad : Nat → Nat) (nL : Nat) (ls : Array Slot) (L : PL) : Prop := ∃ lv, lv_has ls nL lv ∧ L.length = nL ∧ ∀ (i : Nat) (v : Value), L[i]? = some (some v) → (i, pTr ad v) ∈ lv
theorem pGetL_some {L : PL} {i : Nat} {v : Value} (h : pGetL L i = some v) : L[i]? = some (some v) := by
  unfold pGetL at h
  split at h
  · rename_i w hw
    cases h
    exact hw
  · cases h
theorem pGetL_of {L : PL} {i : Nat} {v : Value} (h : L[i]? = some (some v)) : pGetL L i = some v := by
  unfold pGetL
  rw [h]
theorem pLoc.get {ad : Nat → Nat} {nL : Nat} {ls : Array Slot} {L : PL} (h : pLoc ad nL ls L) {i : Nat} {v : Value} (hg : pGetL L i = some v) : ls[i]? = some (.val (pTr ad v)) := by
  obtain ⟨lv, h1, -, h3⟩ := h
  exact h1.2.2 _ (h3 i v (pGetL_some hg))
theorem pKill_len (L : PL) (i : Nat) : (pKill L i).length = L.length := by
  cases i with
  | zero => rfl
  | succ i =>
    rw [pKill]
    split
    · exact List.length_set
    · exact List.length_set
    · rfl
theorem pKill_get {L : PL} {i j : Nat} {w : Value} (h : (pKill L i)[j]? = some (some w)) : L[j]? = some (some w) ∧ ¬ (j + 1 = i ∧ w.category = 2) := by
  cases i with
  | zero => exact ⟨h, fun z => by omega⟩
  | succ i =>
    rw [pKill] at h
    split at h
    · rw [List.getElem?_set] at h
      split at h
      · split at h <;> simp at h
      · rename_i hne
        exact ⟨h, fun z => hne (by omega)⟩
    · rw [List.getElem?_set] at h
      split at h
      · split at h <;> simp at h
      · rename_i hne
        exact ⟨h, fun z => hne (by omega)⟩
    · rename_i h1 h2
      refine ⟨h, fun z => ?_⟩
      obtain ⟨z1, z2⟩ := z
      have hji : j = i := by omega
      subst hji
      have hg := pGetL_of h
      cases w with
      | long v => exact h1 v hg
      | double v => exact h2 v hg
      | _ => simp [Value.category] at z2
theorem pLoc.sto1 {ad : Nat → Nat} {nL : Nat} {ls' : Array Slot} {L : PL} {lv : List (Nat × Value)} {i : Nat} {v : Value} (hL : L.length = nL) (hm : ∀ (i : Nat) (v : Value), L[i]? = some (some v) → (i, pTr ad v) ∈ lv)
    (h' : lv_has ls' nL ((i, pTr ad v) :: lv.filter (fun q => !(q.1 == i) && !(q.1 + 1 == i && q.2.category == 2)))) : pLoc ad nL ls' (pSto1 L i v) := by
  refine ⟨_, h', by unfold pSto1; rw [List.length_set, pKill_len, hL], fun j w hj => ?_⟩
  unfold pSto1 at hj
  rw [List.getElem?_set] at hj
  split at hj
  · rename_i hij
    subst hij
    split at hj
    · cases hj
      exact List.mem_cons_self
    · cases hj
  · rename_i hne
    obtain ⟨h1, h2⟩ := pKill_get hj
    refine List.mem_cons_of_mem _ (List.mem_filter.mpr ⟨hm j w h1, ?_⟩)
    have e1 : (j == i) = false := by simpa using fun z => hne z.symm
    have e2 : (j + 1 == i && (pTr ad w).category == 2) = false := by
      rw [pTr_cat]
      cases hc : (j + 1 == i && w.category == 2) with
      | false => rfl
      | true =>
        rw [Bool.and_eq_true, beq_iff_eq, beq_iff_eq] at hc
        exact absurd hc h2
    simp only [e1, e2, Bool.not_false, Bool.and_self]
theorem pLoc.sto2 {ad : Nat → Nat} {nL : Nat} {ls' : Array Slot} {L : PL} {lv : List (Nat × Value)} {i : Nat} {v : Value} (hL : L.length = nL) (hm : ∀ (i : Nat) (v : Value), L[i]? = some (some v) → (i, pTr ad v) ∈ lv)
    (h' : lv_has ls' nL ((i, pTr ad v) :: lv.filter (fun q => !(q.1 == i) && (!(q.1 == i + 1) && !(q.1 + 1 == i && q.2.category == 2))))) : pLoc ad nL ls' (pSto2 L i v) := by
  refine ⟨_, h', by unfold pSto2; rw [List.length_set, List.length_set, pKill_len, hL], fun j w hj => ?_⟩
  unfold pSto2 at hj
  rw [List.getElem?_set] at hj
  split at hj
  · split at hj <;> simp at hj
  rename_i hne1
  rw [List.getElem?_set] at hj
  split at hj
  · rename_i hij
    subst hij
    split at hj
    · cases hj
      exact List.mem_cons_self
    · cases hj
  · rename_i hne
    obtain ⟨h1, h2⟩ := pKill_get hj
    refine List.mem_cons_of_mem _ (List.mem_filter.mpr ⟨hm j w h1, ?_⟩)
    have e1 : (j == i) = false := by simpa using fun z => hne z.symm
    have e3 : (j == i + 1) = false := by simpa using fun z => hne1 z.symm
    have e2 : (j + 1 == i && (pTr ad w).category == 2) = false := by
      rw [pTr_cat]
      cases hc : (j + 1 == i && w.category == 2) with
      | false => rfl
      | true =>
        rw [Bool.and_eq_true, beq_iff_eq, beq_iff_eq] at hc
        exact absurd hc h2
    simp only [e1, e2, e3, Bool.not_false, Bool.and_self]
theorem pTgt_some {pc t : Nat} {off : Int} (h : pTgt pc off = some t) : (pc : Int) + off = (t : Int) := by
  unfold pTgt at h
  split at h
  · rename_i t2 ht
    cases h
    exact ht
  · cases h
section SIM0
variable {p : Program} {l : Launch} {e : Env} {R : Room} {s : State} {m : MethodId} {args : Array Value} {below : List Frame} {meth : Method} {c : Code} {H : Heap} {locs : List Loc} {cells slots : Nat} {Q : State → Prop} {cc : ByteArray} {pc nL : Nat} {ls : Array Slot} {ad : Nat → Nat} {L : PL} {st : List Value} {es : PH} {r : pSt}
/-- the machine at a pure state -/
abbrev pW (p : Program) (l : Launch) (e : Env) (R : Room) (s : State) (m : MethodId) (args : Array Value) (below : List Frame) (meth : Method) (c : Code) (H : Heap) (locs : List Loc) (cells slots : Nat) (Q : State → Prop) (ad : Nat → Nat) (nL : Nat) (r : pSt) : Prop :=
  ∀ ls' : Array Slot, pLoc ad nL ls' r.2.1 → W p l e R s m args below meth c H locs cells slots Q (F0 m r.1 ls' (r.2.2.1.map (pTr ad)))
theorem s_iconst (hx : p.tables.exec = Jvm.exec) (hb : c.code = cc) {n : Int} (hdg : decode cc pc = .ok (.iconst n, 1)) (hl : pLoc ad nL ls L) (h : pS0 (.iconst n) pc L st es = some r) (k : pW p l e R s m args below meth c H locs cells slots Q ad nL r) : W p l e R s m args below meth c H locs cells slots Q (F0 m pc ls (st.map (pTr ad))) := by
  simp only [pS0] at h
  cases h
  exact lv_iconst hx hb hdg rfl (k ls hl)
theorem s_bipush (hx : p.tables.exec = Jvm.exec) (hb : c.code = cc) {n : Int} (hdg : decode cc pc = .ok (.bipush n, 2)) (hl : pLoc ad nL ls L) (h : pS0 (.bipush n) pc L st es = some r) (k : pW p l e R s m args below meth c H locs cells slots Q ad nL r) : W p l e R s m args below meth c H locs cells slots Q (F0 m pc ls (st.map (pTr ad))) := by
  simp only [pS0] at h
  cases h
  exact lv_bipush hx hb hdg rfl (k ls hl)
theorem s_sipush (hx : p.tables.exec = Jvm.exec) (hb : c.code = cc) {n : Int} (hdg : decode cc pc = .ok (.sipush n, 3)) (hl : pLoc ad nL ls L) (h : pS0 (.sipush n) pc L st es = some r) (k : pW p l e R s m args below meth c H locs cells slots Q ad nL r) : W p l e R s m args below meth c H locs cells slots Q (F0 m pc ls (st.map (pTr ad))) := by
  simp only [pS0] at h
  cases h
  exact lv_sipush hx hb hdg rfl (k ls hl)
theorem s_lconst (hx : p.tables.exec = Jvm.exec) (hb : c.code = cc) {n : Fin 2} (hdg : decode cc pc = .ok (.lconst n, 1)) (hl : pLoc ad nL ls L) (h : pS0 (.lconst n) pc L st es = some r) (k : pW p l e R s m args below meth c H locs cells slots Q ad nL r) : W p l e R s m args below meth c H locs cells slots Q (F0 m pc ls (st.map (pTr ad))) := by
  simp only [pS0] at h
  cases h
  exact lv_lconst hx hb hdg rfl (k ls hl)
theorem s_iload_n (hx : p.tables.exec = Jvm.exec) (hb : c.code = cc) {i : Fin 4} (hdg : decode cc pc = .ok (.iload_n i, 1)) (hl : pLoc ad nL ls L) (h : pS0 (.iload_n i) pc L st es = some r) (k : pW p l e R s m args below meth c H locs cells slots Q ad nL r) : W p l e R s m args below meth c H locs cells slots Q (F0 m pc ls (st.map (pTr ad))) := by
  simp only [pS0, pLdI] at h
  split at h
  · rename_i x hg
    cases h
    exact lv_iload_n hx hb hdg rfl (hl.get hg) (k ls hl)
  · cases h
theorem s_iload (hx : p.tables.exec = Jvm.exec) (hb : c.code = cc) {i : Nat} (hdg : decode cc pc = .ok (.iload i, 2)) (hl : pLoc ad nL ls L) (h : pS0 (.iload i) pc L st es = some r) (k : pW p l e R s m args below meth c H locs cells slots Q ad nL r) : W p l e R s m args below meth c H locs cells slots Q (F0 m pc ls (st.map (pTr ad))) := by
  simp only [pS0, pLdI] at h
  split at h
  · rename_i x hg
    cases h
    exact lv_iload hx hb hdg (hl.get hg) (k ls hl)
  · cases h
theorem s_lload_n (hx : p.tables.exec = Jvm.exec) (hb : c.code = cc) {i : Fin 4} (hdg : decode cc pc = .ok (.lload_n i, 1)) (hl : pLoc ad nL ls L) (h : pS0 (.lload_n i) pc L st es = some r) (k : pW p l e R s m args below meth c H locs cells slots Q ad nL r) : W p l e R s m args below meth c H locs cells slots Q (F0 m pc ls (st.map (pTr ad))) := by
  simp only [pS0, pLdL] at h
  split at h
  · rename_i x hg
    cases h
    exact lv_lload_n hx hb hdg rfl (hl.get hg) (k ls hl)
  · cases h
theorem s_lload (hx : p.tables.exec = Jvm.exec) (hb : c.code = cc) {i : Nat} (hdg : decode cc pc = .ok (.lload i, 2)) (hl : pLoc ad nL ls L) (h : pS0 (.lload i) pc L st es = some r) (k : pW p l e R s m args below meth c H locs cells slots Q ad nL r) : W p l e R s m args below meth c H locs cells slots Q (F0 m pc ls (st.map (pTr ad))) := by
  simp only [pS0, pLdL] at h
  split at h
  · rename_i x hg
    cases h
    exact lv_lload hx hb hdg (hl.get hg) (k ls hl)
  · cases h
theorem s_aload_n (hx : p.tables.exec = Jvm.exec) (hb : c.code = cc) {i : Fin 4} (hdg : decode cc pc = .ok (.aload_n i, 1)) (hl : pLoc ad nL ls L) (h : pS0 (.aload_n i) pc L st es = some r) (k : pW p l e R s m args below meth c H locs cells slots Q ad nL r) : W p l e R s m args below meth c H locs cells slots Q (F0 m pc ls (st.map (pTr ad))) := by
  simp only [pS0, pLdA] at h
  split at h
  · rename_i x hg
    cases h
    exact lv_aload_n hx hb hdg rfl (hl.get hg) (k ls hl)
  · cases h
theorem s_aload (hx : p.tables.exec = Jvm.exec) (hb : c.code = cc) {i : Nat} (hdg : decode cc pc = .ok (.aload i, 2)) (hl : pLoc ad nL ls L) (h : pS0 (.aload i) pc L st es = some r) (k : pW p l e R s m args below meth c H locs cells slots Q ad nL r) : W p l e R s m args below meth c H locs cells slots Q (F0 m pc ls (st.map (pTr ad))) := by
  simp only [pS0, pLdA] at h
  split at h
  · rename_i x hg
    cases h
    exact lv_aload hx hb hdg (hl.get hg) (k ls hl)
  · cases h
theorem s_istore_n (hx : p.tables.exec = Jvm.exec) (hb : c.code = cc) {i : Fin 4} (hdg : decode cc pc = .ok (.istore_n i, 1)) (hl : pLoc ad nL ls L) (h : pS0 (.istore_n i) pc L st es = some r) (k : pW p l e R s m args below meth c H locs cells slots Q ad nL r) : W p l e R s m args below meth c H locs cells slots Q (F0 m pc ls (st.map (pTr ad))) := by
  simp only [pS0, pStI] at h
  split at h
  · split at h
    · rename_i hi
      cases h
      obtain ⟨lv, h1, h2, h3⟩ := hl
      exact lv_istore_n hx hb hdg rfl h1 (by omega) rfl (fun ls' h' => k ls' (pLoc.sto1 (v := .int _) h2 h3 h'))
    · cases h
  · cases h
theorem s_istore (hx : p.tables.exec = Jvm.exec) (hb : c.code = cc) {i : Nat} (hdg : decode cc pc = .ok (.istore i, 2)) (hl : pLoc ad nL ls L) (h : pS0 (.istore i) pc L st es = some r) (k : pW p l e R s m args below meth c H locs cells slots Q ad nL r) : W p l e R s m args below meth c H locs cells slots Q (F0 m pc ls (st.map (pTr ad))) := by
  simp only [pS0, pStI] at h
  split at h
  · split at h
    · rename_i hi
      cases h
      obtain ⟨lv, h1, h2, h3⟩ := hl
      exact lv_istore hx hb hdg h1 (by omega) rfl (fun ls' h' => k ls' (pLoc.sto1 (v := .int _) h2 h3 h'))
    · cases h
  · cases h
theorem s_lstore_n (hx : p.tables.exec = Jvm.exec) (hb : c.code = cc) {i : Fin 4} (hdg : decode cc pc = .ok (.lstore_n i, 1)) (hl : pLoc ad nL ls L) (h : pS0 (.lstore_n i) pc L st es = some r) (k : pW p l e R s m args below meth c H locs cells slots Q ad nL r) : W p l e R s m args below meth c H locs cells slots Q (F0 m pc ls (st.map (pTr ad))) := by
  simp only [pS0, pStL] at h
  split at h
  · split at h
    · rename_i hi
      cases h
      obtain ⟨lv, h1, h2, h3⟩ := hl
      exact lv_lstore_n hx hb hdg rfl h1 (by omega) rfl (fun ls' h' => k ls' (pLoc.sto2 (v := .long _) h2 h3 h'))
    · cases h
  · cases h
theorem s_lstore (hx : p.tables.exec = Jvm.exec) (hb : c.code = cc) {i : Nat} (hdg : decode cc pc = .ok (.lstore i, 2)) (hl : pLoc ad nL ls L) (h : pS0 (.lstore i) pc L st es = some r) (k : pW p l e R s m args below meth c H locs cells slots Q ad nL r) : W p l e R s m args below meth c H locs cells slots Q (F0 m pc ls (st.map (pTr ad))) := by
  simp only [pS0, pStL] at h
  split at h
  · split at h
    · rename_i hi
      cases h
      obtain ⟨lv, h1, h2, h3⟩ := hl
      exact lv_lstore hx hb hdg h1 (by omega) rfl (fun ls' h' => k ls' (pLoc.sto2 (v := .long _) h2 h3 h'))
    · cases h
  · cases h
theorem s_astore_n (hx : p.tables.exec = Jvm.exec) (hb : c.code = cc) {i : Fin 4} (hdg : decode cc pc = .ok (.astore_n i, 1)) (hl : pLoc ad nL ls L) (h : pS0 (.astore_n i) pc L st es = some r) (k : pW p l e R s m args below meth c H locs cells slots Q ad nL r) : W p l e R s m args below meth c H locs cells slots Q (F0 m pc ls (st.map (pTr ad))) := by
  simp only [pS0, pStA] at h
  split at h
  · split at h
    · rename_i hi
      cases h
      obtain ⟨lv, h1, h2, h3⟩ := hl
      exact lv_astore_n hx hb hdg rfl h1 (by omega) rfl (fun ls' h' => k ls' (pLoc.sto1 (v := .ref _) h2 h3 h'))
    · cases h
  · cases h
theorem s_astore (hx : p.tables.exec = Jvm.exec) (hb : c.code = cc) {i : Nat} (hdg : decode cc pc = .ok (.astore i, 2)) (hl : pLoc ad nL ls L) (h : pS0 (.astore i) pc L st es = some r) (k : pW p l e R s m args below meth c H locs cells slots Q ad nL r) : W p l e R s m args below meth c H locs cells slots Q (F0 m pc ls (st.map (pTr ad))) := by
  simp only [pS0, pStA] at h
  split at h
  · split at h
    · rename_i hi
      cases h
      obtain ⟨lv, h1, h2, h3⟩ := hl
      exact lv_astore hx hb hdg h1 (by omega) rfl (fun ls' h' => k ls' (pLoc.sto1 (v := .ref _) h2 h3 h'))
    · cases h
  · cases h
theorem s_iinc (hx : p.tables.exec = Jvm.exec) (hb : c.code = cc) {i : Nat} {n : Int} (hdg : decode cc pc = .ok (.iinc i n, 3)) (hl : pLoc ad nL ls L) (h : pS0 (.iinc i n) pc L st es = some r) (k : pW p l e R s m args below meth c H locs cells slots Q ad nL r) : W p l e R s m args below meth c H locs cells slots Q (F0 m pc ls (st.map (pTr ad))) := by
  simp only [pS0] at h
  split at h
  · rename_i x hg
    split at h
    · rename_i hi
      cases h
      obtain ⟨lv, h1, h2, h3⟩ := hl
      obtain ⟨q, hq⟩ := List.getElem?_of_mem (h3 i _ (pGetL_some hg))
      exact lv_iinc hx hb hdg h1 hq rfl (by omega) rfl (fun ls' h' => k ls' (pLoc.sto1 (v := .int _) h2 h3 h'))
    · cases h
  · cases h
theorem s_iadd (hx : p.tables.exec = Jvm.exec) (hb : c.code = cc) (hdg : decode cc pc = .ok (.iadd, 1)) (hl : pLoc ad nL ls L) (h : pS0 (.iadd) pc L st es = some r) (k : pW p l e R s m args below meth c H locs cells slots Q ad nL r) : W p l e R s m args below meth c H locs cells slots Q (F0 m pc ls (st.map (pTr ad))) := by
  simp only [pS0] at h
  split at h
  · simp only [pBin] at h
    cases h
    exact lv_iadd hx hb hdg (k ls hl)
  · cases h
theorem s_isub (hx : p.tables.exec = Jvm.exec) (hb : c.code = cc) (hdg : decode cc pc = .ok (.isub, 1)) (hl : pLoc ad nL ls L) (h : pS0 (.isub) pc L st es = some r) (k : pW p l e R s m args below meth c H locs cells slots Q ad nL r) : W p l e R s m args below meth c H locs cells slots Q (F0 m pc ls (st.map (pTr ad))) := by
  simp only [pS0] at h
  split at h
  · simp only [pBin] at h
    cases h
    exact lv_isub hx hb hdg (k ls hl)
  · cases h
theorem s_imul (hx : p.tables.exec = Jvm.exec) (hb : c.code = cc) (hdg : decode cc pc = .ok (.imul, 1)) (hl : pLoc ad nL ls L) (h : pS0 (.imul) pc L st es = some r) (k : pW p l e R s m args below meth c H locs cells slots Q ad nL r) : W p l e R s m args below meth c H locs cells slots Q (F0 m pc ls (st.map (pTr ad))) := by
  simp only [pS0] at h
  split at h
  · simp only [pBin] at h
    cases h
    exact lv_imul hx hb hdg (k ls hl)
  · cases h
theorem s_iand (hx : p.tables.exec = Jvm.exec) (hb : c.code = cc) (hdg : decode cc pc = .ok (.iand, 1)) (hl : pLoc ad nL ls L) (h : pS0 (.iand) pc L st es = some r) (k : pW p l e R s m args below meth c H locs cells slots Q ad nL r) : W p l e R s m args below meth c H locs cells slots Q (F0 m pc ls (st.map (pTr ad))) := by
  simp only [pS0] at h
  split at h
  · simp only [pBin] at h
    cases h
    exact lv_iand hx hb hdg (k ls hl)
  · cases h
theorem s_ior (hx : p.tables.exec = Jvm.exec) (hb : c.code = cc) (hdg : decode cc pc = .ok (.ior, 1)) (hl : pLoc ad nL ls L) (h : pS0 (.ior) pc L st es = some r) (k : pW p l e R s m args below meth c H locs cells slots Q ad nL r) : W p l e R s m args below meth c H locs cells slots Q (F0 m pc ls (st.map (pTr ad))) := by
  simp only [pS0] at h
  split at h
  · simp only [pBin] at h
    cases h
    exact lv_ior hx hb hdg (k ls hl)
  · cases h
theorem s_ishl (hx : p.tables.exec = Jvm.exec) (hb : c.code = cc) (hdg : decode cc pc = .ok (.ishl, 1)) (hl : pLoc ad nL ls L) (h : pS0 (.ishl) pc L st es = some r) (k : pW p l e R s m args below meth c H locs cells slots Q ad nL r) : W p l e R s m args below meth c H locs cells slots Q (F0 m pc ls (st.map (pTr ad))) := by
  simp only [pS0] at h
  split at h
  · simp only [pBin] at h
    cases h
    exact lv_ishl hx hb hdg (k ls hl)
  · cases h
theorem s_ishr (hx : p.tables.exec = Jvm.exec) (hb : c.code = cc) (hdg : decode cc pc = .ok (.ishr, 1)) (hl : pLoc ad nL ls L) (h : pS0 (.ishr) pc L st es = some r) (k : pW p l e R s m args below meth c H locs cells slots Q ad nL r) : W p l e R s m args below meth c H locs cells slots Q (F0 m pc ls (st.map (pTr ad))) := by
  simp only [pS0] at h
  split at h
  · simp only [pBin] at h
    cases h
    exact lv_ishr hx hb hdg (k ls hl)
  · cases h
theorem s_iushr (hx : p.tables.exec = Jvm.exec) (hb : c.code = cc) (hdg : decode cc pc = .ok (.iushr, 1)) (hl : pLoc ad nL ls L) (h : pS0 (.iushr) pc L st es = some r) (k : pW p l e R s m args below meth c H locs cells slots Q ad nL r) : W p l e R s m args below meth c H locs cells slots Q (F0 m pc ls (st.map (pTr ad))) := by
  simp only [pS0] at h
  split at h
  · simp only [pBin] at h
    cases h
    exact lv_iushr hx hb hdg rfl (k ls hl)
  · cases h
theorem s_idiv (hx : p.tables.exec = Jvm.exec) (hb : c.code = cc) (hdg : decode cc pc = .ok (.idiv, 1)) (hl : pLoc ad nL ls L) (h : pS0 (.idiv) pc L st es = some r) (k : pW p l e R s m args below meth c H locs cells slots Q ad nL r) : W p l e R s m args below meth c H locs cells slots Q (F0 m pc ls (st.map (pTr ad))) := by
  simp only [pS0] at h
  split at h
  · rename_i y x rr
    by_cases hy : y = 0
    · simp [pBin, hy] at h
    · simp only [pBin, hy, if_false] at h
      cases h
      exact lv_idiv hx hb hdg hy (k ls hl)
  · cases h
theorem s_irem (hx : p.tables.exec = Jvm.exec) (hb : c.code = cc) (hdg : decode cc pc = .ok (.irem, 1)) (hl : pLoc ad nL ls L) (h : pS0 (.irem) pc L st es = some r) (k : pW p l e R s m args below meth c H locs cells slots Q ad nL r) : W p l e R s m args below meth c H locs cells slots Q (F0 m pc ls (st.map (pTr ad))) := by
  simp only [pS0] at h
  split at h
  · rename_i y x rr
    by_cases hy : y = 0
    · simp [pBin, hy] at h
    · simp only [pBin, hy, if_false] at h
      cases h
      exact lv_irem hx hb hdg hy (k ls hl)
  · cases h
theorem s_ladd (hx : p.tables.exec = Jvm.exec) (hb : c.code = cc) (hdg : decode cc pc = .ok (.ladd, 1)) (hl : pLoc ad nL ls L) (h : pS0 (.ladd) pc L st es = some r) (k : pW p l e R s m args below meth c H locs cells slots Q ad nL r) : W p l e R s m args below meth c H locs cells slots Q (F0 m pc ls (st.map (pTr ad))) := by
  simp only [pS0] at h
  split at h
  · simp only [pBinL] at h
    cases h
    exact lv_ladd hx hb hdg (k ls hl)
  · cases h
theorem s_lsub (hx : p.tables.exec = Jvm.exec) (hb : c.code = cc) (hdg : decode cc pc = .ok (.lsub, 1)) (hl : pLoc ad nL ls L) (h : pS0 (.lsub) pc L st es = some r) (k : pW p l e R s m args below meth c H locs cells slots Q ad nL r) : W p l e R s m args below meth c H locs cells slots Q (F0 m pc ls (st.map (pTr ad))) := by
  simp only [pS0] at h
  split at h
  · simp only [pBinL] at h
    cases h
    exact lv_lsub hx hb hdg (k ls hl)
  · cases h
theorem s_lmul (hx : p.tables.exec = Jvm.exec) (hb : c.code = cc) (hdg : decode cc pc = .ok (.lmul, 1)) (hl : pLoc ad nL ls L) (h : pS0 (.lmul) pc L st es = some r) (k : pW p l e R s m args below meth c H locs cells slots Q ad nL r) : W p l e R s m args below meth c H locs cells slots Q (F0 m pc ls (st.map (pTr ad))) := by
  simp only [pS0] at h
  split at h
  · simp only [pBinL] at h
    cases h
    exact lv_lmul hx hb hdg (k ls hl)
  · cases h
theorem s_land (hx : p.tables.exec = Jvm.exec) (hb : c.code = cc) (hdg : decode cc pc = .ok (.land, 1)) (hl : pLoc ad nL ls L) (h : pS0 (.land) pc L st es = some r) (k : pW p l e R s m args below meth c H locs cells slots Q ad nL r) : W p l e R s m args below meth c H locs cells slots Q (F0 m pc ls (st.map (pTr ad))) := by
  simp only [pS0] at h
  split at h
  · simp only [pBinL] at h
    cases h
    exact lv_land hx hb hdg (k ls hl)
  · cases h
theorem s_lor (hx : p.tables.exec = Jvm.exec) (hb : c.code = cc) (hdg : decode cc pc = .ok (.lor, 1)) (hl : pLoc ad nL ls L) (h : pS0 (.lor) pc L st es = some r) (k : pW p l e R s m args below meth c H locs cells slots Q ad nL r) : W p l e R s m args below meth c H locs cells slots Q (F0 m pc ls (st.map (pTr ad))) := by
  simp only [pS0] at h
  split at h
  · simp only [pBinL] at h
    cases h
    exact lv_lor hx hb hdg (k ls hl)
  · cases h
theorem s_ldiv (hx : p.tables.exec = Jvm.exec) (hb : c.code = cc) (hdg : decode cc pc = .ok (.ldiv, 1)) (hl : pLoc ad nL ls L) (h : pS0 (.ldiv) pc L st es = some r) (k : pW p l e R s m args below meth c H locs cells slots Q ad nL r) : W p l e R s m args below meth c H locs cells slots Q (F0 m pc ls (st.map (pTr ad))) := by
  simp only [pS0] at h
  split at h
  · rename_i y x rr
    by_cases hy : y = 0
    · simp [pBinL, hy] at h
    · simp only [pBinL, hy, if_false] at h
      cases h
      exact lv_ldiv hx hb hdg hy (k ls hl)
  · cases h
theorem s_lrem (hx : p.tables.exec = Jvm.exec) (hb : c.code = cc) (hdg : decode cc pc = .ok (.lrem, 1)) (hl : pLoc ad nL ls L) (h : pS0 (.lrem) pc L st es = some r) (k : pW p l e R s m args below meth c H locs cells slots Q ad nL r) : W p l e R s m args below meth c H locs cells slots Q (F0 m pc ls (st.map (pTr ad))) := by
  simp only [pS0] at h
  split at h
  · rename_i y x rr
    by_cases hy : y = 0
    · simp [pBinL, hy] at h
    · simp only [pBinL, hy, if_false] at h
      cases h
      exact lv_lrem hx hb hdg hy (k ls hl)
  · cases h
theorem s_lshl (hx : p.tables.exec = Jvm.exec) (hb : c.code = cc) (hdg : decode cc pc = .ok (.lshl, 1)) (hl : pLoc ad nL ls L) (h : pS0 (.lshl) pc L st es = some r) (k : pW p l e R s m args below meth c H locs cells slots Q ad nL r) : W p l e R s m args below meth c H locs cells slots Q (F0 m pc ls (st.map (pTr ad))) := by
  simp only [pS0] at h
  split at h
  · simp only [pShL] at h
    cases h
    exact lv_lshl hx hb hdg rfl (k ls hl)
  · cases h
theorem s_lushr (hx : p.tables.exec = Jvm.exec) (hb : c.code = cc) (hdg : decode cc pc = .ok (.lushr, 1)) (hl : pLoc ad nL ls L) (h : pS0 (.lushr) pc L st es = some r) (k : pW p l e R s m args below meth c H locs cells slots Q ad nL r) : W p l e R s m args below meth c H locs cells slots Q (F0 m pc ls (st.map (pTr ad))) := by
  simp only [pS0] at h
  split at h
  · simp only [pShL] at h
    cases h
    exact lv_lushr hx hb hdg rfl (k ls hl)
  · cases h
theorem s_lcmp (hx : p.tables.exec = Jvm.exec) (hb : c.code = cc) (hdg : decode cc pc = .ok (.lcmp, 1)) (hl : pLoc ad nL ls L) (h : pS0 (.lcmp) pc L st es = some r) (k : pW p l e R s m args below meth c H locs cells slots Q ad nL r) : W p l e R s m args below meth c H locs cells slots Q (F0 m pc ls (st.map (pTr ad))) := by
  simp only [pS0] at h
  split at h
  · cases h
    exact W.lcmp hx hb hdg (k ls hl)
  · cases h
theorem s_i2l (hx : p.tables.exec = Jvm.exec) (hb : c.code = cc) (hdg : decode cc pc = .ok (.i2l, 1)) (hl : pLoc ad nL ls L) (h : pS0 (.i2l) pc L st es = some r) (k : pW p l e R s m args below meth c H locs cells slots Q ad nL r) : W p l e R s m args below meth c H locs cells slots Q (F0 m pc ls (st.map (pTr ad))) := by
  simp only [pS0] at h
  split at h
  · cases h
    exact lv_i2l hx hb hdg rfl (k ls hl)
  · cases h
theorem s_l2i (hx : p.tables.exec = Jvm.exec) (hb : c.code = cc) (hdg : decode cc pc = .ok (.l2i, 1)) (hl : pLoc ad nL ls L) (h : pS0 (.l2i) pc L st es = some r) (k : pW p l e R s m args below meth c H locs cells slots Q ad nL r) : W p l e R s m args below meth c H locs cells slots Q (F0 m pc ls (st.map (pTr ad))) := by
  simp only [pS0] at h
  split at h
  · cases h
    exact lv_l2i hx hb hdg rfl (k ls hl)
  · cases h
theorem s_i2b (hx : p.tables.exec = Jvm.exec) (hb : c.code = cc) (hdg : decode cc pc = .ok (.i2b, 1)) (hl : pLoc ad nL ls L) (h : pS0 (.i2b) pc L st es = some r) (k : pW p l e R s m args below meth c H locs cells slots Q ad nL r) : W p l e R s m args below meth c H locs cells slots Q (F0 m pc ls (st.map (pTr ad))) := by
  simp only [pS0] at h
  split at h
  · cases h
    exact lv_i2b hx hb hdg rfl (k ls hl)
  · cases h
theorem s_dup (hx : p.tables.exec = Jvm.exec) (hb : c.code = cc) (hdg : decode cc pc = .ok (.dup, 1)) (hl : pLoc ad nL ls L) (h : pS0 (.dup) pc L st es = some r) (k : pW p l e R s m args below meth c H locs cells slots Q ad nL r) : W p l e R s m args below meth c H locs cells slots Q (F0 m pc ls (st.map (pTr ad))) := by
  simp only [pS0] at h
  split at h
  · split at h
    · rename_i hc
      cases h
      exact lv_dup hx hb hdg ((pTr_cat ad _).trans hc) (k ls hl)
    · cases h
  · cases h
theorem s_pop (hx : p.tables.exec = Jvm.exec) (hb : c.code = cc) (hdg : decode cc pc = .ok (.pop, 1)) (hl : pLoc ad nL ls L) (h : pS0 (.pop) pc L st es = some r) (k : pW p l e R s m args below meth c H locs cells slots Q ad nL r) : W p l e R s m args below meth c H locs cells slots Q (F0 m pc ls (st.map (pTr ad))) := by
  simp only [pS0] at h
  split at h
  · split at h
    · rename_i hc
      cases h
      exact lv_pop hx hb hdg ((pTr_cat ad _).trans hc) (k ls hl)
    · cases h
  · cases h
theorem s_pop2 (hx : p.tables.exec = Jvm.exec) (hb : c.code = cc) (hdg : decode cc pc = .ok (.pop2, 1)) (hl : pLoc ad nL ls L) (h : pS0 (.pop2) pc L st es = some r) (k : pW p l e R s m args below meth c H locs cells slots Q ad nL r) : W p l e R s m args below meth c H locs cells slots Q (F0 m pc ls (st.map (pTr ad))) := by
  simp only [pS0] at h
  split at h
  · cases h
    exact lv_pop2_2 hx hb (va := .long _) hdg rfl (k ls hl)
  · cases h
theorem s_dup2 (hx : p.tables.exec = Jvm.exec) (hb : c.code = cc) (hdg : decode cc pc = .ok (.dup2, 1)) (hl : pLoc ad nL ls L) (h : pS0 (.dup2) pc L st es = some r) (k : pW p l e R s m args below meth c H locs cells slots Q ad nL r) : W p l e R s m args below meth c H locs cells slots Q (F0 m pc ls (st.map (pTr ad))) := by
  simp only [pS0] at h
  split at h
  · cases h
    exact lv_dup2_2 hx hb (va := .long _) hdg rfl (k ls hl)
  · cases h
    exact lv_dup2_11 hx hb (va := .int _) (vb := .int _) hdg rfl rfl (k ls hl)
  · cases h
    exact lv_dup2_11 hx hb (va := .int _) (vb := .ref _) hdg rfl rfl (k ls hl)
  · cases h
theorem s_if_eq (hx : p.tables.exec = Jvm.exec) (hb : c.code = cc) {off : Int} (hdg : decode cc pc = .ok (.ifCond .eq off, 3)) (hl : pLoc ad nL ls L) (h : pS0 (.ifCond .eq off) pc L st es = some r) (k : pW p l e R s m args below meth c H locs cells slots Q ad nL r) : W p l e R s m args below meth c H locs cells slots Q (F0 m pc ls (st.map (pTr ad))) := by
  simp only [pS0] at h
  split at h
  · simp only [pBr] at h
    split at h
    · rename_i t ht
      cases h
      refine lv_if_eq hx hb hdg (pTgt_some ht) (fun hc => ?_) (fun hc => ?_)
      · have h2 := k ls hl
        simp only [pCmp, hc, decide_true, if_true] at h2
        exact h2
      · have h2 := k ls hl
        simp only [pCmp, hc, decide_false, Bool.false_eq_true, if_false] at h2
        exact h2
    · cases h
  · cases h
theorem s_icmp_eq (hx : p.tables.exec = Jvm.exec) (hb : c.code = cc) {off : Int} (hdg : decode cc pc = .ok (.if_icmp .eq off, 3)) (hl : pLoc ad nL ls L) (h : pS0 (.if_icmp .eq off) pc L st es = some r) (k : pW p l e R s m args below meth c H locs cells slots Q ad nL r) : W p l e R s m args below meth c H locs cells slots Q (F0 m pc ls (st.map (pTr ad))) := by
  simp only [pS0] at h
  split at h
  · simp only [pBr] at h
    split at h
    · rename_i t ht
      cases h
      refine lv_icmp_eq hx hb hdg (pTgt_some ht) (fun hc => ?_) (fun hc => ?_)
      · have h2 := k ls hl
        simp only [pCmp, hc, decide_true, if_true] at h2
        exact h2
      · have h2 := k ls hl
        simp only [pCmp, hc, decide_false, Bool.false_eq_true, if_false] at h2
        exact h2
    · cases h
  · cases h
theorem s_if_ne (hx : p.tables.exec = Jvm.exec) (hb : c.code = cc) {off : Int} (hdg : decode cc pc = .ok (.ifCond .ne off, 3)) (hl : pLoc ad nL ls L) (h : pS0 (.ifCond .ne off) pc L st es = some r) (k : pW p l e R s m args below meth c H locs cells slots Q ad nL r) : W p l e R s m args below meth c H locs cells slots Q (F0 m pc ls (st.map (pTr ad))) := by
  simp only [pS0] at h
  split at h
  · simp only [pBr] at h
    split at h
    · rename_i t ht
      cases h
      refine lv_if_ne hx hb hdg (pTgt_some ht) (fun hc => ?_) (fun hc => ?_)
      · have h2 := k ls hl
        simp only [pCmp, hc, decide_true, if_true] at h2
        exact h2
      · have h2 := k ls hl
        simp only [pCmp, hc, decide_false, Bool.false_eq_true, if_false] at h2
        exact h2
    · cases h
  · cases h
theorem s_icmp_ne (hx : p.tables.exec = Jvm.exec) (hb : c.code = cc) {off : Int} (hdg : decode cc pc = .ok (.if_icmp .ne off, 3)) (hl : pLoc ad nL ls L) (h : pS0 (.if_icmp .ne off) pc L st es = some r) (k : pW p l e R s m args below meth c H locs cells slots Q ad nL r) : W p l e R s m args below meth c H locs cells slots Q (F0 m pc ls (st.map (pTr ad))) := by
  simp only [pS0] at h
  split at h
  · simp only [pBr] at h
    split at h
    · rename_i t ht
      cases h
      refine lv_icmp_ne hx hb hdg (pTgt_some ht) (fun hc => ?_) (fun hc => ?_)
      · have h2 := k ls hl
        simp only [pCmp, hc, decide_true, if_true] at h2
        exact h2
      · have h2 := k ls hl
        simp only [pCmp, hc, decide_false, Bool.false_eq_true, if_false] at h2
        exact h2
    · cases h
  · cases h
theorem s_if_lt (hx : p.tables.exec = Jvm.exec) (hb : c.code = cc) {off : Int} (hdg : decode cc pc = .ok (.ifCond .lt off, 3)) (hl : pLoc ad nL ls L) (h : pS0 (.ifCond .lt off) pc L st es = some r) (k : pW p l e R s m args below meth c H locs cells slots Q ad nL r) : W p l e R s m args below meth c H locs cells slots Q (F0 m pc ls (st.map (pTr ad))) := by
  simp only [pS0] at h
  split at h
  · simp only [pBr] at h
    split at h
    · rename_i t ht
      cases h
      refine lv_if_lt hx hb hdg (pTgt_some ht) (fun hc => ?_) (fun hc => ?_)
      · have h2 := k ls hl
        simp only [pCmp, hc, decide_true, if_true] at h2
        exact h2
      · have h2 := k ls hl
        simp only [pCmp, hc, decide_false, Bool.false_eq_true, if_false] at h2
        exact h2
    · cases h
  · cases h
theorem s_icmp_lt (hx : p.tables.exec = Jvm.exec) (hb : c.code = cc) {off : Int} (hdg : decode cc pc = .ok (.if_icmp .lt off, 3)) (hl : pLoc ad nL ls L) (h : pS0 (.if_icmp .lt off) pc L st es = some r) (k : pW p l e R s m args below meth c H locs cells slots Q ad nL r) : W p l e R s m args below meth c H locs cells slots Q (F0 m pc ls (st.map (pTr ad))) := by
  simp only [pS0] at h
  split at h
  · simp only [pBr] at h
    split at h
    · rename_i t ht
      cases h
      refine lv_icmp_lt hx hb hdg (pTgt_some ht) (fun hc => ?_) (fun hc => ?_)
      · have h2 := k ls hl
        simp only [pCmp, hc, decide_true, if_true] at h2
        exact h2
      · have h2 := k ls hl
        simp only [pCmp, hc, decide_false, Bool.false_eq_true, if_false] at h2
        exact h2
    · cases h
  · cases h
theorem s_if_ge (hx : p.tables.exec = Jvm.exec) (hb : c.code = cc) {off : Int} (hdg : decode cc pc = .ok (.ifCond .ge off, 3)) (hl : pLoc ad nL ls L) (h : pS0 (.ifCond .ge off) pc L st es = some r) (k : pW p l e R s m args below meth c H locs cells slots Q ad nL r) : W p l e R s m args below meth c H locs cells slots Q (F0 m pc ls (st.map (pTr ad))) := by
  simp only [pS0] at h
  split at h
  · simp only [pBr] at h
    split at h
    · rename_i t ht
      cases h
      refine lv_if_ge hx hb hdg (pTgt_some ht) (fun hc => ?_) (fun hc => ?_)
      · have h2 := k ls hl
        simp only [pCmp, hc, decide_true, if_true] at h2
        exact h2
      · have h2 := k ls hl
        simp only [pCmp, hc, decide_false, Bool.false_eq_true, if_false] at h2
        exact h2
    · cases h
  · cases h
theorem s_icmp_ge (hx : p.tables.exec = Jvm.exec) (hb : c.code = cc) {off : Int} (hdg : decode cc pc = .ok (.if_icmp .ge off, 3)) (hl : pLoc ad nL ls L) (h : pS0 (.if_icmp .ge off) pc L st es = some r) (k : pW p l e R s m args below meth c H locs cells slots Q ad nL r) : W p l e R s m args below meth c H locs cells slots Q (F0 m pc ls (st.map (pTr ad))) := by
  simp only [pS0] at h
  split at h
  · simp only [pBr] at h
    split at h
    · rename_i t ht
      cases h
      refine lv_icmp_ge hx hb hdg (pTgt_some ht) (fun hc => ?_) (fun hc => ?_)
      · have h2 := k ls hl
        simp only [pCmp, hc, decide_true, if_true] at h2
        exact h2
      · have h2 := k ls hl
        simp only [pCmp, hc, decide_false, Bool.false_eq_true, if_false] at h2
        exact h2
    · cases h
  · cases h
theorem s_if_gt (hx : p.tables.exec = Jvm.exec) (hb : c.code = cc) {off : Int} (hdg : decode cc pc = .ok (.ifCond .gt off, 3)) (hl : pLoc ad nL ls L) (h : pS0 (.ifCond .gt off) pc L st es = some r) (k : pW p l e R s m args below meth c H locs cells slots Q ad nL r) : W p l e R s m args below meth c H locs cells slots Q (F0 m pc ls (st.map (pTr ad))) := by
  simp only [pS0] at h
  split at h
  · simp only [pBr] at h
    split at h
    · rename_i t ht
      cases h
      refine lv_if_gt hx hb hdg (pTgt_some ht) (fun hc => ?_) (fun hc => ?_)
      · have h2 := k ls hl
        simp only [pCmp, hc, decide_true, if_true] at h2
        exact h2
      · have h2 := k ls hl
        simp only [pCmp, hc, decide_false, Bool.false_eq_true, if_false] at h2
        exact h2
    · cases h
  · cases h
theorem s_icmp_gt (hx : p.tables.exec = Jvm.exec) (hb : c.code = cc) {off : Int} (hdg : decode cc pc = .ok (.if_icmp .gt off, 3)) (hl : pLoc ad nL ls L) (h : pS0 (.if_icmp .gt off) pc L st es = some r) (k : pW p l e R s m args below meth c H locs cells slots Q ad nL r) : W p l e R s m args below meth c H locs cells slots Q (F0 m pc ls (st.map (pTr ad))) := by
  simp only [pS0] at h
  split at h
  · simp only [pBr] at h
    split at h
    · rename_i t ht
      cases h
      refine lv_icmp_gt hx hb hdg (pTgt_some ht) (fun hc => ?_) (fun hc => ?_)
      · have h2 := k ls hl
        simp only [pCmp, hc, decide_true, if_true] at h2
        exact h2
      · have h2 := k ls hl
        simp only [pCmp, hc, decide_false, Bool.false_eq_true, if_false] at h2
        exact h2
    · cases h
  · cases h
theorem s_if_le (hx : p.tables.exec = Jvm.exec) (hb : c.code = cc) {off : Int} (hdg : decode cc pc = .ok (.ifCond .le off, 3)) (hl : pLoc ad nL ls L) (h : pS0 (.ifCond .le off) pc L st es = some r) (k : pW p l e R s m args below meth c H locs cells slots Q ad nL r) : W p l e R s m args below meth c H locs cells slots Q (F0 m pc ls (st.map (pTr ad))) := by
  simp only [pS0] at h
  split at h
  · simp only [pBr] at h
    split at h
    · rename_i t ht
      cases h
      refine lv_if_le hx hb hdg (pTgt_some ht) (fun hc => ?_) (fun hc => ?_)
      · have h2 := k ls hl
        simp only [pCmp, hc, decide_true, if_true] at h2
        exact h2
      · have h2 := k ls hl
        simp only [pCmp, hc, decide_false, Bool.false_eq_true, if_false] at h2
        exact h2
    · cases h
  · cases h
theorem s_icmp_le (hx : p.tables.exec = Jvm.exec) (hb : c.code = cc) {off : Int} (hdg : decode cc pc = .ok (.if_icmp .le off, 3)) (hl : pLoc ad nL ls L) (h : pS0 (.if_icmp .le off) pc L st es = some r) (k : pW p l e R s m args below meth c H locs cells slots Q ad nL r) : W p l e R s m args below meth c H locs cells slots Q (F0 m pc ls (st.map (pTr ad))) := by
  simp only [pS0] at h
  split at h
  · simp only [pBr] at h
    split at h
    · rename_i t ht
      cases h
      refine lv_icmp_le hx hb hdg (pTgt_some ht) (fun hc => ?_) (fun hc => ?_)
      · have h2 := k ls hl
        simp only [pCmp, hc, decide_true, if_true] at h2
        exact h2
      · have h2 := k ls hl
        simp only [pCmp, hc, decide_false, Bool.false_eq_true, if_false] at h2
        exact h2
    · cases h
  · cases h
theorem s_goto (hx : p.tables.exec = Jvm.exec) (hb : c.code = cc) {off : Int} (hdg : decode cc pc = .ok (.goto off, 3)) (hl : pLoc ad nL ls L) (h : pS0 (.goto off) pc L st es = some r) (k : pW p l e R s m args below meth c H locs cells slots Q ad nL r) : W p l e R s m args below meth c H locs cells slots Q (F0 m pc ls (st.map (pTr ad))) := by
  simp only [pS0] at h
  split at h
  · rename_i t ht
    cases h
    exact lv_goto hx hb hdg (pTgt_some ht) (k ls hl)
  · cases h
theorem s_tableswitch (hx : p.tables.exec = Jvm.exec) (hb : c.code = cc) {dflt lo hi : Int} {offs : Array Int} {len : Nat} (hdg : decode cc pc = .ok (.tableswitch dflt lo hi offs, len)) (hl : pLoc ad nL ls L) (h : pS0 (.tableswitch dflt lo hi offs) pc L st es = some r) (k : pW p l e R s m args below meth c H locs cells slots Q ad nL r) : W p l e R s m args below meth c H locs cells slots Q (F0 m pc ls (st.map (pTr ad))) := by
  simp only [pS0] at h
  split at h
  · rename_i x rr
    by_cases hc : x.toInt < lo ∨ hi < x.toInt
    · simp only [hc, if_true] at h
      split at h
      · rename_i t ht
        cases h
        exact lv_tableOut hx hb hdg hc (pTgt_some ht) (k ls hl)
      · cases h
    · simp only [hc, if_false] at h
      split at h
      · rename_i t ht
        cases h
        split at ht
        · rename_i off ho
          exact lv_tableIn hx hb hdg (fun z => hc (Or.inl z)) (fun z => hc (Or.inr z)) ho (pTgt_some ht) (k ls hl)
        · cases ht
      · cases h
  · cases h
theorem s_lookupswitch (hx : p.tables.exec = Jvm.exec) (hb : c.code = cc) {dflt : Int} {ps : Array (Int × Int)} {len : Nat} (hdg : decode cc pc = .ok (.lookupswitch dflt ps, len)) (hl : pLoc ad nL ls L) (h : pS0 (.lookupswitch dflt ps) pc L st es = some r) (k : pW p l e R s m args below meth c H locs cells slots Q ad nL r) : W p l e R s m args below meth c H locs cells slots Q (F0 m pc ls (st.map (pTr ad))) := by
  simp only [pS0] at h
  split at h
  · split at h
    · rename_i hp
      split at h
      · rename_i t ht
        cases h
        exact lv_lookup hx hb hdg hp rfl (pTgt_some ht) (k ls hl)
      · cases h
    · cases h
  · cases h
theorem pHd {cc : ByteArray} {pc len n : Nat} {ins : Instr} (hdg : decode cc pc = .ok (ins, len)) (hlen : pLen ins = 0 ∨ pLen ins = len) (hn : pLen ins = n) (h0 : n ≠ 0) : decode cc pc = .ok (ins, n) := by
  rcases hlen with h | h
  · exact absurd (hn.symm.trans h) h0
  · rw [hdg, ← h, hn]
theorem sim0 {ins : Instr} {len : Nat} (hx : p.tables.exec = Jvm.exec) (hb : c.code = cc) (hdg : decode cc pc = .ok (ins, len)) (hlen : pLen ins = 0 ∨ pLen ins = len) (hl : pLoc ad nL ls L) (h : pS0 ins pc L st es = some r) (k : pW p l e R s m args below meth c H locs cells slots Q ad nL r) : W p l e R s m args below meth c H locs cells slots Q (F0 m pc ls (st.map (pTr ad))) := by
  cases ins
  case iconst => exact s_iconst hx hb (pHd hdg hlen rfl (by decide)) hl h k
  case bipush => exact s_bipush hx hb (pHd hdg hlen rfl (by decide)) hl h k
  case sipush => exact s_sipush hx hb (pHd hdg hlen rfl (by decide)) hl h k
  case lconst => exact s_lconst hx hb (pHd hdg hlen rfl (by decide)) hl h k
  case iload_n => exact s_iload_n hx hb (pHd hdg hlen rfl (by decide)) hl h k
  case iload => exact s_iload hx hb (pHd hdg hlen rfl (by decide)) hl h k
  case lload_n => exact s_lload_n hx hb (pHd hdg hlen rfl (by decide)) hl h k
  case lload => exact s_lload hx hb (pHd hdg hlen rfl (by decide)) hl h k
  case aload_n => exact s_aload_n hx hb (pHd hdg hlen rfl (by decide)) hl h k
  case aload => exact s_aload hx hb (pHd hdg hlen rfl (by decide)) hl h k
  case istore_n => exact s_istore_n hx hb (pHd hdg hlen rfl (by decide)) hl h k
  case istore => exact s_istore hx hb (pHd hdg hlen rfl (by decide)) hl h k
  case lstore_n => exact s_lstore_n hx hb (pHd hdg hlen rfl (by decide)) hl h k
  case lstore => exact s_lstore hx hb (pHd hdg hlen rfl (by decide)) hl h k
  case astore_n => exact s_astore_n hx hb (pHd hdg hlen rfl (by decide)) hl h k
  case astore => exact s_astore hx hb (pHd hdg hlen rfl (by decide)) hl h k
  case iinc => exact s_iinc hx hb (pHd hdg hlen rfl (by decide)) hl h k
  case iadd => exact s_iadd hx hb (pHd hdg hlen rfl (by decide)) hl h k
  case isub => exact s_isub hx hb (pHd hdg hlen rfl (by decide)) hl h k
  case imul => exact s_imul hx hb (pHd hdg hlen rfl (by decide)) hl h k
  case iand => exact s_iand hx hb (pHd hdg hlen rfl (by decide)) hl h k
  case ior => exact s_ior hx hb (pHd hdg hlen rfl (by decide)) hl h k
  case idiv => exact s_idiv hx hb (pHd hdg hlen rfl (by decide)) hl h k
  case irem => exact s_irem hx hb (pHd hdg hlen rfl (by decide)) hl h k
  case ishl => exact s_ishl hx hb (pHd hdg hlen rfl (by decide)) hl h k
  case ishr => exact s_ishr hx hb (pHd hdg hlen rfl (by decide)) hl h k
  case iushr => exact s_iushr hx hb (pHd hdg hlen rfl (by decide)) hl h k
  case ladd => exact s_ladd hx hb (pHd hdg hlen rfl (by decide)) hl h k
  case lsub => exact s_lsub hx hb (pHd hdg hlen rfl (by decide)) hl h k
  case lmul => exact s_lmul hx hb (pHd hdg hlen rfl (by decide)) hl h k
  case land => exact s_land hx hb (pHd hdg hlen rfl (by decide)) hl h k
  case lor => exact s_lor hx hb (pHd hdg hlen rfl (by decide)) hl h k
  case ldiv => exact s_ldiv hx hb (pHd hdg hlen rfl (by decide)) hl h k
  case lrem => exact s_lrem hx hb (pHd hdg hlen rfl (by decide)) hl h k
  case lshl => exact s_lshl hx hb (pHd hdg hlen rfl (by decide)) hl h k
  case lushr => exact s_lushr hx hb (pHd hdg hlen rfl (by decide)) hl h k
  case lcmp => exact s_lcmp hx hb (pHd hdg hlen rfl (by decide)) hl h k
  case i2l => exact s_i2l hx hb (pHd hdg hlen rfl (by decide)) hl h k
  case l2i => exact s_l2i hx hb (pHd hdg hlen rfl (by decide)) hl h k
  case i2b => exact s_i2b hx hb (pHd hdg hlen rfl (by decide)) hl h k
  case dup => exact s_dup hx hb (pHd hdg hlen rfl (by decide)) hl h k
  case pop => exact s_pop hx hb (pHd hdg hlen rfl (by decide)) hl h k
  case pop2 => exact s_pop2 hx hb (pHd hdg hlen rfl (by decide)) hl h k
  case dup2 => exact s_dup2 hx hb (pHd hdg hlen rfl (by decide)) hl h k
  case goto => exact s_goto hx hb (pHd hdg hlen rfl (by decide)) hl h k
  case ifCond cd off =>
    cases cd
    · exact s_if_eq hx hb (pHd hdg hlen rfl (by decide)) hl h k
    · exact s_if_ne hx hb (pHd hdg hlen rfl (by decide)) hl h k
    · exact s_if_lt hx hb (pHd hdg hlen rfl (by decide)) hl h k
    · exact s_if_ge hx hb (pHd hdg hlen rfl (by decide)) hl h k
    · exact s_if_gt hx hb (pHd hdg hlen rfl (by decide)) hl h k
    · exact s_if_le hx hb (pHd hdg hlen rfl (by decide)) hl h k
  case if_icmp cd off =>
    cases cd
    · exact s_icmp_eq hx hb (pHd hdg hlen rfl (by decide)) hl h k
    · exact s_icmp_ne hx hb (pHd hdg hlen rfl (by decide)) hl h k
    · exact s_icmp_lt hx hb (pHd hdg hlen rfl (by decide)) hl h k
    · exact s_icmp_ge hx hb (pHd hdg hlen rfl (by decide)) hl h k
    · exact s_icmp_gt hx hb (pHd hdg hlen rfl (by decide)) hl h k
    · exact s_icmp_le hx hb (pHd hdg hlen rfl (by decide)) hl h k
  case tableswitch => exact s_tableswitch hx hb hdg hl h k
  case lookupswitch => exact s_lookupswitch hx hb hdg hl h k
  all_goals (exact absurd h (by simp [pS0]))
end SIM0
