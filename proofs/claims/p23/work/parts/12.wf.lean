/-! references stay good -/
theorem okS_i {n : Nat} {st : List Value} {x : Int32} (h : pOkS n st) : pOkS n (.int x :: st) := fun v hv => by
  rcases List.mem_cons.mp hv with rfl | h2
  · rfl
  · exact h v h2
theorem okS_l {n : Nat} {st : List Value} {x : Int64} (h : pOkS n st) : pOkS n (.long x :: st) := fun v hv => by
  rcases List.mem_cons.mp hv with rfl | h2
  · rfl
  · exact h v h2
theorem okS_c {n : Nat} {st : List Value} {x : Value} (hx : pOkV n x = true) (h : pOkS n st) : pOkS n (x :: st) := fun v hv => by
  rcases List.mem_cons.mp hv with rfl | h2
  · exact hx
  · exact h v h2
theorem okS_t {n : Nat} {st : List Value} {x : Value} (h : pOkS n (x :: st)) : pOkS n st := fun v hv => h v (List.mem_cons_of_mem _ hv)
theorem okS_h {n : Nat} {st : List Value} {x : Value} (h : pOkS n (x :: st)) : pOkV n x = true := h x List.mem_cons_self
theorem okL_s1 {n : Nat} {L : PL} {i : Nat} {v : Value} (h : pOkL n L) (hv : pOkV n v = true) : pOkL n (pSto1 L i v) := by
  intro j w hj
  unfold pSto1 at hj
  rw [List.getElem?_set] at hj
  split at hj
  · split at hj
    · cases hj; exact hv
    · cases hj
  · exact h j w (pKill_get hj).1
theorem okL_s2 {n : Nat} {L : PL} {i : Nat} {v : Value} (h : pOkL n L) (hv : pOkV n v = true) : pOkL n (pSto2 L i v) := by
  intro j w hj
  unfold pSto2 at hj
  rw [List.getElem?_set] at hj
  split at hj
  · split at hj <;> simp at hj
  · exact okL_s1 h hv j w hj
theorem okL_g {n : Nat} {L : PL} {i : Nat} {v : Value} (h : pOkL n L) (hg : pGetL L i = some v) : pOkV n v = true := h i v (pGetL_some hg)
theorem wf_iconst {n pc : Nat} {L : PL} {st : List Value} {es : PH} {r : pSt} {n0 : Int} (hL : pOkL n L) (hS : pOkS n st) (h : pS0 (.iconst n0) pc L st es = some r) : pOkL n r.2.1 ∧ pOkS n r.2.2.1 ∧ r.2.2.2 = es := by
  simp only [pS0] at h
  cases h
  exact ⟨hL, okS_i hS, rfl⟩
theorem wf_bipush {n pc : Nat} {L : PL} {st : List Value} {es : PH} {r : pSt} {n0 : Int} (hL : pOkL n L) (hS : pOkS n st) (h : pS0 (.bipush n0) pc L st es = some r) : pOkL n r.2.1 ∧ pOkS n r.2.2.1 ∧ r.2.2.2 = es := by
  simp only [pS0] at h
  cases h
  exact ⟨hL, okS_i hS, rfl⟩
theorem wf_sipush {n pc : Nat} {L : PL} {st : List Value} {es : PH} {r : pSt} {n0 : Int} (hL : pOkL n L) (hS : pOkS n st) (h : pS0 (.sipush n0) pc L st es = some r) : pOkL n r.2.1 ∧ pOkS n r.2.2.1 ∧ r.2.2.2 = es := by
  simp only [pS0] at h
  cases h
  exact ⟨hL, okS_i hS, rfl⟩
theorem wf_lconst {n pc : Nat} {L : PL} {st : List Value} {es : PH} {r : pSt} {n0 : Fin 2} (hL : pOkL n L) (hS : pOkS n st) (h : pS0 (.lconst n0) pc L st es = some r) : pOkL n r.2.1 ∧ pOkS n r.2.2.1 ∧ r.2.2.2 = es := by
  simp only [pS0] at h
  cases h
  exact ⟨hL, okS_l hS, rfl⟩
theorem wf_iload_n {n pc : Nat} {L : PL} {st : List Value} {es : PH} {r : pSt} {i : Fin 4} (hL : pOkL n L) (hS : pOkS n st) (h : pS0 (.iload_n i) pc L st es = some r) : pOkL n r.2.1 ∧ pOkS n r.2.2.1 ∧ r.2.2.2 = es := by
  simp only [pS0, pLdI] at h
  split at h
  · rename_i x hg
    cases h
    exact ⟨hL, okS_i hS, rfl⟩
  · cases h
theorem wf_iload {n pc : Nat} {L : PL} {st : List Value} {es : PH} {r : pSt} {i : Nat} (hL : pOkL n L) (hS : pOkS n st) (h : pS0 (.iload i) pc L st es = some r) : pOkL n r.2.1 ∧ pOkS n r.2.2.1 ∧ r.2.2.2 = es := by
  simp only [pS0, pLdI] at h
  split at h
  · rename_i x hg
    cases h
    exact ⟨hL, okS_i hS, rfl⟩
  · cases h
theorem wf_lload_n {n pc : Nat} {L : PL} {st : List Value} {es : PH} {r : pSt} {i : Fin 4} (hL : pOkL n L) (hS : pOkS n st) (h : pS0 (.lload_n i) pc L st es = some r) : pOkL n r.2.1 ∧ pOkS n r.2.2.1 ∧ r.2.2.2 = es := by
  simp only [pS0, pLdL] at h
  split at h
  · rename_i x hg
    cases h
    exact ⟨hL, okS_l hS, rfl⟩
  · cases h
theorem wf_lload {n pc : Nat} {L : PL} {st : List Value} {es : PH} {r : pSt} {i : Nat} (hL : pOkL n L) (hS : pOkS n st) (h : pS0 (.lload i) pc L st es = some r) : pOkL n r.2.1 ∧ pOkS n r.2.2.1 ∧ r.2.2.2 = es := by
  simp only [pS0, pLdL] at h
  split at h
  · rename_i x hg
    cases h
    exact ⟨hL, okS_l hS, rfl⟩
  · cases h
theorem wf_aload_n {n pc : Nat} {L : PL} {st : List Value} {es : PH} {r : pSt} {i : Fin 4} (hL : pOkL n L) (hS : pOkS n st) (h : pS0 (.aload_n i) pc L st es = some r) : pOkL n r.2.1 ∧ pOkS n r.2.2.1 ∧ r.2.2.2 = es := by
  simp only [pS0, pLdA] at h
  split at h
  · rename_i x hg
    cases h
    exact ⟨hL, okS_c (okL_g hL hg) hS, rfl⟩
  · cases h
theorem wf_aload {n pc : Nat} {L : PL} {st : List Value} {es : PH} {r : pSt} {i : Nat} (hL : pOkL n L) (hS : pOkS n st) (h : pS0 (.aload i) pc L st es = some r) : pOkL n r.2.1 ∧ pOkS n r.2.2.1 ∧ r.2.2.2 = es := by
  simp only [pS0, pLdA] at h
  split at h
  · rename_i x hg
    cases h
    exact ⟨hL, okS_c (okL_g hL hg) hS, rfl⟩
  · cases h
theorem wf_istore_n {n pc : Nat} {L : PL} {st : List Value} {es : PH} {r : pSt} {i : Fin 4} (hL : pOkL n L) (hS : pOkS n st) (h : pS0 (.istore_n i) pc L st es = some r) : pOkL n r.2.1 ∧ pOkS n r.2.2.1 ∧ r.2.2.2 = es := by
  simp only [pS0, pStI] at h
  split at h
  · split at h
    · cases h
      exact ⟨okL_s1 hL rfl, okS_t hS, rfl⟩
    · cases h
  · cases h
theorem wf_istore {n pc : Nat} {L : PL} {st : List Value} {es : PH} {r : pSt} {i : Nat} (hL : pOkL n L) (hS : pOkS n st) (h : pS0 (.istore i) pc L st es = some r) : pOkL n r.2.1 ∧ pOkS n r.2.2.1 ∧ r.2.2.2 = es := by
  simp only [pS0, pStI] at h
  split at h
  · split at h
    · cases h
      exact ⟨okL_s1 hL rfl, okS_t hS, rfl⟩
    · cases h
  · cases h
theorem wf_lstore_n {n pc : Nat} {L : PL} {st : List Value} {es : PH} {r : pSt} {i : Fin 4} (hL : pOkL n L) (hS : pOkS n st) (h : pS0 (.lstore_n i) pc L st es = some r) : pOkL n r.2.1 ∧ pOkS n r.2.2.1 ∧ r.2.2.2 = es := by
  simp only [pS0, pStL] at h
  split at h
  · split at h
    · cases h
      exact ⟨okL_s2 hL rfl, okS_t hS, rfl⟩
    · cases h
  · cases h
theorem wf_lstore {n pc : Nat} {L : PL} {st : List Value} {es : PH} {r : pSt} {i : Nat} (hL : pOkL n L) (hS : pOkS n st) (h : pS0 (.lstore i) pc L st es = some r) : pOkL n r.2.1 ∧ pOkS n r.2.2.1 ∧ r.2.2.2 = es := by
  simp only [pS0, pStL] at h
  split at h
  · split at h
    · cases h
      exact ⟨okL_s2 hL rfl, okS_t hS, rfl⟩
    · cases h
  · cases h
theorem wf_astore_n {n pc : Nat} {L : PL} {st : List Value} {es : PH} {r : pSt} {i : Fin 4} (hL : pOkL n L) (hS : pOkS n st) (h : pS0 (.astore_n i) pc L st es = some r) : pOkL n r.2.1 ∧ pOkS n r.2.2.1 ∧ r.2.2.2 = es := by
  simp only [pS0, pStA] at h
  split at h
  · split at h
    · cases h
      exact ⟨okL_s1 hL (okS_h hS), okS_t hS, rfl⟩
    · cases h
  · cases h
theorem wf_astore {n pc : Nat} {L : PL} {st : List Value} {es : PH} {r : pSt} {i : Nat} (hL : pOkL n L) (hS : pOkS n st) (h : pS0 (.astore i) pc L st es = some r) : pOkL n r.2.1 ∧ pOkS n r.2.2.1 ∧ r.2.2.2 = es := by
  simp only [pS0, pStA] at h
  split at h
  · split at h
    · cases h
      exact ⟨okL_s1 hL (okS_h hS), okS_t hS, rfl⟩
    · cases h
  · cases h
theorem wf_iinc {n pc : Nat} {L : PL} {st : List Value} {es : PH} {r : pSt} {i : Nat} {n0 : Int} (hL : pOkL n L) (hS : pOkS n st) (h : pS0 (.iinc i n0) pc L st es = some r) : pOkL n r.2.1 ∧ pOkS n r.2.2.1 ∧ r.2.2.2 = es := by
  simp only [pS0] at h
  split at h
  · split at h
    · cases h
      exact ⟨okL_s1 hL rfl, hS, rfl⟩
    · cases h
  · cases h
theorem wf_iadd {n pc : Nat} {L : PL} {st : List Value} {es : PH} {r : pSt} (hL : pOkL n L) (hS : pOkS n st) (h : pS0 (.iadd) pc L st es = some r) : pOkL n r.2.1 ∧ pOkS n r.2.2.1 ∧ r.2.2.2 = es := by
  simp only [pS0] at h
  split at h
  · split at h
    · cases h
      exact ⟨hL, okS_i (okS_t (okS_t hS)), rfl⟩
    · cases h
  · cases h
theorem wf_isub {n pc : Nat} {L : PL} {st : List Value} {es : PH} {r : pSt} (hL : pOkL n L) (hS : pOkS n st) (h : pS0 (.isub) pc L st es = some r) : pOkL n r.2.1 ∧ pOkS n r.2.2.1 ∧ r.2.2.2 = es := by
  simp only [pS0] at h
  split at h
  · split at h
    · cases h
      exact ⟨hL, okS_i (okS_t (okS_t hS)), rfl⟩
    · cases h
  · cases h
theorem wf_imul {n pc : Nat} {L : PL} {st : List Value} {es : PH} {r : pSt} (hL : pOkL n L) (hS : pOkS n st) (h : pS0 (.imul) pc L st es = some r) : pOkL n r.2.1 ∧ pOkS n r.2.2.1 ∧ r.2.2.2 = es := by
  simp only [pS0] at h
  split at h
  · split at h
    · cases h
      exact ⟨hL, okS_i (okS_t (okS_t hS)), rfl⟩
    · cases h
  · cases h
theorem wf_iand {n pc : Nat} {L : PL} {st : List Value} {es : PH} {r : pSt} (hL : pOkL n L) (hS : pOkS n st) (h : pS0 (.iand) pc L st es = some r) : pOkL n r.2.1 ∧ pOkS n r.2.2.1 ∧ r.2.2.2 = es := by
  simp only [pS0] at h
  split at h
  · split at h
    · cases h
      exact ⟨hL, okS_i (okS_t (okS_t hS)), rfl⟩
    · cases h
  · cases h
theorem wf_ior {n pc : Nat} {L : PL} {st : List Value} {es : PH} {r : pSt} (hL : pOkL n L) (hS : pOkS n st) (h : pS0 (.ior) pc L st es = some r) : pOkL n r.2.1 ∧ pOkS n r.2.2.1 ∧ r.2.2.2 = es := by
  simp only [pS0] at h
  split at h
  · split at h
    · cases h
      exact ⟨hL, okS_i (okS_t (okS_t hS)), rfl⟩
    · cases h
  · cases h
theorem wf_idiv {n pc : Nat} {L : PL} {st : List Value} {es : PH} {r : pSt} (hL : pOkL n L) (hS : pOkS n st) (h : pS0 (.idiv) pc L st es = some r) : pOkL n r.2.1 ∧ pOkS n r.2.2.1 ∧ r.2.2.2 = es := by
  simp only [pS0] at h
  split at h
  · split at h
    · cases h
      exact ⟨hL, okS_i (okS_t (okS_t hS)), rfl⟩
    · cases h
  · cases h
theorem wf_irem {n pc : Nat} {L : PL} {st : List Value} {es : PH} {r : pSt} (hL : pOkL n L) (hS : pOkS n st) (h : pS0 (.irem) pc L st es = some r) : pOkL n r.2.1 ∧ pOkS n r.2.2.1 ∧ r.2.2.2 = es := by
  simp only [pS0] at h
  split at h
  · split at h
    · cases h
      exact ⟨hL, okS_i (okS_t (okS_t hS)), rfl⟩
    · cases h
  · cases h
theorem wf_ishl {n pc : Nat} {L : PL} {st : List Value} {es : PH} {r : pSt} (hL : pOkL n L) (hS : pOkS n st) (h : pS0 (.ishl) pc L st es = some r) : pOkL n r.2.1 ∧ pOkS n r.2.2.1 ∧ r.2.2.2 = es := by
  simp only [pS0] at h
  split at h
  · split at h
    · cases h
      exact ⟨hL, okS_i (okS_t (okS_t hS)), rfl⟩
    · cases h
  · cases h
theorem wf_ishr {n pc : Nat} {L : PL} {st : List Value} {es : PH} {r : pSt} (hL : pOkL n L) (hS : pOkS n st) (h : pS0 (.ishr) pc L st es = some r) : pOkL n r.2.1 ∧ pOkS n r.2.2.1 ∧ r.2.2.2 = es := by
  simp only [pS0] at h
  split at h
  · split at h
    · cases h
      exact ⟨hL, okS_i (okS_t (okS_t hS)), rfl⟩
    · cases h
  · cases h
theorem wf_iushr {n pc : Nat} {L : PL} {st : List Value} {es : PH} {r : pSt} (hL : pOkL n L) (hS : pOkS n st) (h : pS0 (.iushr) pc L st es = some r) : pOkL n r.2.1 ∧ pOkS n r.2.2.1 ∧ r.2.2.2 = es := by
  simp only [pS0] at h
  split at h
  · split at h
    · cases h
      exact ⟨hL, okS_i (okS_t (okS_t hS)), rfl⟩
    · cases h
  · cases h
theorem wf_ladd {n pc : Nat} {L : PL} {st : List Value} {es : PH} {r : pSt} (hL : pOkL n L) (hS : pOkS n st) (h : pS0 (.ladd) pc L st es = some r) : pOkL n r.2.1 ∧ pOkS n r.2.2.1 ∧ r.2.2.2 = es := by
  simp only [pS0] at h
  split at h
  · split at h
    · cases h
      exact ⟨hL, okS_l (okS_t (okS_t hS)), rfl⟩
    · cases h
  · cases h
theorem wf_lsub {n pc : Nat} {L : PL} {st : List Value} {es : PH} {r : pSt} (hL : pOkL n L) (hS : pOkS n st) (h : pS0 (.lsub) pc L st es = some r) : pOkL n r.2.1 ∧ pOkS n r.2.2.1 ∧ r.2.2.2 = es := by
  simp only [pS0] at h
  split at h
  · split at h
    · cases h
      exact ⟨hL, okS_l (okS_t (okS_t hS)), rfl⟩
    · cases h
  · cases h
theorem wf_lmul {n pc : Nat} {L : PL} {st : List Value} {es : PH} {r : pSt} (hL : pOkL n L) (hS : pOkS n st) (h : pS0 (.lmul) pc L st es = some r) : pOkL n r.2.1 ∧ pOkS n r.2.2.1 ∧ r.2.2.2 = es := by
  simp only [pS0] at h
  split at h
  · split at h
    · cases h
      exact ⟨hL, okS_l (okS_t (okS_t hS)), rfl⟩
    · cases h
  · cases h
theorem wf_land {n pc : Nat} {L : PL} {st : List Value} {es : PH} {r : pSt} (hL : pOkL n L) (hS : pOkS n st) (h : pS0 (.land) pc L st es = some r) : pOkL n r.2.1 ∧ pOkS n r.2.2.1 ∧ r.2.2.2 = es := by
  simp only [pS0] at h
  split at h
  · split at h
    · cases h
      exact ⟨hL, okS_l (okS_t (okS_t hS)), rfl⟩
    · cases h
  · cases h
theorem wf_lor {n pc : Nat} {L : PL} {st : List Value} {es : PH} {r : pSt} (hL : pOkL n L) (hS : pOkS n st) (h : pS0 (.lor) pc L st es = some r) : pOkL n r.2.1 ∧ pOkS n r.2.2.1 ∧ r.2.2.2 = es := by
  simp only [pS0] at h
  split at h
  · split at h
    · cases h
      exact ⟨hL, okS_l (okS_t (okS_t hS)), rfl⟩
    · cases h
  · cases h
theorem wf_ldiv {n pc : Nat} {L : PL} {st : List Value} {es : PH} {r : pSt} (hL : pOkL n L) (hS : pOkS n st) (h : pS0 (.ldiv) pc L st es = some r) : pOkL n r.2.1 ∧ pOkS n r.2.2.1 ∧ r.2.2.2 = es := by
  simp only [pS0] at h
  split at h
  · split at h
    · cases h
      exact ⟨hL, okS_l (okS_t (okS_t hS)), rfl⟩
    · cases h
  · cases h
theorem wf_lrem {n pc : Nat} {L : PL} {st : List Value} {es : PH} {r : pSt} (hL : pOkL n L) (hS : pOkS n st) (h : pS0 (.lrem) pc L st es = some r) : pOkL n r.2.1 ∧ pOkS n r.2.2.1 ∧ r.2.2.2 = es := by
  simp only [pS0] at h
  split at h
  · split at h
    · cases h
      exact ⟨hL, okS_l (okS_t (okS_t hS)), rfl⟩
    · cases h
  · cases h
theorem wf_lshl {n pc : Nat} {L : PL} {st : List Value} {es : PH} {r : pSt} (hL : pOkL n L) (hS : pOkS n st) (h : pS0 (.lshl) pc L st es = some r) : pOkL n r.2.1 ∧ pOkS n r.2.2.1 ∧ r.2.2.2 = es := by
  simp only [pS0] at h
  split at h
  · split at h
    · cases h
      exact ⟨hL, okS_l (okS_t (okS_t hS)), rfl⟩
    · cases h
  · cases h
theorem wf_lushr {n pc : Nat} {L : PL} {st : List Value} {es : PH} {r : pSt} (hL : pOkL n L) (hS : pOkS n st) (h : pS0 (.lushr) pc L st es = some r) : pOkL n r.2.1 ∧ pOkS n r.2.2.1 ∧ r.2.2.2 = es := by
  simp only [pS0] at h
  split at h
  · split at h
    · cases h
      exact ⟨hL, okS_l (okS_t (okS_t hS)), rfl⟩
    · cases h
  · cases h
theorem wf_lcmp {n pc : Nat} {L : PL} {st : List Value} {es : PH} {r : pSt} (hL : pOkL n L) (hS : pOkS n st) (h : pS0 (.lcmp) pc L st es = some r) : pOkL n r.2.1 ∧ pOkS n r.2.2.1 ∧ r.2.2.2 = es := by
  simp only [pS0] at h
  split at h
  · cases h
    exact ⟨hL, okS_i (okS_t (okS_t hS)), rfl⟩
  · cases h
theorem wf_i2l {n pc : Nat} {L : PL} {st : List Value} {es : PH} {r : pSt} (hL : pOkL n L) (hS : pOkS n st) (h : pS0 (.i2l) pc L st es = some r) : pOkL n r.2.1 ∧ pOkS n r.2.2.1 ∧ r.2.2.2 = es := by
  simp only [pS0] at h
  split at h
  · cases h
    exact ⟨hL, okS_l (okS_t hS), rfl⟩
  · cases h
theorem wf_l2i {n pc : Nat} {L : PL} {st : List Value} {es : PH} {r : pSt} (hL : pOkL n L) (hS : pOkS n st) (h : pS0 (.l2i) pc L st es = some r) : pOkL n r.2.1 ∧ pOkS n r.2.2.1 ∧ r.2.2.2 = es := by
  simp only [pS0] at h
  split at h
  · cases h
    exact ⟨hL, okS_i (okS_t hS), rfl⟩
  · cases h
theorem wf_i2b {n pc : Nat} {L : PL} {st : List Value} {es : PH} {r : pSt} (hL : pOkL n L) (hS : pOkS n st) (h : pS0 (.i2b) pc L st es = some r) : pOkL n r.2.1 ∧ pOkS n r.2.2.1 ∧ r.2.2.2 = es := by
  simp only [pS0] at h
  split at h
  · cases h
    exact ⟨hL, okS_i (okS_t hS), rfl⟩
  · cases h
theorem wf_dup {n pc : Nat} {L : PL} {st : List Value} {es : PH} {r : pSt} (hL : pOkL n L) (hS : pOkS n st) (h : pS0 (.dup) pc L st es = some r) : pOkL n r.2.1 ∧ pOkS n r.2.2.1 ∧ r.2.2.2 = es := by
  simp only [pS0] at h
  split at h
  · split at h
    · cases h
      exact ⟨hL, okS_c (okS_h hS) hS, rfl⟩
    · cases h
  · cases h
theorem wf_pop {n pc : Nat} {L : PL} {st : List Value} {es : PH} {r : pSt} (hL : pOkL n L) (hS : pOkS n st) (h : pS0 (.pop) pc L st es = some r) : pOkL n r.2.1 ∧ pOkS n r.2.2.1 ∧ r.2.2.2 = es := by
  simp only [pS0] at h
  split at h
  · split at h
    · cases h
      exact ⟨hL, okS_t hS, rfl⟩
    · cases h
  · cases h
theorem wf_pop2 {n pc : Nat} {L : PL} {st : List Value} {es : PH} {r : pSt} (hL : pOkL n L) (hS : pOkS n st) (h : pS0 (.pop2) pc L st es = some r) : pOkL n r.2.1 ∧ pOkS n r.2.2.1 ∧ r.2.2.2 = es := by
  simp only [pS0] at h
  split at h
  · cases h
    exact ⟨hL, okS_t hS, rfl⟩
  · cases h
theorem wf_dup2 {n pc : Nat} {L : PL} {st : List Value} {es : PH} {r : pSt} (hL : pOkL n L) (hS : pOkS n st) (h : pS0 (.dup2) pc L st es = some r) : pOkL n r.2.1 ∧ pOkS n r.2.2.1 ∧ r.2.2.2 = es := by
  simp only [pS0] at h
  split at h
  · cases h
    exact ⟨hL, okS_l hS, rfl⟩
  · cases h
    exact ⟨hL, okS_i (okS_i hS), rfl⟩
  · cases h
    exact ⟨hL, okS_i (okS_c (okS_h (okS_t hS)) hS), rfl⟩
  · cases h
theorem wf_ifCond {n pc : Nat} {L : PL} {st : List Value} {es : PH} {r : pSt} {cd : Jvm.ClassFile.Cond} {off : Int} (hL : pOkL n L) (hS : pOkS n st) (h : pS0 (.ifCond cd off) pc L st es = some r) : pOkL n r.2.1 ∧ pOkS n r.2.2.1 ∧ r.2.2.2 = es := by
  simp only [pS0, pBr] at h
  split at h
  · split at h
    · cases h
      exact ⟨hL, okS_t hS, rfl⟩
    · cases h
  · cases h
theorem wf_if_icmp {n pc : Nat} {L : PL} {st : List Value} {es : PH} {r : pSt} {cd : Jvm.ClassFile.Cond} {off : Int} (hL : pOkL n L) (hS : pOkS n st) (h : pS0 (.if_icmp cd off) pc L st es = some r) : pOkL n r.2.1 ∧ pOkS n r.2.2.1 ∧ r.2.2.2 = es := by
  simp only [pS0, pBr] at h
  split at h
  · split at h
    · cases h
      exact ⟨hL, okS_t (okS_t hS), rfl⟩
    · cases h
  · cases h
theorem wf_goto {n pc : Nat} {L : PL} {st : List Value} {es : PH} {r : pSt} {off : Int} (hL : pOkL n L) (hS : pOkS n st) (h : pS0 (.goto off) pc L st es = some r) : pOkL n r.2.1 ∧ pOkS n r.2.2.1 ∧ r.2.2.2 = es := by
  simp only [pS0] at h
  split at h
  · cases h
    exact ⟨hL, hS, rfl⟩
  · cases h
theorem wf_tableswitch {n pc : Nat} {L : PL} {st : List Value} {es : PH} {r : pSt} {dflt lo hi : Int} {offs : Array Int} (hL : pOkL n L) (hS : pOkS n st) (h : pS0 (.tableswitch dflt lo hi offs) pc L st es = some r) : pOkL n r.2.1 ∧ pOkS n r.2.2.1 ∧ r.2.2.2 = es := by
  simp only [pS0] at h
  split at h
  · split at h
    · cases h
      exact ⟨hL, okS_t hS, rfl⟩
    · cases h
  · cases h
theorem wf_lookupswitch {n pc : Nat} {L : PL} {st : List Value} {es : PH} {r : pSt} {dflt : Int} {ps : Array (Int × Int)} (hL : pOkL n L) (hS : pOkS n st) (h : pS0 (.lookupswitch dflt ps) pc L st es = some r) : pOkL n r.2.1 ∧ pOkS n r.2.2.1 ∧ r.2.2.2 = es := by
  simp only [pS0] at h
  split at h
  · split at h
    · split at h
      · cases h
        exact ⟨hL, okS_t hS, rfl⟩
      · cases h
    · cases h
  · cases h
theorem wf0 {n pc : Nat} {L : PL} {st : List Value} {es : PH} {r : pSt} {ins : Instr} (hL : pOkL n L) (hS : pOkS n st) (h : pS0 ins pc L st es = some r) : pOkL n r.2.1 ∧ pOkS n r.2.2.1 ∧ r.2.2.2 = es := by
  cases ins
  case iconst => exact wf_iconst hL hS h
  case bipush => exact wf_bipush hL hS h
  case sipush => exact wf_sipush hL hS h
  case lconst => exact wf_lconst hL hS h
  case iload_n => exact wf_iload_n hL hS h
  case iload => exact wf_iload hL hS h
  case lload_n => exact wf_lload_n hL hS h
  case lload => exact wf_lload hL hS h
  case aload_n => exact wf_aload_n hL hS h
  case aload => exact wf_aload hL hS h
  case istore_n => exact wf_istore_n hL hS h
  case istore => exact wf_istore hL hS h
  case lstore_n => exact wf_lstore_n hL hS h
  case lstore => exact wf_lstore hL hS h
  case astore_n => exact wf_astore_n hL hS h
  case astore => exact wf_astore hL hS h
  case iinc => exact wf_iinc hL hS h
  case iadd => exact wf_iadd hL hS h
  case isub => exact wf_isub hL hS h
  case imul => exact wf_imul hL hS h
  case iand => exact wf_iand hL hS h
  case ior => exact wf_ior hL hS h
  case idiv => exact wf_idiv hL hS h
  case irem => exact wf_irem hL hS h
  case ishl => exact wf_ishl hL hS h
  case ishr => exact wf_ishr hL hS h
  case iushr => exact wf_iushr hL hS h
  case ladd => exact wf_ladd hL hS h
  case lsub => exact wf_lsub hL hS h
  case lmul => exact wf_lmul hL hS h
  case land => exact wf_land hL hS h
  case lor => exact wf_lor hL hS h
  case ldiv => exact wf_ldiv hL hS h
  case lrem => exact wf_lrem hL hS h
  case lshl => exact wf_lshl hL hS h
  case lushr => exact wf_lushr hL hS h
  case lcmp => exact wf_lcmp hL hS h
  case i2l => exact wf_i2l hL hS h
  case l2i => exact wf_l2i hL hS h
  case i2b => exact wf_i2b hL hS h
  case dup => exact wf_dup hL hS h
  case pop => exact wf_pop hL hS h
  case pop2 => exact wf_pop2 hL hS h
  case dup2 => exact wf_dup2 hL hS h
  case ifCond => exact wf_ifCond hL hS h
  case if_icmp => exact wf_if_icmp hL hS h
  case goto => exact wf_goto hL hS h
  case tableswitch => exact wf_tableswitch hL hS h
  case lookupswitch => exact wf_lookupswitch hL hS h
  all_goals (exact absurd h (by simp [pS0]))
theorem okH_set {n : Nat} {es : PH} {k : Nat} {e : PE} (h : pOkH n es) (he : pOkE n e) : pOkH n (es.set k e) := by
  intro j x hj
  rw [List.getElem?_set] at hj
  split at hj
  · split at hj
    · cases hj; exact he
    · cases hj
  · exact h j x hj
theorem wf1 {n pc q a b len : Nat} {own : String} {O : pOut} {ini : Bool} {L : PL} {st : List Value} {es : PH} {r : pSt} {ins : Instr} (hn : 64 ≤ n) (ha : pOKe own (ins, len, q, a, b) = true) (hL : pOkL n L) (hS : pOkS n st) (hH : pOkH n es) (h : pS1 O ini ins q a b pc L st es = some r) : pOkL n r.2.1 ∧ pOkS n r.2.2.1 ∧ pOkH n r.2.2.2 ∧ r.2.2.2.length = es.length := by
  cases ins
  case ldc ix =>
    simp only [pS1] at h
    split at h
    · split at h
      · cases h; exact ⟨hL, okS_i hS, hH, rfl⟩
      · cases h
    · rename_i hb
      cases h
      refine ⟨hL, okS_c ?_ hS, hH, rfl⟩
      simp only [pOKe] at ha
      split at ha
      · exact absurd rfl hb
      · split at ha
        · rename_i w hw
          have hq := (List.getElem?_eq_some_iff.mp hw).1
          rw [pST_len] at hq
          simp only [pOkV, decide_eq_true_eq]
          show 8 + q < n
          omega
        · cases ha
      · cases ha
  case ldc_w ix =>
    simp only [pS1] at h
    split at h
    · split at h
      · cases h; exact ⟨hL, okS_i hS, hH, rfl⟩
      · cases h
    · cases h
  case ldc2_w ix =>
    simp only [pS1] at h
    split at h
    · cases h; exact ⟨hL, okS_l hS, hH, rfl⟩
    · cases h
  case getstatic ix =>
    simp only [pS1] at h
    cases h
    refine ⟨hL, okS_c ?_ hS, hH, rfl⟩
    simp only [pOKe] at ha
    split at ha
    · rename_i w n1 hw hn1
      have hk7 : a < 7 := (List.getElem?_eq_some_iff.mp hn1).1
      simp only [pOkV, decide_eq_true_eq]
      show a < n
      omega
    · cases ha
  case getfield ix =>
    simp only [pS1] at h
    split at h
    · split at h
      · cases h
      split at h
      · rename_i c fs he
        split at h
        · split at h
          · rename_i v hv
            cases h
            exact ⟨hL, okS_c (hH _ _ he v (List.mem_of_getElem? hv)) (okS_t hS), hH, rfl⟩
          · cases h
        · cases h
      · cases h
    · cases h
  case putfield ix =>
    simp only [pS1] at h
    split at h
    · split at h
      · cases h
      split at h
      · rename_i c fs he
        split at h
        · split at h
          · split at h
            · cases h
              refine ⟨hL, okS_t (okS_t hS), okH_set hH ?_, List.length_set⟩
              intro v hv
              rcases List.mem_or_eq_of_mem_set hv with h2 | h2
              · exact hH _ _ he v h2
              · rw [h2]; exact okS_h hS
            · cases h
          · cases h
        · cases h
      · cases h
    · cases h
  case iaload =>
    simp only [pS1] at h
    split at h
    · split at h
      · split at h
        · cases h; exact ⟨hL, okS_i (okS_t (okS_t hS)), hH, rfl⟩
        · cases h
      · cases h
    · cases h
  case baload =>
    simp only [pS1] at h
    split at h
    · split at h
      · cases h
      split at h
      · split at h
        · cases h; exact ⟨hL, okS_i (okS_t (okS_t hS)), hH, rfl⟩
        · cases h
      · cases h
    · cases h
  case laload =>
    simp only [pS1] at h
    split at h
    · split at h
      · cases h
      split at h
      · split at h
        · cases h; exact ⟨hL, okS_l (okS_t (okS_t hS)), hH, rfl⟩
        · cases h
      · cases h
    · cases h
  case iastore =>
    simp only [pS1] at h
    split at h
    · split at h
      · cases h
      split at h
      · split at h
        · cases h; exact ⟨hL, okS_t (okS_t (okS_t hS)), okH_set hH (by show (0 : Nat) < 4; decide), List.length_set⟩
        · cases h
      · cases h
    · cases h
  case bastore =>
    simp only [pS1] at h
    split at h
    · split at h
      · cases h
      split at h
      · split at h
        · cases h; exact ⟨hL, okS_t (okS_t (okS_t hS)), okH_set hH (by show (2 : Nat) < 4; decide), List.length_set⟩
        · cases h
      · split at h
        · cases h; exact ⟨hL, okS_t (okS_t (okS_t hS)), okH_set hH (by show (3 : Nat) < 4; decide), List.length_set⟩
        · cases h
      · cases h
    · cases h
  case lastore =>
    simp only [pS1] at h
    split at h
    · split at h
      · cases h
      split at h
      · split at h
        · cases h; exact ⟨hL, okS_t (okS_t (okS_t hS)), okH_set hH (by show (1 : Nat) < 4; decide), List.length_set⟩
        · cases h
      · cases h
    · cases h
  case arraylength =>
    simp only [pS1] at h
    split at h
    · split at h
      · cases h; exact ⟨hL, okS_i (okS_t hS), hH, rfl⟩
      · cases h
    · cases h
  case invokespecial ix =>
    simp only [pS1] at h
    split at h
    · split at h
      · split at h
        · cases h
        · cases h; exact ⟨hL, okS_t hS, hH, rfl⟩
      · cases h
    · cases h
  case invokestatic ix =>
    simp only [pS1] at h
    split at h
    · split at h
      · split at h
        · cases h
        split at h
        · split at h
          · cases h
            exact ⟨hL, okS_t (okS_t (okS_t (okS_t (okS_t hS)))), okH_set hH (by show (0 : Nat) < 4; decide), List.length_set⟩
          · cases h
        · cases h
      · cases h
    · cases h
  all_goals (exact absurd h (by simp [pS1]))
theorem okH_push {n : Nat} {es : PH} {e : PE} (h : pOkH n es) (he : pOkE n e) : pOkH n (es ++ [e]) := by
  intro j x hj
  by_cases hl : j < es.length
  · rw [List.getElem?_append_left hl] at hj
    exact h j x hj
  · rw [List.getElem?_append_right (by omega)] at hj
    have hz : j - es.length < 1 := (List.getElem?_eq_some_iff.mp hj).1
    have hj0 : j - es.length = 0 := by omega
    rw [hj0] at hj
    cases hj
    exact he
theorem okB {n a : Nat} : ∀ v ∈ pBlank a, pOkV n v = true := by
  intro v hv
  unfold pBlank at hv
  obtain ⟨q, -, rfl⟩ := List.mem_map.mp hv
  obtain ⟨ty, f⟩ := q
  cases ty <;> rfl
theorem wf2 {pc q a b len : Nat} {own : String} {L : PL} {st : List Value} {es : PH} {r : pSt} {ins : Instr} (ha : pOKe own (ins, len, q, a, b) = true) (hL : pOkL (64 + es.length) L) (hS : pOkS (64 + es.length) st) (hH : pOkH (64 + es.length) es) (h : pS2 ins a b pc L st es = some r) : r.2.2.2.length = es.length + 1 ∧ pOkL (64 + r.2.2.2.length) r.2.1 ∧ pOkS (64 + r.2.2.2.length) r.2.2.1 ∧ pOkH (64 + r.2.2.2.length) r.2.2.2 := by
  have up : ∀ {v : Value}, pOkV (64 + es.length) v = true → pOkV (64 + (es.length + 1)) v = true := fun hv => pOkV_mono (by omega) hv
  have key : ∀ {e : PE} {rr : List Value} {pc' : Nat}, pOkE (64 + (es.length + 1)) e → pOkS (64 + es.length) rr → (es ++ [e]).length = es.length + 1 ∧ pOkL (64 + (es ++ [e]).length) L ∧ pOkS (64 + (es ++ [e]).length) (.ref (64 + es.length) :: rr) ∧ pOkH (64 + (es ++ [e]).length) (es ++ [e]) := by
    intro e rr pc' he hrr
    have hlen : (es ++ [e]).length = es.length + 1 := by simp
    rw [hlen]
    refine ⟨rfl, fun i v hv => up (hL i v hv), okS_c ?_ (fun v hv => up (hrr v hv)), okH_push (fun j x hj => pOkE_mono (by omega) (hH j x hj)) he⟩
    simp only [pOkV, decide_eq_true_eq]
    show 64 + es.length < 64 + (es.length + 1)
    omega
  cases ins
  case newarray t =>
    simp only [pS2] at h
    split at h
    · split at h
      · cases h
      · cases h
        simp only [pOKe, Bool.and_eq_true, decide_eq_true_eq] at ha
        exact key (pc' := 0) ha.2 (okS_t hS)
    · cases h
  case new ix =>
    simp only [pS2] at h
    split at h
    · cases h
      exact key (pc' := 0) okB hS
    · cases h
  all_goals (exact absurd h (by simp [pS2]))
