/-! the bundle at the law's entry -/
theorem st_K {args : Array Value} {s : State} (hts : ∀ w ∈ pW0, w.before args s = true) : ∃ (D : va_G) (cT : Nat → ClassId), va_K D vwCl (pTyL cT) s := by
  have h1 : ∀ c : Nat, ∃ x : ClassId × (Nat → Nat), ∀ q : vw_C, vwCl[c]? = some q → u_Kn s q.1 q.2.1 q.2.2 x.1 x.2 := by
    intro c
    cases hc : vwCl[c]? with
    | none => exact ⟨(0, fun _ => 0), fun q h => by cases h⟩
    | some q =>
      obtain ⟨C, T, N⟩ := q
      have hinst : Cond.instantiable C N ∈ pW0 := pW0_of (of_decide_eq_true (List.all_eq_true.mp wInst _ (List.mem_of_getElem? hc))) rfl
      obtain ⟨cC, iS, hk⟩ := u_known (T := T) (N := N) hts (pUws_in hc) (hts _ hinst)
      exact ⟨(cC, iS), fun q h => by cases h; exact hk⟩
  have h2 : ∀ t : Nat, ∃ cA : ClassId, ∀ ty : FieldType, pTys[t]? = some ty → ArrOfT s cA ty ∧ va_RA s cA ty := by
    intro t
    have key : ∀ {ty : FieldType}, ty ∈ [FieldType.int, .long, .byte, .boolean] → (∀ cA, s.vm.findClass ("[" ++ ty.toString) = some cA → va_RA s cA ty) → ∃ cA : ClassId, ArrOfT s cA ty ∧ va_RA s cA ty := by
      intro ty hm hra
      obtain ⟨cA, kA, comp, g1, g2, g3⟩ := Cond.arrayClass_spec (args := args) (first := s) (o := none) (s := s) (idx := []) (hts _ (pW_arr0 hm))
      exact ⟨cA, fun n z => ⟨fun k h => (by cases h), kA, g2, comp, g3⟩, hra cA g1⟩
    match t with
    | 0 =>
      obtain ⟨cA, g⟩ := key (ty := .int) (by simp) (fun _ h => h)
      exact ⟨cA, fun ty h => by cases h; exact g⟩
    | 1 =>
      obtain ⟨cA, g⟩ := key (ty := .long) (by simp) (fun _ h => h)
      exact ⟨cA, fun ty h => by cases h; exact g⟩
    | 2 =>
      obtain ⟨cA, g⟩ := key (ty := .byte) (by simp) (fun _ h => h)
      exact ⟨cA, fun ty h => by cases h; exact g⟩
    | 3 =>
      obtain ⟨cA, g⟩ := key (ty := .boolean) (by simp) (fun _ h => h)
      exact ⟨cA, fun ty h => by cases h; exact g⟩
    | _ + 4 => exact ⟨0, fun ty h => by simp [pTys] at h⟩
  obtain ⟨f, hf⟩ := Classical.axiomOfChoice h1
  obtain ⟨g, hg⟩ := Classical.axiomOfChoice h2
  refine ⟨(fun c => (f c).1, fun c => (f c).2), g, fun c q hq => hf c q hq, fun k q hk => ?_⟩
  match k, hk with
  | 0, hk => cases hk; exact hg 0 _ rfl
  | 1, hk => cases hk; exact hg 1 _ rfl
  | 2, hk => cases hk; exact hg 2 _ rfl
  | 3, hk => cases hk; exact hg 3 _ rfl
  | _ + 4, hk => simp [pTyL] at hk
theorem pSteps_len : pSteps.length = 7 := rfl
theorem pSN_len : pSN.length = 7 := rfl
theorem pN_tx {q : Nat} {w : String × Nat × String} {t : List Nat} (hw : pST[q]? = some w) (ht : pTX[q]? = some t) {c : Cond} (hc : c ∈ rqT w t) : c ∈ pNar := by
  have h1 : c ∈ pNar.filter isTx := by
    rw [nT]
    refine List.mem_flatMap.mpr ⟨(w, t), List.mem_of_getElem? (i := q) ?_, hc⟩
    rw [List.getElem?_zip_eq_some]
    exact ⟨hw, ht⟩
  exact (List.mem_filter.mp h1).1
theorem pTX_short : pTX.all (fun t => decide (t.length < 1000)) = true := by decide +kernel
set_option maxHeartbeats 4000000 in
theorem st_Cy {s : State} {b n : Nat} {xs : Nat → Int32} (hts : ∀ w ∈ lw_tbl, w.before #[Value.ref b] s = true) (hX : va_X b n xs s s.heap) (hb : b < s.heap.size) (hg : (Jvm.Cond.and given_1 narrow_1).before #[Value.ref b] s = true) :
    ∃ (D : va_G) (cT : Nat → ClassId) (ad : Nat → Nat), ad 7 = b ∧ pCy D cT ad (pO0 xs n) (fun q => s.heap.size ≤ q) s s.heap := by
  have hnar : ∀ c ∈ pNar, c.before #[Value.ref b] s = true := flat_of_before _ hg
  have hts0 : ∀ w ∈ pW0, w.before #[Value.ref b] s = true := fun w hw => hts w (pW0_in hw).1
  have hA : ∀ a : Nat, a < s.heap.size → ¬ (fun q => s.heap.size ≤ q) a := fun a h z => by
    have z' : s.heap.size ≤ a := z
    omega
  obtain ⟨D, cT, hK⟩ := st_K hts0
  -- the rows of steps
  have hS : ∀ k : Nat, ∃ a : Nat, ∀ (nm : String) (l : List Int32), pSN[k]? = some nm → pSteps[k]? = some l → va_Z "MoveNotes" nm "[I" (.ref a) (fun q => s.heap.size ≤ q) s s.heap ∧ va_T .int a l.length (fun j => .int (l.getD j 0)) (fun q => s.heap.size ≤ q) s s.heap := by
    intro k
    cases hk1 : pSN[k]? with
    | none => exact ⟨0, fun nm l h => by cases h⟩
    | some nm =>
      cases hk2 : pSteps[k]? with
      | none => exact ⟨0, fun nm l _ h => by cases h⟩
      | some l =>
        have hm : (nm, l) ∈ pSN.zip pSteps := List.mem_of_getElem? (i := k) (by rw [List.getElem?_zip_eq_some]; exact ⟨hk1, hk2⟩)
        have h1 := List.all_eq_true.mp nS _ hm
        rw [Bool.and_eq_true, decide_eq_true_eq] at h1
        obtain ⟨h1, h2⟩ := h1
        have h3 : ∀ c ∈ rqS nm l, c.before #[Value.ref b] s = true := fun c hc => hnar c (of_decide_eq_true (List.all_eq_true.mp h1 c hc))
        have hl : l.length < 2 ^ 31 := by
          have h9 : pSteps.all (fun l => decide (l.length < 1000)) = true := by decide
          have := of_decide_eq_true (List.all_eq_true.mp h9 l (List.mem_of_getElem? hk2))
          omega
        obtain ⟨a, ha, hT⟩ := va_Tof (f := fun j => .int (l.getD j 0)) (A := fun q => s.heap.size ≤ q) hl (h3 (.arrayOf (.static "MoveNotes" nm "[I") .int) (by simp [rqS])) (va_eqt (h3 _ (by simp [rqS])))
          (fun j hj => va_eqt (h3 _ (by
            unfold rqS
            exact List.mem_append_right _ (List.mem_map.mpr ⟨j, List.mem_range.mpr hj, rfl⟩)))) hA
        refine ⟨a, fun nm' l' e1 e2 => ?_⟩
        cases e1
        cases e2
        exact ⟨va_Zof (hts _ h2) (hts0 _ (pW0_lit (by decide +kernel))) ha hA, hT⟩
  obtain ⟨aS, haS⟩ := Classical.axiomOfChoice hS
  -- the texts
  have hT : ∀ q : Nat, ∃ a : Nat × Nat, ∀ (w : String × Nat × String) (t : List Nat), pST[q]? = some w → pTX[q]? = some t → vk_R w.1 w.2.1 w.2.2 a.1 s ∧ va_O "java/lang/String" a.1 (fun q => s.heap.size ≤ q) s s.heap ∧ va_OF "java/lang/String" "coder" "B" (.int 0) a.1 (fun q => s.heap.size ≤ q) s s.heap ∧ va_OF "java/lang/String" "value" "[B" (.ref a.2) a.1 (fun q => s.heap.size ≤ q) s s.heap ∧ va_T .byte a.2 t.length (fun j => .int (nI (t.getD j 0))) (fun q => s.heap.size ≤ q) s s.heap := by
    intro q
    cases hq1 : pST[q]? with
    | none => exact ⟨(0, 0), fun w t h => by cases h⟩
    | some w =>
      cases hq2 : pTX[q]? with
      | none => exact ⟨(0, 0), fun w t _ h => by cases h⟩
      | some t =>
        have h3 : ∀ c ∈ rqT w t, c.before #[Value.ref b] s = true := fun c hc => hnar c (pN_tx hq1 hq2 hc)
        have hl : t.length < 2 ^ 31 := by
          have := of_decide_eq_true (List.all_eq_true.mp pTX_short t (List.mem_of_getElem? hq2))
          omega
        have hsr : Cond.stringRef w.1 w.2.1 w.2.2 ∈ lw_tbl := by
          have h1 : Cond.stringRef w.1 w.2.1 w.2.2 ∈ lw_tbl.filter isSR := by
            rw [wSR]
            exact List.mem_map.mpr ⟨w, List.mem_of_getElem? hq1, rfl⟩
          exact (List.mem_filter.mp h1).1
        have hex : (Cond.exactly (.string w.1 w.2.1) "java/lang/String").before #[Value.ref b] s = true := h3 _ (by simp [rqT])
        obtain ⟨a, -, -, -, q1, -⟩ := Cond.exactly_spec (args := #[Value.ref b]) (first := s) (o := none) (s := s) (idx := []) (t := .string w.1 w.2.1) (cls := "java/lang/String") hex
        obtain ⟨v, hv, hTv⟩ := va_Tof (tm := tmT w) (f := fun j => .int (nI (t.getD j 0))) (A := fun q => s.heap.size ≤ q) hl (h3 (.arrayOf (tmT w) .byte) (by simp [rqT])) (va_eqt (h3 _ (by simp [rqT])))
          (fun j hj => va_eqt (h3 _ (by
            unfold rqT
            exact List.mem_append_right _ (List.mem_map.mpr ⟨j, List.mem_range.mpr hj, rfl⟩)))) hA
        refine ⟨(a, v), fun w' t' e1 e2 => ?_⟩
        cases e1
        cases e2
        exact ⟨vk_R.of (hts _ hsr) q1, va_Oof hex q1 hA, vk_OFof q1 (va_eqt (h3 _ (by simp [rqT]))) hA, vk_OFof q1 hv hA, hTv⟩
  obtain ⟨aT, haT⟩ := Classical.axiomOfChoice hT
  have hz := nZ
  simp only [Bool.and_eq_true, decide_eq_true_eq] at hz
  obtain ⟨z1, z2, z3, z4, z5, z6, z7, z8, z9, z10, z11⟩ := hz
  refine ⟨D, cT, fun k => if k < 7 then aS k else if k = 7 then b else (aT (k - 8)).1, by simp, ⟨hK, ?_, ?_, ?_, ?_, ?_⟩, ⟨?_, ?_, ?_, ?_⟩, ⟨⟨fun q => (aT q).2, ?_⟩, ?_, ?_⟩⟩
  · intro w hw
    have h1 : w ∈ lw_tbl.filter isSL := by rw [wSL]; exact hw
    obtain ⟨x, -, rfl⟩ := List.mem_map.mp hw
    exact va_Nw.of rfl (hts _ (List.mem_filter.mp h1).1)
  · intro w hw
    have h1 : w ∈ lw_tbl.filter isNL := by rw [wNL]; exact hw
    obtain ⟨x, -, rfl⟩ := List.mem_map.mp hw
    exact va_Nw.of rfl (hts _ (List.mem_filter.mp h1).1)
  · intro k n' f hO
    unfold pO0 at hO
    split at hO
    · rename_i hk
      cases hO
      subst hk
      refine ⟨by omega, Or.inl ⟨?_, ?_, ?_⟩⟩
      · simpa using hX
      · simpa using hb
      · simpa using hA b hb
    · split at hO
      · rename_i l hl
        cases hO
        have hk7 : k < 7 := (List.getElem?_eq_some_iff.mp hl).1
        have hnm : ∃ nm, pSN[k]? = some nm := ⟨pSN[k]'hk7, List.getElem?_eq_getElem hk7⟩
        obtain ⟨nm, hnm⟩ := hnm
        refine ⟨by omega, Or.inr ?_⟩
        have h9 := (haS k nm l hnm hl).2
        simpa [hk7] using h9
      · cases hO
  · intro k nm hk
    have hk7 : k < 7 := (List.getElem?_eq_some_iff.mp hk).1
    have hl : ∃ l, pSteps[k]? = some l := ⟨pSteps[k]'hk7, List.getElem?_eq_getElem hk7⟩
    obtain ⟨l, hl⟩ := hl
    show va_Z _ _ _ (.ref (if k < 7 then aS k else _)) _ _ _
    rw [if_pos hk7]
    exact (haS k nm l hk hl).1
  · intro q w hw
    have hq : q < pTX.length := by
      have := (List.getElem?_eq_some_iff.mp hw).1
      rw [pST_len] at this
      rw [pTX_len]; exact this
    show vk_R _ _ _ (if 8 + q < 7 then _ else if 8 + q = 7 then _ else _) s
    rw [if_neg (by omega), if_neg (by omega), show 8 + q - 8 = q by omega]
    exact (haT q w _ hw (List.getElem?_eq_getElem hq)).1
  · exact vx_Zqof (hts _ z3) (hts _ z5) (hnar _ z1) hA
  · exact vx_Zqof (hts _ z4) (hts _ z5) (hnar _ z2) hA
  · intro x y a' b' hx hy hne
    have hmx : (a', x) ∈ pXN.zipIdx := List.mem_of_getElem? (i := x) (by rw [List.getElem?_zipIdx, hx]; simp)
    have hmy : (b', y) ∈ pXN.zipIdx := List.mem_of_getElem? (i := y) (by rw [List.getElem?_zipIdx, hy]; simp)
    have h1 := List.all_eq_true.mp (List.all_eq_true.mp nX _ hmx) _ hmy
    rw [Bool.or_eq_true, beq_iff_eq, decide_eq_true_eq] at h1
    rcases h1 with h1 | h1
    · exact absurd h1 hne
    · exact va_Nc.of (hnar _ h1)
  · intro w hw
    have h2 : isBad w = true := (List.mem_filter.mp hw).2
    have h1 := hts w (List.mem_filter.mp hw).1
    refine va_Nw.of ?_ h1
    unfold isBad at h2
    split at h2
    · rfl
    · rfl
    · cases h2
  · intro q t ht
    have hq : q < pST.length := by
      have := (List.getElem?_eq_some_iff.mp ht).1
      rw [pTX_len] at this
      rw [pST_len]; exact this
    have h1 := haT q _ t (List.getElem?_eq_getElem hq) ht
    show va_O _ (if 8 + q < 7 then _ else if 8 + q = 7 then _ else _) _ _ _ ∧ va_OF _ _ _ _ (if 8 + q < 7 then _ else if 8 + q = 7 then _ else _) _ _ _ ∧ va_OF _ _ _ _ (if 8 + q < 7 then _ else if 8 + q = 7 then _ else _) _ _ _ ∧ _
    rw [if_neg (by omega), if_neg (by omega), show 8 + q - 8 = q by omega]
    exact h1.2
  · exact va_Zof (hts _ z7) (hts _ z8) (va_eqt (hnar _ z6)) hA
  · exact va_Zqof (hts _ z10) (hts _ z11) (hnar _ z9) hA
