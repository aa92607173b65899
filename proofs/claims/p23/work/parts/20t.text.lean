/-! length() and charAt() of the texts: the JDK's own methods over what was there before -/
def pTs (a v : Nat) (t : List Nat) (sz : Nat) (U : State) : Prop := U.heap.size = sz ∧ va_O "java/lang/String" a (fun q => sz ≤ q) U U.heap ∧ va_OF "java/lang/String" "coder" "B" (.int 0) a (fun q => sz ≤ q) U U.heap ∧ va_OF "java/lang/String" "value" "[B" (.ref v) a (fun q => sz ≤ q) U U.heap ∧ va_T .byte v t.length (fun j => .int (nI (t.getD j 0))) (fun q => sz ≤ q) U U.heap ∧
  va_Z "java/lang/String" "COMPACT_STRINGS" "Z" (.int 1) (fun q => sz ≤ q) U U.heap ∧ va_Zq "jdk/internal/util/Preconditions" "SIOOBE_FORMATTER" "Ljava/util/function/BiFunction;" (fun q => sz ≤ q) U U.heap
theorem pTs.go {a v : Nat} {t : List Nat} {sz : Nat} {s U : State} (h : pTs a v t sz s) (hW : s.vm.Alike U.vm) (hh : U.heap = s.heap) : pTs a v t sz U := by
  obtain ⟨h0, h1, h2, h3, h4, h5, h6⟩ := h
  refine ⟨by rw [hh]; exact h0, ?_⟩
  rw [hh]
  exact ⟨h1.moved hW, h2.moved hW, h3.moved hW, h4.moved hW, h5.moved hW, h6.moved hW⟩
theorem pTs_blind {avs : List Value} {a v : Nat} {t : List Nat} {sz : Nat} : FrameBlind (va_Pc avs (pTs a v t sz)) := by
  intro x U g mk hp
  exact ⟨hp.1, hp.2.go (U := U.calling g mk x) (State.WarmedH.refl U).alike rfl⟩
def pQk (r : Option Value) : Array Value → State → Outcome → State → Prop := fun _ st oc t => oc = .returned r ∧ t.heap = st.heap
def rmT (k : Nat) : Room := { frames := k, cells := 0, slots := 0, locals := 40 * k }
abbrev wsT (y : MethodName) (cc : ByteArray) (n : Nat) (r : Option FieldType) : List Cond := Cond.code y cc n r :: pW0
theorem goodT {y : MethodName} {cc : ByteArray} {n : Nat} {r : Option FieldType} (h : (decide (Cond.code y cc n r ∈ lw_tbl) && goodWord (Cond.code y cc n r)) = true) : ∀ w ∈ wsT y cc n r, w ∈ pW0 := by
  intro w hw
  rcases List.mem_cons.mp hw with rfl | hw
  · exact pW0_lit h
  · exact hw
theorem dT_coder_0 : decode cJ0_coder_7d493 0 = .ok (.getstatic 38, 3) := by decide +kernel
theorem dT_coder_3 : decode cJ0_coder_7d493 3 = .ok (.ifCond .eq 10, 3) := by decide +kernel
theorem dT_coder_6 : decode cJ0_coder_7d493 6 = .ok (.aload_n 0, 1) := by decide +kernel
theorem dT_coder_7 : decode cJ0_coder_7d493 7 = .ok (.getfield 15, 3) := by decide +kernel
theorem dT_coder_10 : decode cJ0_coder_7d493 10 = .ok (.goto 4, 3) := by decide +kernel
theorem dT_coder_14 : decode cJ0_coder_7d493 14 = .ok (.ireturn, 1) := by decide +kernel
theorem dT_isL_0 : decode cJ0_isLatin1_aae02 0 = .ok (.getstatic 38, 3) := by decide +kernel
theorem dT_isL_3 : decode cJ0_isLatin1_aae02 3 = .ok (.ifCond .eq 14, 3) := by decide +kernel
theorem dT_isL_6 : decode cJ0_isLatin1_aae02 6 = .ok (.aload_n 0, 1) := by decide +kernel
theorem dT_isL_7 : decode cJ0_isLatin1_aae02 7 = .ok (.getfield 15, 3) := by decide +kernel
theorem dT_isL_10 : decode cJ0_isLatin1_aae02 10 = .ok (.ifCond .ne 7, 3) := by decide +kernel
theorem dT_isL_13 : decode cJ0_isLatin1_aae02 13 = .ok (.iconst 1, 1) := by decide +kernel
theorem dT_isL_14 : decode cJ0_isLatin1_aae02 14 = .ok (.goto 4, 3) := by decide +kernel
theorem dT_isL_18 : decode cJ0_isLatin1_aae02 18 = .ok (.ireturn, 1) := by decide +kernel
theorem dT_len_0 : decode cJ0_length_8abf5 0 = .ok (.aload_n 0, 1) := by decide +kernel
theorem dT_len_1 : decode cJ0_length_8abf5 1 = .ok (.getfield 9, 3) := by decide +kernel
theorem dT_len_4 : decode cJ0_length_8abf5 4 = .ok (.arraylength, 1) := by decide +kernel
theorem dT_len_5 : decode cJ0_length_8abf5 5 = .ok (.aload_n 0, 1) := by decide +kernel
theorem dT_len_6 : decode cJ0_length_8abf5 6 = .ok (.invokevirtual 335, 3) := by decide +kernel
theorem dT_len_9 : decode cJ0_length_8abf5 9 = .ok (.ishr, 1) := by decide +kernel
theorem dT_len_10 : decode cJ0_length_8abf5 10 = .ok (.ireturn, 1) := by decide +kernel
theorem kT_1 : Cond.fieldLink RJ0 38 RJ0 "COMPACT_STRINGS" "Z" ∈ pW0 := pW0_lit (by decide +kernel)
theorem kT_2 : Cond.fieldLink RJ0 15 RJ0 "coder" "B" ∈ pW0 := pW0_lit (by decide +kernel)
theorem kT_3 : Cond.fieldLink RJ0 9 RJ0 "value" "[B" ∈ pW0 := pW0_lit (by decide +kernel)
theorem kT_4 : ∀ w ∈ wsV RJ0 335 RJ0 yJ0_coder_7d493 (wsT yJ0_coder_7d493 cJ0_coder_7d493 1 (some .byte)), w ∈ pW0 := by
  intro w hw
  unfold wsV at hw
  rcases List.mem_append.mp hw with h | h
  · simp only [List.mem_cons, List.not_mem_nil, or_false] at h
    rcases h with rfl | rfl | rfl | rfl
    · exact pW0_lit (by decide +kernel)
    · exact pW0_lit (by decide +kernel)
    · exact pW0_lit (by decide +kernel)
    · exact pW0_lit (by decide +kernel)
  · exact goodT (by decide +kernel) w h
set_option maxHeartbeats 4000000 in
theorem mT_coder (l : Launch) (a v : Nat) (t : List Nat) (sz : Nat) : Met l yJ0_coder_7d493 (wsT yJ0_coder_7d493 cJ0_coder_7d493 1 (some .byte)) (rmT 0) (va_Pc [.ref a] (pTs a v t sz)) (pQk (some (.int 0))) 0 0 (fun _ => False) := by
  refine Met.ofW (cc := cJ0_coder_7d493) (maxL := 1) (ret := some .byte) (by decide) rfl ?_
  intro p e s m args below meth c s₁ B hml hv
  obtain ⟨rfl, hsz, h1, h2, h3, h4, h5, h6⟩ := hv
  have hx := B.exec
  have hb := B.bytes
  have hts := atoms_spec (ws := wsT yJ0_coder_7d493 cJ0_coder_7d493 1 (some .byte)) B.pre
  have hts0 : ∀ w ∈ pW0, w.before (([Value.ref a] : List Value).toArray) s = true := fun w hw => hts w (List.mem_cons_of_mem _ hw)
  have hown : s.vm.findClass RJ0 = some m.cls := findClass_of_methodNamed B.named
  have hlocks := B.notSynchronized
  have hS : va_S (fun q => sz ≤ q) s.heap s.heap [] := va_S.rf
  have hl := lv_entry ([.ref a]) (n := 1) (Nat.le_of_ble_eq_true rfl)
  rw [lg_entry_eq]
  generalize (lg_sl ([.ref a]) ++ List.replicate (1 - (lg_sl ([.ref a])).length) Slot.unset).toArray = ls at hl ⊢
  have hl : lv_has ls 1 [(0, .ref a)] := hl
  refine va_gets hx hb h5 hS hown (hts0 _ kT_1) (fun x h => h) dT_coder_0 ?_
  refine lv_if_eq hx hb dT_coder_3 (tgt := 13) (by decide) (fun h => absurd h (by decide)) (fun _ => ?_)
  refine lv_aload_n hx hb dT_coder_6 rfl (lv_at hl 0 rfl) ?_
  refine vk_getf hx hb h2 hS hown (hts0 _ kT_2) (fun x h => h) dT_coder_7 ?_
  refine lv_goto hx hb dT_coder_10 (tgt := 14) (by decide) ?_
  exact W.zret hx hb B.returns rfl (fun t ht hW => ⟨rfl, ht⟩) (fun q h => by cases h) dT_coder_14 hlocks
set_option maxHeartbeats 4000000 in
theorem mT_isL (l : Launch) (a v : Nat) (t : List Nat) (sz : Nat) : Met l yJ0_isLatin1_aae02 (wsT yJ0_isLatin1_aae02 cJ0_isLatin1_aae02 1 (some .boolean)) (rmT 0) (va_Pc [.ref a] (pTs a v t sz)) (pQk (some (.int 1))) 0 0 (fun _ => False) := by
  refine Met.ofW (cc := cJ0_isLatin1_aae02) (maxL := 1) (ret := some .boolean) (by decide) rfl ?_
  intro p e s m args below meth c s₁ B hml hv
  obtain ⟨rfl, hsz, h1, h2, h3, h4, h5, h6⟩ := hv
  have hx := B.exec
  have hb := B.bytes
  have hts := atoms_spec (ws := wsT yJ0_isLatin1_aae02 cJ0_isLatin1_aae02 1 (some .boolean)) B.pre
  have hts0 : ∀ w ∈ pW0, w.before (([Value.ref a] : List Value).toArray) s = true := fun w hw => hts w (List.mem_cons_of_mem _ hw)
  have hown : s.vm.findClass RJ0 = some m.cls := findClass_of_methodNamed B.named
  have hlocks := B.notSynchronized
  have hS : va_S (fun q => sz ≤ q) s.heap s.heap [] := va_S.rf
  have hl := lv_entry ([.ref a]) (n := 1) (Nat.le_of_ble_eq_true rfl)
  rw [lg_entry_eq]
  generalize (lg_sl ([.ref a]) ++ List.replicate (1 - (lg_sl ([.ref a])).length) Slot.unset).toArray = ls at hl ⊢
  have hl : lv_has ls 1 [(0, .ref a)] := hl
  refine va_gets hx hb h5 hS hown (hts0 _ kT_1) (fun x h => h) dT_isL_0 ?_
  refine lv_if_eq hx hb dT_isL_3 (tgt := 17) (by decide) (fun h => absurd h (by decide)) (fun _ => ?_)
  refine lv_aload_n hx hb dT_isL_6 rfl (lv_at hl 0 rfl) ?_
  refine vk_getf hx hb h2 hS hown (hts0 _ kT_2) (fun x h => h) dT_isL_7 ?_
  refine lv_if_ne hx hb dT_isL_10 (tgt := 17) (by decide) (fun h => absurd rfl h) (fun _ => ?_)
  refine lv_iconst hx hb (v := 1) dT_isL_13 rfl ?_
  refine lv_goto hx hb dT_isL_14 (tgt := 18) (by decide) ?_
  exact W.zret hx hb B.returns rfl (fun t ht hW => ⟨rfl, ht⟩) (fun q h => by cases h) dT_isL_18 hlocks
set_option maxHeartbeats 4000000 in
theorem mT_len (l : Launch) (a v : Nat) (t : List Nat) (sz : Nat) (ht31 : t.length < 2 ^ 31) : Met l yJ0_length_8abf5 (wsT yJ0_length_8abf5 cJ0_length_8abf5 1 (some .int)) (rmT 1) (va_Pc [.ref a] (pTs a v t sz)) (pQk (some (.int (nI t.length)))) 0 0 (fun _ => False) := by
  refine Met.ofW (cc := cJ0_length_8abf5) (maxL := 1) (ret := some .int) (by decide) rfl ?_
  intro p e s m args below meth c s₁ B hml hv
  obtain ⟨rfl, hT⟩ := hv
  obtain ⟨hsz, h1, h2, h3, h4, h5, h6⟩ := id hT
  have hx := B.exec
  have hb := B.bytes
  have hts := atoms_spec (ws := wsT yJ0_length_8abf5 cJ0_length_8abf5 1 (some .int)) B.pre
  have hts0 : ∀ w ∈ pW0, w.before (([Value.ref a] : List Value).toArray) s = true := fun w hw => hts w (List.mem_cons_of_mem _ hw)
  have hown : s.vm.findClass RJ0 = some m.cls := findClass_of_methodNamed B.named
  have hlocks := B.notSynchronized
  have hS : va_S (fun q => sz ≤ q) s.heap s.heap [] := va_S.rf
  have hl := lv_entry ([.ref a]) (n := 1) (Nat.le_of_ble_eq_true rfl)
  rw [lg_entry_eq]
  generalize (lg_sl ([.ref a]) ++ List.replicate (1 - (lg_sl ([.ref a])).length) Slot.unset).toArray = ls at hl ⊢
  have hl : lv_has ls 1 [(0, .ref a)] := hl
  refine lv_aload_n hx hb dT_len_0 rfl (lv_at hl 0 rfl) ?_
  refine vk_getf hx hb h3 hS hown (hts0 _ kT_3) (fun x h => h) dT_len_1 ?_
  refine va_tlen hx hb h4 hS (v := nI t.length) rfl dT_len_4 ?_
  refine lv_aload_n hx hb dT_len_5 rfl (lv_at hl 0 rfl) ?_
  refine p_call (va_runV (C := RJ0) (n := 0) (b := a) (As := []) (rest := [.int (nI t.length)]) ⟨hx, hb, hml, hown, hts0⟩ (mT_coder l a v t sz) (cwV 0 hts0 (goodIn_W0 kT_4) rfl rfl rfl ⟨rfl, by decide, by decide, by decide +kernel⟩ ⟨by decide, by decide⟩) ⟨pTs_blind, ?_, fun U hU hW => ⟨rfl, hT.go hW.alike hU⟩⟩ rfl rfl hl.1 rfl (by show 2 * 0 + 1 ≤ 8; omega) dT_len_6 ⟨Nat.le_refl _, Nat.le_refl _⟩) ?_
  · obtain ⟨cell, g1, g2, g3, -⟩ := h1
    exact ⟨cell, g1, g2, g3⟩
  · intro v' st₀ t' H1 L h0 e1 hW hq hL
    obtain ⟨q1, q2⟩ := hq
    cases q1
    refine lv_ishr hx hb dT_len_9 ?_
    rw [sb_shr0]
    exact W.iret hx hb B.returns (fun t ht hW => ⟨rfl, by rw [ht, ← e1, q2, h0]⟩) (fun q h => by
      rcases List.mem_append.mp h with h | h
      · cases h
      · exact (hL q h).elim) dT_len_10 hlocks
