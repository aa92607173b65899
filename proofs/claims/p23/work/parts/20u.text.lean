/-! charAt() of the texts -/
theorem dT_pc_0 : decode cJ3_checkIndex_8e157 0 = .ok (.iload_n 0, 1) := by decide +kernel
theorem dT_pc_1 : decode cJ3_checkIndex_8e157 1 = .ok (.ifCond .lt 8, 3) := by decide +kernel
theorem dT_pc_4 : decode cJ3_checkIndex_8e157 4 = .ok (.iload_n 0, 1) := by decide +kernel
theorem dT_pc_5 : decode cJ3_checkIndex_8e157 5 = .ok (.iload_n 1, 1) := by decide +kernel
theorem dT_pc_6 : decode cJ3_checkIndex_8e157 6 = .ok (.if_icmp .lt 10, 3) := by decide +kernel
theorem dT_pc_16 : decode cJ3_checkIndex_8e157 16 = .ok (.iload_n 0, 1) := by decide +kernel
theorem dT_pc_17 : decode cJ3_checkIndex_8e157 17 = .ok (.ireturn, 1) := by decide +kernel
theorem dT_ci_0 : decode cJ0_checkIndex_df160 0 = .ok (.iload_n 0, 1) := by decide +kernel
theorem dT_ci_1 : decode cJ0_checkIndex_df160 1 = .ok (.iload_n 1, 1) := by decide +kernel
theorem dT_ci_2 : decode cJ0_checkIndex_df160 2 = .ok (.getstatic 1053, 3) := by decide +kernel
theorem dT_ci_5 : decode cJ0_checkIndex_df160 5 = .ok (.invokestatic 1059, 3) := by decide +kernel
theorem dT_ci_8 : decode cJ0_checkIndex_df160 8 = .ok (.pop, 1) := by decide +kernel
theorem dT_ci_9 : decode cJ0_checkIndex_df160 9 = .ok (.return_, 1) := by decide +kernel
theorem dT_lc_0 : decode cJ1_charAt_3b067 0 = .ok (.iload_n 1, 1) := by decide +kernel
theorem dT_lc_1 : decode cJ1_charAt_3b067 1 = .ok (.aload_n 0, 1) := by decide +kernel
theorem dT_lc_2 : decode cJ1_charAt_3b067 2 = .ok (.arraylength, 1) := by decide +kernel
theorem dT_lc_3 : decode cJ1_charAt_3b067 3 = .ok (.invokestatic 9, 3) := by decide +kernel
theorem dT_lc_6 : decode cJ1_charAt_3b067 6 = .ok (.aload_n 0, 1) := by decide +kernel
theorem dT_lc_7 : decode cJ1_charAt_3b067 7 = .ok (.iload_n 1, 1) := by decide +kernel
theorem dT_lc_8 : decode cJ1_charAt_3b067 8 = .ok (.baload, 1) := by decide +kernel
theorem dT_lc_9 : decode cJ1_charAt_3b067 9 = .ok (.sipush 255, 3) := by decide +kernel
theorem dT_lc_12 : decode cJ1_charAt_3b067 12 = .ok (.iand, 1) := by decide +kernel
theorem dT_lc_13 : decode cJ1_charAt_3b067 13 = .ok (.i2c, 1) := by decide +kernel
theorem dT_lc_14 : decode cJ1_charAt_3b067 14 = .ok (.ireturn, 1) := by decide +kernel
theorem dT_ch_0 : decode cJ0_charAt_5068e 0 = .ok (.aload_n 0, 1) := by decide +kernel
theorem dT_ch_1 : decode cJ0_charAt_5068e 1 = .ok (.invokevirtual 492, 3) := by decide +kernel
theorem dT_ch_4 : decode cJ0_charAt_5068e 4 = .ok (.ifCond .eq 12, 3) := by decide +kernel
theorem dT_ch_7 : decode cJ0_charAt_5068e 7 = .ok (.aload_n 0, 1) := by decide +kernel
theorem dT_ch_8 : decode cJ0_charAt_5068e 8 = .ok (.getfield 9, 3) := by decide +kernel
theorem dT_ch_11 : decode cJ0_charAt_5068e 11 = .ok (.iload_n 1, 1) := by decide +kernel
theorem dT_ch_12 : decode cJ0_charAt_5068e 12 = .ok (.invokestatic 495, 3) := by decide +kernel
theorem dT_ch_15 : decode cJ0_charAt_5068e 15 = .ok (.ireturn, 1) := by decide +kernel
theorem kU_1 : Cond.fieldLink RJ0 1053 RJ3 "SIOOBE_FORMATTER" "Ljava/util/function/BiFunction;" ∈ pW0 := pW0_lit (by decide +kernel)
theorem kU_2 : ∀ w ∈ va_wsS RJ0 1059 yJ3_checkIndex_8e157 (wsT yJ3_checkIndex_8e157 cJ3_checkIndex_8e157 3 (some .int)), w ∈ pW0 := by
  intro w hw
  unfold va_wsS at hw
  rcases List.mem_append.mp hw with h | h
  · simp only [List.mem_cons, List.not_mem_nil, or_false] at h
    rcases h with rfl | rfl | rfl
    · exact pW0_lit (by decide +kernel)
    · exact pW0_lit (by decide +kernel)
    · exact pW0_lit (by decide +kernel)
  · exact goodT (by decide +kernel) w h
theorem kU_3 : ∀ w ∈ va_wsS RJ1 9 yJ0_checkIndex_df160 (wsT yJ0_checkIndex_df160 cJ0_checkIndex_df160 2 none), w ∈ pW0 := by
  intro w hw
  unfold va_wsS at hw
  rcases List.mem_append.mp hw with h | h
  · simp only [List.mem_cons, List.not_mem_nil, or_false] at h
    rcases h with rfl | rfl | rfl
    · exact pW0_lit (by decide +kernel)
    · exact pW0_lit (by decide +kernel)
    · exact pW0_lit (by decide +kernel)
  · exact goodT (by decide +kernel) w h
theorem kU_4 : ∀ w ∈ va_wsS RJ0 495 yJ1_charAt_3b067 (wsT yJ1_charAt_3b067 cJ1_charAt_3b067 2 (some .char)), w ∈ pW0 := by
  intro w hw
  unfold va_wsS at hw
  rcases List.mem_append.mp hw with h | h
  · simp only [List.mem_cons, List.not_mem_nil, or_false] at h
    rcases h with rfl | rfl | rfl
    · exact pW0_lit (by decide +kernel)
    · exact pW0_lit (by decide +kernel)
    · exact pW0_lit (by decide +kernel)
  · exact goodT (by decide +kernel) w h
theorem kU_5 : ∀ w ∈ wsV RJ0 492 RJ0 yJ0_isLatin1_aae02 (wsT yJ0_isLatin1_aae02 cJ0_isLatin1_aae02 1 (some .boolean)), w ∈ pW0 := by
  intro w hw
  unfold wsV at hw
  rcases List.mem_append.mp hw with h | h
  · simp only [List.mem_cons, List.not_mem_nil, or_false] at h
    rcases h with rfl | rfl | rfl | rfl
    · exact pW0_lit (by decide +kernel)
    · exact pW0_lit (by decide +kernel)
    · exact pW0_lit (by decide +kernel)
    · exact pW0_lit (by decide +kernel)
  · exact goodT (by decide +kernel) w h
theorem pTs_pre {s : State} {a v : Nat} {t : List Nat} {sz : Nat} {H : Heap} (hT : pTs a v t sz s) (hH : H = s.heap) (avs : List Value) : ∀ U : State, U.heap = H → s.WarmedH U.vm → va_Pc avs (pTs a v t sz) avs.toArray U := fun U hU hW => ⟨rfl, hT.go hW.alike (hU.trans hH)⟩
set_option maxHeartbeats 4000000 in
theorem mT_pc (l : Launch) (a v : Nat) (t : List Nat) (sz : Nat) (fv : Value) (hfv : fv = .null ∨ ∃ z, fv = .ref z) (i n : Int32) (h0 : ¬ i < 0) (hn : i < n) : Met l yJ3_checkIndex_8e157 (wsT yJ3_checkIndex_8e157 cJ3_checkIndex_8e157 3 (some .int)) (rmT 0) (va_Pc [.int i, .int n, fv] (pTs a v t sz)) (pQk (some (.int i))) 0 0 (fun _ => False) := by
  refine Met.ofW (cc := cJ3_checkIndex_8e157) (maxL := 3) (ret := some .int) (by decide) rfl ?_
  intro p e s m args below meth c s₁ B hml hv
  obtain ⟨rfl, hT⟩ := hv
  have hx := B.exec
  have hb := B.bytes
  have hlocks := B.notSynchronized
  have hcat : fv.category = 1 := by rcases hfv with rfl | ⟨z, rfl⟩ <;> rfl
  have hlg : (lg_sl ([.int i, .int n, fv])).length ≤ 3 := by
    rcases hfv with rfl | ⟨z, rfl⟩ <;> exact Nat.le_of_ble_eq_true rfl
  have hl := lv_entry ([.int i, .int n, fv]) (n := 3) hlg
  rw [lg_entry_eq]
  generalize (lg_sl ([.int i, .int n, fv]) ++ List.replicate (3 - (lg_sl ([.int i, .int n, fv])).length) Slot.unset).toArray = ls at hl ⊢
  have hl : lv_has ls 3 [(0, .int i), (1, .int n), (2, fv)] := hl
  refine lv_iload_n hx hb dT_pc_0 rfl (lv_at hl 0 rfl) ?_
  refine lv_if_lt hx hb dT_pc_1 (tgt := 9) (by decide) (fun h => absurd h h0) (fun _ => ?_)
  refine lv_iload_n hx hb dT_pc_4 rfl (lv_at hl 0 rfl) ?_
  refine lv_iload_n hx hb dT_pc_5 rfl (lv_at hl 1 rfl) ?_
  refine lv_icmp_lt hx hb dT_pc_6 (tgt := 16) (by decide) (fun _ => ?_) (fun h => absurd hn h)
  refine lv_iload_n hx hb dT_pc_16 rfl (lv_at hl 0 rfl) ?_
  exact W.iret hx hb B.returns (fun t ht hW => ⟨rfl, ht⟩) (fun q h => by cases h) dT_pc_17 hlocks
set_option maxHeartbeats 4000000 in
theorem mT_ci (l : Launch) (a v : Nat) (t : List Nat) (sz : Nat) (i n : Int32) (h0 : ¬ i < 0) (hn : i < n) : Met l yJ0_checkIndex_df160 (wsT yJ0_checkIndex_df160 cJ0_checkIndex_df160 2 none) (rmT 1) (va_Pc [.int i, .int n] (pTs a v t sz)) (pQk none) 0 0 (fun _ => False) := by
  refine Met.ofW (cc := cJ0_checkIndex_df160) (maxL := 2) (ret := none) (by decide) rfl ?_
  intro p e s m args below meth c s₁ B hml hv
  obtain ⟨rfl, hT⟩ := hv
  obtain ⟨hsz, h1, h2, h3, h4, h5, h6⟩ := id hT
  have hx := B.exec
  have hb := B.bytes
  have hts := atoms_spec (ws := wsT yJ0_checkIndex_df160 cJ0_checkIndex_df160 2 none) B.pre
  have hts0 : ∀ w ∈ pW0, w.before (([Value.int i, .int n] : List Value).toArray) s = true := fun w hw => hts w (List.mem_cons_of_mem _ hw)
  have hown : s.vm.findClass RJ0 = some m.cls := findClass_of_methodNamed B.named
  have hlocks := B.notSynchronized
  have hS : va_S (fun q => sz ≤ q) s.heap s.heap [] := va_S.rf
  have hl := lv_entry ([.int i, .int n]) (n := 2) (Nat.le_of_ble_eq_true rfl)
  rw [lg_entry_eq]
  generalize (lg_sl ([.int i, .int n]) ++ List.replicate (2 - (lg_sl ([.int i, .int n])).length) Slot.unset).toArray = ls at hl ⊢
  have hl : lv_has ls 2 [(0, .int i), (1, .int n)] := hl
  refine lv_iload_n hx hb dT_ci_0 rfl (lv_at hl 0 rfl) ?_
  refine lv_iload_n hx hb dT_ci_1 rfl (lv_at hl 1 rfl) ?_
  have key : ∀ fv : Value, (fv = .null ∨ ∃ z, fv = .ref z) → W p l e (rmT 1) s m (([Value.int i, .int n] : List Value).toArray) below meth c s.heap [] 0 0 (MQ below (pQk none) (([Value.int i, .int n] : List Value).toArray) s 0 0 (fun _ => False)) (F0 m 5 ls [fv, .int n, .int i]) := by
    intro fv hfv
    refine p_call (va_runS (n := 3) (As := [.int i, .int n, fv]) (rest := []) ⟨hx, hb, hml, hown, hts0⟩ (mT_pc l a v t sz fv hfv i n h0 hn) (va_cwS 3 hts0 (goodIn_W0 kU_2) rfl rfl rfl ⟨by decide, by decide, by decide +kernel⟩ ⟨by decide, by decide⟩) ⟨pTs_blind, pTs_pre hT rfl _⟩ rfl rfl hl.1 rfl (by show 2 * 0 + 0 ≤ 8; omega) dT_ci_5 ⟨Nat.le_refl _, Nat.le_refl _⟩) ?_
    intro v' st₀ t' H1 L h0 e1 hW hq hL
    obtain ⟨q1, q2⟩ := hq
    cases q1
    refine lv_pop hx hb (va := .int i) dT_ci_8 rfl ?_
    exact W.vret hx hb B.returns (fun t ht hW => ⟨rfl, by rw [ht, ← e1, q2, h0]⟩) (fun q h => by
      rcases List.mem_append.mp h with h | h
      · cases h
      · exact (hL q h).elim) dT_ci_9 hlocks
  rcases h6 with h6 | ⟨z, h6⟩
  · exact va_gets hx hb h6 hS hown (hts0 _ kU_1) (fun x h => h) dT_ci_2 (key .null (Or.inl rfl))
  · exact va_gets hx hb h6 hS hown (hts0 _ kU_1) (fun x h => h) dT_ci_2 (key (.ref z) (Or.inr ⟨z, rfl⟩))
theorem pTX_small : pTX.all (fun t => t.all (fun x => decide (x < 128)) && decide (t.length < 1000)) = true := by decide +kernel
theorem byte_char : ∀ x, x < 128 → (((nI x) &&& (Int16.ofInt 255).toInt32).toUInt32 % 65536).toInt32 = nI x ∧ narrow .char (.int (nI x)) = .int (nI x) := by decide +kernel
set_option maxHeartbeats 4000000 in
theorem mT_lc (l : Launch) (a v : Nat) (t : List Nat) (sz : Nat) (ht31 : t.length < 2 ^ 31) (i : Nat) (hi : i < t.length) (hx128 : t.getD i 0 < 128) : Met l yJ1_charAt_3b067 (wsT yJ1_charAt_3b067 cJ1_charAt_3b067 2 (some .char)) (rmT 2) (va_Pc [.ref v, .int (nI i)] (pTs a v t sz)) (pQk (some (.int (nI (t.getD i 0))))) 0 0 (fun _ => False) := by
  refine Met.ofW (cc := cJ1_charAt_3b067) (maxL := 2) (ret := some .char) (by decide) rfl ?_
  intro p e s m args below meth c s₁ B hml hv
  obtain ⟨rfl, hT⟩ := hv
  obtain ⟨hsz, h1, h2, h3, h4, h5, h6⟩ := id hT
  have hx := B.exec
  have hb := B.bytes
  have hts := atoms_spec (ws := wsT yJ1_charAt_3b067 cJ1_charAt_3b067 2 (some .char)) B.pre
  have hts0 : ∀ w ∈ pW0, w.before (([Value.ref v, .int (nI i)] : List Value).toArray) s = true := fun w hw => hts w (List.mem_cons_of_mem _ hw)
  have hown : s.vm.findClass RJ1 = some m.cls := findClass_of_methodNamed B.named
  have hlocks := B.notSynchronized
  have hS : va_S (fun q => sz ≤ q) s.heap s.heap [] := va_S.rf
  have hl := lv_entry ([.ref v, .int (nI i)]) (n := 2) (Nat.le_of_ble_eq_true rfl)
  rw [lg_entry_eq]
  generalize (lg_sl ([.ref v, .int (nI i)]) ++ List.replicate (2 - (lg_sl ([.ref v, .int (nI i)])).length) Slot.unset).toArray = ls at hl ⊢
  have hl : lv_has ls 2 [(0, .ref v), (1, .int (nI i))] := hl
  refine lv_iload_n hx hb dT_lc_0 rfl (lv_at hl 1 rfl) ?_
  refine lv_aload_n hx hb dT_lc_1 rfl (lv_at hl 0 rfl) ?_
  refine va_tlen hx hb h4 hS (v := nI t.length) rfl dT_lc_2 ?_
  refine p_call (va_runS (n := 2) (As := [.int (nI i), .int (nI t.length)]) (rest := []) ⟨hx, hb, hml, hown, hts0⟩ (mT_ci l a v t sz (nI i) (nI t.length) (nI_pos (by omega)) (nI_lt hi ht31)) (va_cwS 2 hts0 (goodIn_W0 kU_3) rfl rfl rfl ⟨by decide, by decide, by decide +kernel⟩ ⟨by decide, by decide⟩) ⟨pTs_blind, pTs_pre hT rfl _⟩ rfl rfl hl.1 rfl (by show 2 * 0 + 0 ≤ 8; omega) dT_lc_3 ⟨Nat.le_refl _, Nat.le_refl _⟩) ?_
  intro v' st₀ t' H1 L h0 e1 hW hq hL
  obtain ⟨q1, q2⟩ := hq
  cases q1
  have hH1 : H1 = s.heap := by rw [← e1, q2, h0]
  subst hH1
  have hL0 : L = [] := by
    cases L with
    | nil => rfl
    | cons x r => exact (hL x List.mem_cons_self).elim
  subst hL0
  refine lv_aload_n hx hb dT_lc_6 rfl (lv_at hl 0 rfl) ?_
  refine lv_iload_n hx hb dT_lc_7 rfl (lv_at hl 1 rfl) ?_
  refine va_tb hx hb h4 hS (vp_in_nI hi ht31) (v := .int (nI (t.getD i 0))) (by rw [nI_clamp (by omega)]) dT_lc_8 ?_
  refine lv_sipush hx hb (v := (Int16.ofInt 255).toInt32) dT_lc_9 rfl ?_
  refine lv_iand hx hb dT_lc_12 ?_
  refine lv_i2c hx hb dT_lc_13 (byte_char _ hx128).1 ?_
  exact W.zret hx hb B.returns (byte_char _ hx128).2 (fun t ht hW => ⟨rfl, ht⟩) (fun q h => by cases h) dT_lc_14 hlocks
set_option maxHeartbeats 4000000 in
theorem mT_ch (l : Launch) (a v : Nat) (t : List Nat) (sz : Nat) (ht31 : t.length < 2 ^ 31) (i : Nat) (hi : i < t.length) (hx128 : t.getD i 0 < 128) : Met l yJ0_charAt_5068e (wsT yJ0_charAt_5068e cJ0_charAt_5068e 2 (some .char)) (rmT 3) (va_Pc [.ref a, .int (nI i)] (pTs a v t sz)) (pQk (some (.int (nI (t.getD i 0))))) 0 0 (fun _ => False) := by
  refine Met.ofW (cc := cJ0_charAt_5068e) (maxL := 2) (ret := some .char) (by decide) rfl ?_
  intro p e s m args below meth c s₁ B hml hv
  obtain ⟨rfl, hT⟩ := hv
  obtain ⟨hsz, h1, h2, h3, h4, h5, h6⟩ := id hT
  have hx := B.exec
  have hb := B.bytes
  have hts := atoms_spec (ws := wsT yJ0_charAt_5068e cJ0_charAt_5068e 2 (some .char)) B.pre
  have hts0 : ∀ w ∈ pW0, w.before (([Value.ref a, .int (nI i)] : List Value).toArray) s = true := fun w hw => hts w (List.mem_cons_of_mem _ hw)
  have hown : s.vm.findClass RJ0 = some m.cls := findClass_of_methodNamed B.named
  have hlocks := B.notSynchronized
  have hS : va_S (fun q => sz ≤ q) s.heap s.heap [] := va_S.rf
  have hl := lv_entry ([.ref a, .int (nI i)]) (n := 2) (Nat.le_of_ble_eq_true rfl)
  rw [lg_entry_eq]
  generalize (lg_sl ([.ref a, .int (nI i)]) ++ List.replicate (2 - (lg_sl ([.ref a, .int (nI i)])).length) Slot.unset).toArray = ls at hl ⊢
  have hl : lv_has ls 2 [(0, .ref a), (1, .int (nI i))] := hl
  refine lv_aload_n hx hb dT_ch_0 rfl (lv_at hl 0 rfl) ?_
  refine p_call (va_runV (C := RJ0) (n := 0) (b := a) (As := []) (rest := []) ⟨hx, hb, hml, hown, hts0⟩ (mT_isL l a v t sz) (cwV 0 hts0 (goodIn_W0 kU_5) rfl rfl rfl ⟨rfl, by decide, by decide, by decide +kernel⟩ ⟨by decide, by decide⟩) ⟨pTs_blind, ?_, pTs_pre hT rfl _⟩ rfl rfl hl.1 rfl (by show 2 * 0 + 0 ≤ 8; omega) dT_ch_1 ⟨Nat.le_refl _, Nat.le_refl _⟩) ?_
  · obtain ⟨cell, g1, g2, g3, -⟩ := h1
    exact ⟨cell, g1, g2, g3⟩
  intro v' st₀ t' H1 L h0 e1 hW hq hL
  obtain ⟨q1, q2⟩ := hq
  cases q1
  have hH1 : H1 = s.heap := by rw [← e1, q2, h0]
  subst hH1
  have hL0 : L = [] := by
    cases L with
    | nil => rfl
    | cons x r => exact (hL x List.mem_cons_self).elim
  subst hL0
  refine lv_if_eq hx hb dT_ch_4 (tgt := 16) (by decide) (fun h => absurd h (by decide)) (fun _ => ?_)
  refine lv_aload_n hx hb dT_ch_7 rfl (lv_at hl 0 rfl) ?_
  refine vk_getf hx hb h3 hS hown (hts0 _ kT_3) (fun x h => h) dT_ch_8 ?_
  refine lv_iload_n hx hb dT_ch_11 rfl (lv_at hl 1 rfl) ?_
  refine p_call (va_runS (n := 2) (As := [.ref v, .int (nI i)]) (rest := []) ⟨hx, hb, hml, hown, hts0⟩ (mT_lc l a v t sz ht31 i hi hx128) (va_cwS 2 hts0 (goodIn_W0 kU_4) rfl rfl rfl ⟨by decide, by decide, by decide +kernel⟩ ⟨by decide, by decide⟩) ⟨pTs_blind, pTs_pre hT rfl _⟩ rfl rfl hl.1 rfl (by show 2 * 0 + 0 ≤ 8; omega) dT_ch_12 ⟨Nat.le_refl _, Nat.le_refl _⟩) ?_
  intro v2 st2 t2 H2 L2 h02 e12 hW2 hq2 hL2
  obtain ⟨q12, q22⟩ := hq2
  cases q12
  exact W.zret hx hb B.returns (byte_char _ hx128).2 (fun t ht hW => ⟨rfl, by rw [ht, ← e12, q22, h02]⟩) (fun q h => by
    rcases List.mem_append.mp h with h | h
    · cases h
    · exact (hL2 q h).elim) dT_ch_15 hlocks
