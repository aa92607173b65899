/-! image, back, put; the common part -/
theorem mIn_of {Mo : List aMod} {p kd lo hi i : Nat} (h : (p, kd, lo, hi) ∈ Mo) (h1 : lo ≤ i) (h2 : i < hi) : mIn Mo p kd i = true := by
  unfold mIn
  rw [List.any_eq_true]
  refine ⟨_, h, ?_⟩
  simp only [Bool.and_eq_true, beq_self_eq_true, true_and, Nat.ble_eq, Nat.blt_eq]
  exact ⟨h1, h2⟩
theorem tS80_start : ∀ s, s < 36 → tS80 (13 + s) = (-1, 9) := by decide +kernel
section
variable {O : pOut} {d kc ks : Nat} {Q : pRes → Prop} {es0 : PH} {Mo : List aMod}
theorem image_loop (hm1 : (81, 0, 0, 1284) ∈ Mo) (hm2 : (79, 5, 0, 1) ∈ Mo) (K : ∀ es', hOK tT es' → fr Mo es0 es' → (∀ i, i < 1284 → gA es' 81 i = gA es0 80 i) → gA es' 80 = gA es0 80 → Q (.inl none, es', kc, ks)) :
    ∀ (m : Nat) (k : Int) (es : PH), k + m = 1284 → 0 ≤ k → hOK tT es → fr Mo es0 es → (∀ i : Nat, (i : Int) < k → gA es 81 i = gA es0 80 i) → gA es 80 = gA es0 80 → aW O d 169 kc ks Q (7, [some (.ref 143), some (.int (zI k))], [], es) := by
  intro m
  induction m with
  | zero =>
    intro k es hk h0 hT hf h1 h2
    refine s_image7 (sh_of hT) ⟨h0, by omega⟩ (fun _ es2 he2 => ?_) (fun h => by omega)
    subst he2
    refine K _ (hOK_sI hT (p := 79) (b := 3) rfl rfl (by show (0 : Int) ≤ (zI 1).toInt ∧ (zI 1).toInt ≤ 1; decide)) (fr_trans hf (fr_sI (mIn_of hm2 (Nat.le_refl _) (by omega)))) (fun i hi => ?_) ?_
    · rw [gA_sI]; exact h1 i (by omega)
    · rw [gA_sI]; exact h2
  | succ m ih =>
    intro k es hk h0 hT hf h1 h2
    refine s_image7 (sh_of hT) ⟨h0, by omega⟩ (fun h => by omega) (fun _ v hv es4 he4 => ?_)
    have hzv : zI v = gA es 80 k.toNat := by rw [hv, zI_id]
    rw [hzv] at he4
    have hb := gA_bd hT (p := 80) (t := 0) (n := 2125) (sp := tS80) (k := k.toNat) rfl (by omega) (by decide)
    have hT4 : hOK tT es4 := by rw [he4]; exact hOK_sA hT (p := 81) (t := 0) (n := 1284) (sp := tS81) rfl (fun _ => hb)
    have hf4 : fr Mo es0 es4 := by rw [he4]; exact fr_trans hf (fr_sA (mIn_of hm1 (by omega) (by omega)))
    refine ih (k + 1) es4 (by omega) (by omega) hT4 hf4 (fun i hi => ?_) ?_
    · rw [he4, gA_sA (sh_of hT) (p := 81) (t := 0) (n := 1284) (sp := tS81) rfl (by decide)]
      unfold upd
      split
      · rename_i hik; rw [h2, hik]
      · exact h1 i (by omega)
    · rw [he4, gA_sA_ne (by decide)]; exact h2
theorem back_loop (hm1 : (80, 0, 0, 1284) ∈ Mo) (K : ∀ es', hOK tT es' → fr Mo es0 es' → (∀ i, i < 1284 → gA es' 80 i = gA es0 81 i) → gA es' 81 = gA es0 81 → Q (.inl (some (.int (zI 1))), es', kc, ks)) :
    ∀ (m : Nat) (k : Int) (es : PH), k + m = 1284 → 0 ≤ k → hOK tT es → fr Mo es0 es → (∀ i : Nat, (i : Int) < k → gA es 80 i = gA es0 81 i) → gA es 81 = gA es0 81 → aW O d 170 kc ks Q (16, [some (.ref 143), some (.int (zI k))], [], es) := by
  intro m
  induction m with
  | zero =>
    intro k es hk h0 hT hf h1 h2
    refine s_back16 (sh_of hT) ⟨h0, by omega⟩ (fun _ => ?_) (fun h => by omega)
    exact K _ hT hf (fun i hi => h1 i (by omega)) h2
  | succ m ih =>
    intro k es hk h0 hT hf h1 h2
    refine s_back16 (sh_of hT) ⟨h0, by omega⟩ (fun h => by omega) (fun _ v hv es4 he4 => ?_)
    have hzv : zI v = gA es 81 k.toNat := by rw [hv, zI_id]
    rw [hzv] at he4
    have hb := gA_bd hT (p := 81) (t := 0) (n := 1284) (sp := tS81) (k := k.toNat) rfl (by omega) (by decide)
    have hT4 : hOK tT es4 := by rw [he4]; exact hOK_sA hT (p := 80) (t := 0) (n := 2125) (sp := tS80) rfl (fun _ => hb)
    have hf4 : fr Mo es0 es4 := by rw [he4]; exact fr_trans hf (fr_sA (mIn_of hm1 (by omega) (by omega)))
    refine ih (k + 1) es4 (by omega) (by omega) hT4 hf4 (fun i hi => ?_) ?_
    · rw [he4, gA_sA (sh_of hT) (p := 80) (t := 0) (n := 2125) (sp := tS80) rfl (by decide)]
      unfold upd
      split
      · rename_i hik; rw [h2, hik]
      · exact h1 i (by omega)
    · rw [he4, gA_sA_ne (by decide)]; exact h2
end
theorem thr_sI {es : PH} (hT : hOK tT es) (a : Int32) : hOK tT (sI es 79 0 (.int a)) := hOK_sI hT (p := 79) (b := 0) (lo := iLO) (hi := iHI) rfl rfl (i32_rng _)
theorem gInv_len {es es' : PH} (h : fr [] es es' ∨ es.length ≤ es'.length) : es.length ≤ es'.length := by
  rcases h with h | h
  · exact h.1
  · exact h
theorem hm_image {O : pOut} : conOK O gG gInv kc_406 := by
  refine ⟨_, rfl, fun d hd ρ vs es hE hC hS hT hI hF => ?_⟩
  obtain ⟨v1, s', rfl, g1, g2⟩ := gS_cons hS
  cases gS_nil g2
  cases arg_r g1
  refine s_image0 (d := d) (kc := 0) (ks := 0) (sh_of hT) (fun es1 he1 => ?_)
  have hT1 : hOK tT es1 := by rw [he1]; exact thr_sI hT _
  have hf1 : fr kc_406.2.2.2.2.2.1 es es1 := by rw [he1]; exact fr_sI rfl
  have e80 : gA es1 80 = gA es 80 := by rw [he1, gA_sI]
  refine image_loop (Mo := kc_406.2.2.2.2.2.1) (es0 := es) (by decide) (by decide) (fun es' q1 q2 q3 q4 => ?_) 1284 0 es1 (by omega) (by omega) hT1 hf1 (fun i hi => by omega) e80
  refine post_void (c := kc_406) hE q1 ?_ q2 List.mem_cons_self (Nat.le_refl _) (Nat.le_refl _)
  obtain ⟨h1, h2, h3, h4, h5⟩ := hI
  refine ⟨Nat.le_trans h1 q2.1, by rw [q4]; exact h2, ?_, by rw [q4]; exact h4, ?_⟩
  · exact wfT_congr (fun i a b => q3 i (by omega)) h2
  · exact Or.inr (kcs_congr (q3 0 (by omega)) (fun i a b => q3 i (by omega)) h4)
theorem hm_back {O : pOut} : conOK O gG gInv kc_407 := by
  refine ⟨_, rfl, fun d hd ρ vs es hE hC hS hT hI hF => ?_⟩
  obtain ⟨v1, s', rfl, g1, g2⟩ := gS_cons hS
  cases gS_nil g2
  cases arg_r g1
  have cells : ∀ es1 : PH, es1 = sI es 79 0 (.int (zI 0)) → hOK tT es1 ∧ fr kc_407.2.2.2.2.2.1 es es1 ∧ gA es1 81 = gA es 81 ∧ gA es1 80 = gA es 80 := fun es1 he1 => by
    rw [he1]; exact ⟨thr_sI hT _, fr_sI rfl, gA_sI, gA_sI⟩
  refine s_back0 (d := d) (kc := 0) (ks := 0) (sh_of hT) (fun es1 he1 v hv hv0 => ?_) (fun es1 he1 v hv hv0 => ?_)
  · obtain ⟨hT1, hf1, e81, e80⟩ := cells es1 he1
    refine back_loop (Mo := kc_407.2.2.2.2.2.1) (es0 := es) (by decide) (fun es' q1 q2 q3 q4 => ?_) 1284 0 es1 (by omega) (by omega) hT1 hf1 (fun i hi => by omega) e81
    refine post_int (c := kc_407) (lo := 0) (hi := 1) hE q1 ?_ q2 List.mem_cons_self (by unfold i32 iLO iHI; omega) (by omega) (by omega) (Nat.le_refl _) (Nat.le_refl _)
    obtain ⟨h1, h2, h3, h4, h5⟩ := hI
    have h5' : kcs (gA es 81) := by
      rcases h5 with h | h
      · rw [he1, gI_sI_ne (Or.inr (by decide)), h] at hv
        exact absurd hv hv0
      · exact h
    refine ⟨Nat.le_trans h1 q2.1, ?_, by rw [q4]; exact h3, ?_, Or.inr (by rw [q4]; exact h5')⟩
    · exact wfT_congr (fun i a b => q3 i (by omega)) h3
    · exact kcs_congr (q3 0 (by omega)) (fun i a b => q3 i (by omega)) h5'
  · obtain ⟨hT1, hf1, e81, e80⟩ := cells es1 he1
    refine post_int (c := kc_407) (lo := 0) (hi := 1) hE hT1 ?_ hf1 List.mem_cons_self (by unfold i32 iLO iHI; omega) (by omega) (by omega) (Nat.le_refl _) (Nat.le_refl _)
    obtain ⟨h1, h2, h3, h4, h5⟩ := hI
    exact ⟨Nat.le_trans h1 hf1.1, by rw [e80]; exact h2, by rw [e81]; exact h3, by rw [e80]; exact h4, kci_congr (by rw [he1, gI_sI_ne (Or.inr (by decide))]) (fun h => by rw [e81]; exact h) h5⟩
theorem gS4 {ρ : List Int} {a b c e : aV} {st : List Value} (h : gS ρ [a, b, c, e] st) : ∃ v w x y, st = [v, w, x, y] ∧ gV ρ a v ∧ gV ρ b w ∧ gV ρ c x ∧ gV ρ e y := by
  obtain ⟨v, s, rfl, h1, h2⟩ := gS_cons h
  obtain ⟨w, x, y, rfl, h3, h4, h5⟩ := gS3 h2
  exact ⟨v, w, x, y, rfl, h1, h3, h4, h5⟩
theorem hm_put {O : pOut} : conOK O gG gInv kc_321 := by
  refine ⟨_, rfl, fun d hd ρ vs es hE hC hS hT hI hF => ?_⟩
  obtain ⟨v0, v1, v2, v3, rfl, g0, g1, g2, g3⟩ := gS4 hS
  cases arg_r g0
  obtain ⟨sq, rfl, i1, -, -, -⟩ := arg_i hE g1
  obtain ⟨kd, rfl, i2, -, -, -⟩ := arg_i hE g2
  obtain ⟨sd, rfl, i3, -, -, -⟩ := arg_i hE g3
  obtain ⟨d', rfl⟩ : ∃ d', d = d' + 3 := ⟨d - 3, by have : 3 ≤ d := hd; omega⟩
  have fin : ∀ es' : PH, hOK tT es' → fr kc_321.2.2.2.2.2.1 es es' → gInv es' → cPost O gG gInv kc_321 ρ es (.inl none, es', 0, 0) := fun es' h1 h2 h3 =>
    post_void (c := kc_321) hE h1 h3 h2 List.mem_cons_self (Nat.le_refl _) (Nat.le_refl _)
  -- only thrown changes
  have thr : ∀ a b : Int, cPost O gG gInv kc_321 ρ es (.inl none, sI (sI es 79 0 (.int (zI a))) 79 0 (.int (zI b)), 0, 0) := fun a b => by
    have hf : fr kc_321.2.2.2.2.2.1 es (sI (sI es 79 0 (.int (zI a))) 79 0 (.int (zI b))) := fr_trans (fr_sI rfl) (fr_sI rfl)
    refine fin _ (thr_sI (thr_sI hT _) _) hf (gInv_cells hf.1 (by rw [gI_sI_ne (Or.inr (by decide)), gI_sI_ne (Or.inr (by decide))]) (fun p i _ _ => by rw [gA_sI, gA_sI]) hI)
  -- a man is set
  have man : ∀ v : Int, 0 ≤ sq → sq ≤ 35 → -1 ≤ v → v ≤ 9 → ((gA es 80 0).toInt = 0 → v = -1) → cPost O gG gInv kc_321 ρ es (.inl none, sA (sI es 79 0 (.int (zI 0))) 80 (13 + sq).toNat (zI v), 0, 0) := fun v h1 h2 h3 h4 h5 => by
    have hk : (13 + sq).toNat = 13 + sq.toNat := by omega
    have hv : (zI v).toInt = v := zI_toInt (by unfold i32 iLO iHI; omega)
    have hf : fr kc_321.2.2.2.2.2.1 es (sA (sI es 79 0 (.int (zI 0))) 80 (13 + sq).toNat (zI v)) := fr_trans (fr_sI rfl) (fr_sA (mIn_of (lo := 13) (hi := 49) (by decide) (by omega) (by omega)))
    have hT1 := thr_sI hT (zI 0)
    have e80 : gA (sA (sI es 79 0 (.int (zI 0))) 80 (13 + sq).toNat (zI v)) 80 = upd (gA es 80) (13 + sq).toNat (zI v) := by
      rw [gA_sA (sh_of hT1) (p := 80) (t := 0) (n := 2125) (sp := tS80) rfl (by decide), gA_sI]
    have e81 : gA (sA (sI es 79 0 (.int (zI 0))) 80 (13 + sq).toNat (zI v)) 81 = gA es 81 := by rw [gA_sA_ne (by decide), gA_sI]
    obtain ⟨q1, q2, q3, q4, q5⟩ := hI
    refine fin _ (hOK_sA hT1 (p := 80) (t := 0) (n := 2125) (sp := tS80) rfl (fun _ => ?_)) hf ⟨Nat.le_trans q1 hf.1, ?_, by rw [e81]; exact q3, ?_, kci_congr (by rw [gI_sA, gI_sI_ne (Or.inr (by decide))]) (fun h => by rw [e81]; exact h) q5⟩
    · rw [hk, tS80_start _ (by omega), hv]; exact ⟨h3, h4⟩
    · rw [e80]
      exact wfT_congr (fun i a b => by unfold upd; rw [if_neg (by omega)]) q2
    · rw [e80]
      intro hz s hs
      unfold upd at hz ⊢
      rw [if_neg (by omega)] at hz
      split
      · rw [hv]; exact h5 hz
      · exact q4 hz s hs
  refine s_put (d := d') (kc := 0) (ks := 0) (sh_of hT) i1 i2 i3 hT ?_ ?_ ?_ ?_ ?_ ?_ ?_ ?_
  · intro es1 he1 _ es3 he3; subst he1; subst he3; exact thr 0 1
  · intro es1 he1 _ _ es3 he3; subst he1; subst he3; exact thr 0 1
  · intro es1 he1 h1 h2 h3 es3 he3; subst he1; subst he3; exact man (-1) (by omega) (by omega) (by omega) (by omega) (fun _ => rfl)
  · intro es1 he1 _ _ _ v hv _ es3 he3; subst he1; subst he3; exact thr 0 1
  · intro es1 he1 _ _ _ v hv _ _ es3 he3; subst he1; subst he3; exact thr 0 1
  · intro es1 he1 _ _ _ v hv _ _ _ es3 he3; subst he1; subst he3; exact thr 0 2
  · intro es1 he1 _ _ _ v hv _ _ _ _ es3 he3; subst he1; subst he3; exact thr 0 2
  · intro es1 he1 h1 h2 h3 v hv h4 h5 h6 h7 es3 he3
    subst he1; subst he3
    have e0 : gA (sI es 79 0 (.int (zI 0))) 80 (Int.toNat 0) = gA es 80 0 := by rw [gA_sI]; rfl
    rw [e0] at hv
    have hb := gA_bd hT (p := 80) (t := 0) (n := 2125) (sp := tS80) (k := 0) rfl (by omega) (by decide)
    have hb2 : (gA es 80 0).toInt ≤ 5 := hb.2
    exact man _ (by omega) (by omega) (by omega) (by omega) (fun hz => by omega)
