/-! write of the class -/
def wrAt (es0 : PH) (lp : Nat) (bk : Int) (es : PH) (sd n : Int) : Prop := hOK tT es ∧ fr kc_306.2.2.2.2.2.1 es0 es ∧ es[lp]? = some (.inr (10, [.ref 71, .ref 93, .int (zI sd)])) ∧ (gA es 13 bk.toNat).toInt ≤ n
theorem hOK_len {es : PH} (h : hOK tT es) : 108 ≤ es.length := by have := h.1; rw [tT_len] at this; exact this
theorem wrAt_set {es0 es : PH} {lp : Nat} {bk sd n : Int} (h0 : 108 ≤ lp) (h1 : es0.length ≤ lp) (h : wrAt es0 lp bk es sd n) (sd' : Int) : wrAt es0 lp bk (es.set lp (.inr (10, [.ref 71, .ref 93, .int (zI sd')]))) sd' n := by
  obtain ⟨a1, a2, a3, a4⟩ := h
  refine ⟨hOK_set a1 (fun t ht => ?_), ⟨by rw [List.length_set]; exact a2.1, fun p e hp => ?_⟩, ?_, ?_⟩
  · have := (List.getElem?_eq_some_iff.mp ht).1
    rw [tT_len] at this
    omega
  · obtain ⟨e', k1, k2⟩ := a2.2 p e hp
    have hpl := (List.getElem?_eq_some_iff.mp hp).1
    exact ⟨e', by rw [List.getElem?_set_ne (by omega)]; exact k1, k2⟩
  · rw [List.getElem?_set_self (List.getElem?_eq_some_iff.mp a3).1]
  · have e1 : gA (es.set lp (.inr (10, [.ref 71, .ref 93, .int (zI sd')]))) 13 = gA es 13 := by
      unfold gA
      rw [List.getElem?_set_ne (by omega)]
    rw [e1]
    exact a4
theorem wrAt_fr {es0 es es1 : PH} {lp : Nat} {bk sd n : Int} {M : List aMod} (h0 : 108 ≤ lp) (h : wrAt es0 lp bk es sd n) (hT : hOK tT es1) (hf : fr M es es1) (hM : M.all (fun m => Nat.blt m.1 108) = true) (hS : mSub M kc_306.2.2.2.2.2.1 = true) (h13 : M.all (fun m => !(Nat.beq m.1 13)) = true) : wrAt es0 lp bk es1 sd n := by
  obtain ⟨a1, a2, a3, a4⟩ := h
  refine ⟨hT, fr_trans a2 (fr_sub hS hf), ?_, ?_⟩
  · obtain ⟨e', k1, k2⟩ := hf.2 _ _ a3
    rcases e' with ⟨t', n', g | g⟩ | ⟨c, vs⟩
    · exact k2.elim
    · exact k2.elim
    · obtain ⟨rfl, k3, k4⟩ := k2
      have : vs = [.ref 71, .ref 93, .int (zI sd)] := List.ext_getElem? (fun i => k4 i (mIn_hi hM h0))
      rw [k1, this]
  · have hm : mIn M 13 0 bk.toNat = false := by
      rw [← Bool.not_eq_true]
      intro hm
      unfold mIn at hm
      rw [List.any_eq_true] at hm
      obtain ⟨m, hm1, hm2⟩ := hm
      have h4 := List.all_eq_true.mp h13 m hm1
      simp only [Bool.and_eq_true, beq_iff_eq] at hm2
      rw [hm2.1] at h4
      cases h4
    have hl := hOK_len a1
    rw [fr_cell hf (by omega) hm]
    exact a4
section
variable {xs : Nat → Int32} {n0 d kc ks lp : Nat} {Q : pRes → Prop} {es0 es : PH} {sd n bk : Int}
theorem set_note {a1 a2 a3 a4 a5 a6 : Int} {es : PH} {Q : pRes → Prop} (hn : n0 ≤ 3584) (hd : 1 ≤ d) (hT : hOK tT es) (i1 : i32 a1) (i2 : i32 a2) (i3 : i32 a3) (i4 : i32 a4) (i5 : i32 a5) (i6 : i32 a6) (K : ∀ es1, hOK tT es1 → fr [(14, 0, 0, 288)] es es1 → Q (.inl none, es1, kc, ks)) :
    aW (pO0 xs n0) d 119 kc ks Q (0, [some (.ref 71), some (.int (zI a1)), some (.int (zI a2)), some (.int (zI a3)), some (.int (zI a4)), some (.int (zI a5)), some (.int (zI a6)), none], [], es) :=
  con_void (c := kc_69) (kv_69 (aWd_T (xs := xs) hn)) hd (ρ := [a1, a2, a3, a4, a5, a6]) (vs := [.ref 71, .int (zI a1), .int (zI a2), .int (zI a3), .int (zI a4), .int (zI a5), .int (zI a6)]) rfl (gE_all rfl (by decide) (fun v hv => by
    simp only [List.mem_cons, List.not_mem_nil, or_false] at hv
    rcases hv with rfl | rfl | rfl | rfl | rfl | rfl <;> assumption)) rfl ⟨⟨71, rfl, rfl⟩, gV_i i1 rfl, gV_i i2 rfl, gV_i i3 rfl, gV_i i4 rfl, gV_i i5 rfl, gV_i i6 rfl, trivial⟩ hT rfl (by decide) K
theorem note_cell {a1 a2 a3 : Int} {es : PH} {Q : pRes → Prop} (hn : n0 ≤ 3584) (hd : 1 ≤ d) (hT : hOK tT es) (i1 : i32 a1) (i2 : i32 a2) (i3 : i32 a3) (K : ∀ es1 a, hOK tT es1 → fr [] es es1 → i32 a → Q (.inl (some (.int (zI a))), es1, kc, ks)) :
    aW (pO0 xs n0) d 43 kc ks Q (0, [some (.ref 71), some (.int (zI a1)), some (.int (zI a2)), some (.int (zI a3))], [], es) :=
  con_int (c := kc_72) (kv_72 (aWd_T (xs := xs) hn)) hd (ρ := [a1, a2, a3]) (vs := [.ref 71, .int (zI a1), .int (zI a2), .int (zI a3)]) rfl (gE_all rfl (by decide) (fun v hv => by
    simp only [List.mem_cons, List.not_mem_nil, or_false] at hv
    rcases hv with rfl | rfl | rfl <;> assumption)) rfl ⟨⟨71, rfl, rfl⟩, gV_i i1 rfl, gV_i i2 rfl, gV_i i3 rfl, trivial⟩ hT rfl (by decide) (fun es1 a h1 h2 h3 _ => K es1 a h1 h2 h3)
theorem wn_spec {mo si : Int} (hn : n0 ≤ 3584) (h0 : 108 ≤ lp) (hbk : 0 ≤ bk ∧ bk ≤ 2) (hmo : 0 ≤ mo ∧ mo ≤ 1295) (isi : i32 si) (hw : wrAt es0 lp bk es sd n) (hn1 : n ≤ 23) (K : ∀ es', wrAt es0 lp bk es' sd (n + 1) → Q (.inl none, es', kc, ks)) :
    aW (pO0 xs n0) (d + 3) 127 kc ks Q (0, [some (.ref (64 + lp)), some (.int (zI bk)), some (.int (zI mo)), some (.int (zI si)), none, none, none], [], es) := by
  obtain ⟨hT, hf, ho, hc⟩ := hw
  have ibk : i32 bk := by unfold i32 iLO iHI; omega
  have go : ∀ rk kd : Int, i32 rk → i32 kd → aW (pO0 xs n0) (d + 3) 127 kc ks Q (57, [some (.ref (64 + lp)), some (.int (zI bk)), some (.int (zI mo)), some (.int (zI si)), some (.int (zI (mo % 36))), some (.int (zI rk)), some (.int (zI kd))], [.int (zI bk), .ref 71, .int (zI bk), .ref 71], es) := fun rk kd irk ikd => by
    refine x_call (vs := [.ref 71, .int (zI bk)]) (rs := [.int (zI bk), .ref 71]) i_127_57 rfl (fun _ => rfl) rfl rfl rfl rfl rfl (pCall_v (p := 7) (sh_of hT) rfl rfl rfl rfl rfl (by decide) rfl rfl rfl rfl rfl) ?_
    show aW _ _ _ _ _ _ (0, [some (.ref 71), some (.int (zI bk)), none], [], es)
    refine s_addNote (d := d) (sh_of hT) hbk (fun v1 hv1 es2 he2 => ?_)
    have hb1 : 0 ≤ (gA es 13 bk.toNat).toInt ∧ (gA es 13 bk.toNat).toInt ≤ 24 := gA_bd hT (p := 13) (k := bk.toNat) rfl (by omega) (by decide)
    have hT2 : hOK tT es2 := by
      rw [he2]
      exact hOK_sA hT (p := 13) (n := 3) rfl (fun _ => by rw [zI_toInt (by unfold i32 iLO iHI; omega)]; exact ⟨by show (0 : Int) ≤ v1 + 1; omega, by show v1 + 1 ≤ (24 : Int); omega⟩)
    have hf2 : fr kc_306.2.2.2.2.2.1 es0 es2 := by rw [he2]; exact fr_trans hf (fr_sA (mIn_of (lo := 0) (hi := 3) (by decide) (by omega) (by omega)))
    have ho2 : es2[lp]? = some (.inr (10, [.ref 71, .ref 93, .int (zI sd)])) := by
      rw [he2, sA_at, if_neg (by omega)]; exact ho
    have hc2 : (gA es2 13 bk.toNat).toInt ≤ n + 1 := by
      rw [he2, gA_sA (sh_of hT) (p := 13) (t := 0) (n := 3) rfl (by decide)]
      unfold upd
      rw [if_pos rfl, zI_toInt (by unfold i32 iLO iHI; omega)]
      omega
    have hw2 : wrAt es0 lp bk es2 sd (n + 1) := ⟨hT2, hf2, ho2, hc2⟩
    show aW _ _ _ _ _ _ (60, [some (.ref (64 + lp)), some (.int (zI bk)), some (.int (zI mo)), some (.int (zI si)), some (.int (zI (mo % 36))), some (.int (zI rk)), some (.int (zI kd))], [.int (zI v1), .int (zI bk), .ref 71], es2)
    refine s_wn60 (sh_of hT2) ⟨by omega, by omega⟩ ?_
    refine x_call (vs := [.ref 71, .int (zI bk), .int (zI v1), .int (zI kd), .int (zI (-1)), .int (zI ((mo % 36) % 6)), .int (zI rk)]) (rs := []) i_127_70 rfl (fun _ => rfl) rfl rfl rfl rfl rfl (pCall_v (p := 7) (sh_of hT2) rfl rfl rfl rfl rfl (by decide) rfl rfl rfl rfl rfl) ?_
    refine set_note hn (by omega) hT2 ibk (by rw [hv1]; exact i32_rng _) ikd (by unfold i32 iLO iHI; omega) (by unfold i32 iLO iHI; omega) irk (fun es3 hT3 f3 => ?_)
    show aW _ _ _ _ _ _ (73, [some (.ref (64 + lp)), some (.int (zI bk)), some (.int (zI mo)), some (.int (zI si)), some (.int (zI (mo % 36))), some (.int (zI rk)), some (.int (zI kd))], [], es3)
    exact s_wn73 (sh_of hT3) (K es3 (wrAt_fr h0 hw2 hT3 f3 (by decide) (by decide) (by decide)))
  refine s_wn0 (d := d + 2) (sh_of hT) ho hT hbk hmo isi (fun v1 _ _ v3 _ v4 hv4 => go _ _ (by unfold i32 iLO iHI; omega) (by rw [hv4]; exact i32_rng _)) (fun v1 _ _ _ v3 _ v4 hv4 => go _ _ (by unfold i32 iLO iHI; omega) (by rw [hv4]; exact i32_rng _)) (fun v1 _ _ _ v3 _ v4 hv4 => go _ _ (by unfold i32 iLO iHI; omega) (by rw [hv4]; exact i32_rng _))
theorem as_spec {b1 nn so : Int} (hn : n0 ≤ 3584) (h0 : 108 ≤ lp) (ib : i32 b1) (inn : i32 nn) (iso : i32 so) (hw : wrAt es0 lp bk es sd n) (K : ∀ es', wrAt es0 lp bk es' sd n → Q (.inl none, es', kc, ks)) :
    aW (pO0 xs n0) (d + 3) 128 kc ks Q (0, [some (.ref (64 + lp)), some (.int (zI b1)), some (.int (zI nn)), some (.int (zI so)), none, none, none], [], es) := by
  refine s_as0 (sh_of hw.1) hw.2.2.1 ?_
  refine x_call (vs := [.ref 71, .int (zI b1), .int (zI nn), .int (zI 0)]) (rs := []) i_128_7 rfl (fun _ => rfl) rfl rfl rfl rfl rfl (pCall_v (p := 7) (sh_of hw.1) rfl rfl rfl rfl rfl (by decide) rfl rfl rfl rfl rfl) ?_
  refine note_cell hn (by omega) hw.1 ib inn (by unfold i32 iLO iHI; omega) (fun es1 k hT1 f1 ik => ?_)
  have hw1 := wrAt_fr h0 hw hT1 f1 (by decide) (by decide) (by decide)
  show aW _ _ _ _ _ _ (10, [some (.ref (64 + lp)), some (.int (zI b1)), some (.int (zI nn)), some (.int (zI so)), none, none, none], [.int (zI k)], es1)
  refine s_as10 (sh_of hw1.1) hw1.2.2.1 ?_
  refine x_call (vs := [.ref 71, .int (zI b1), .int (zI nn), .int (zI 2)]) (rs := []) i_128_19 rfl (fun _ => rfl) rfl rfl rfl rfl rfl (pCall_v (p := 7) (sh_of hw1.1) rfl rfl rfl rfl rfl (by decide) rfl rfl rfl rfl rfl) ?_
  refine note_cell hn (by omega) hw1.1 ib inn (by unfold i32 iLO iHI; omega) (fun es2 f hT2 f2 iff_ => ?_)
  have hw2 := wrAt_fr h0 hw1 hT2 f2 (by decide) (by decide) (by decide)
  show aW _ _ _ _ _ _ (22, [some (.ref (64 + lp)), some (.int (zI b1)), some (.int (zI nn)), some (.int (zI so)), some (.int (zI k)), none, none], [.int (zI f)], es2)
  refine s_as22 (sh_of hw2.1) hw2.2.2.1 ?_
  refine x_call (vs := [.ref 71, .int (zI b1), .int (zI nn), .int (zI 3)]) (rs := []) i_128_31 rfl (fun _ => rfl) rfl rfl rfl rfl rfl (pCall_v (p := 7) (sh_of hw2.1) rfl rfl rfl rfl rfl (by decide) rfl rfl rfl rfl rfl) ?_
  refine note_cell hn (by omega) hw2.1 ib inn (by unfold i32 iLO iHI; omega) (fun es3 r hT3 f3 ir => ?_)
  have hw3 := wrAt_fr h0 hw2 hT3 f3 (by decide) (by decide) (by decide)
  show aW _ _ _ _ _ _ (34, [some (.ref (64 + lp)), some (.int (zI b1)), some (.int (zI nn)), some (.int (zI so)), some (.int (zI k)), some (.int (zI f)), none], [.int (zI r)], es3)
  have go : ∀ k f r : Int, i32 k → i32 f → i32 r → aW (pO0 xs n0) (d + 3) 128 kc ks Q (102, [some (.ref (64 + lp)), some (.int (zI b1)), some (.int (zI nn)), some (.int (zI so)), some (.int (zI k)), some (.int (zI f)), some (.int (zI r))], [.int (zI r), .int (zI f), .int (zI (-1)), .int (zI k), .int (zI nn), .int (zI b1), .ref 71], es3) := fun k f r ik ifi ir => by
    refine x_call (vs := [.ref 71, .int (zI b1), .int (zI nn), .int (zI k), .int (zI (-1)), .int (zI f), .int (zI r)]) (rs := []) i_128_102 rfl (fun _ => rfl) rfl rfl rfl rfl rfl (pCall_v (p := 7) (sh_of hw3.1) rfl rfl rfl rfl rfl (by decide) rfl rfl rfl rfl rfl) ?_
    refine set_note hn (by omega) hw3.1 ib inn ik (by unfold i32 iLO iHI; omega) ifi ir (fun es4 hT4 f4 => ?_)
    show aW _ _ _ _ _ _ (105, [some (.ref (64 + lp)), some (.int (zI b1)), some (.int (zI nn)), some (.int (zI so)), some (.int (zI k)), some (.int (zI f)), some (.int (zI r))], [], es4)
    exact s_as105 (sh_of hT4) (K es4 (wrAt_fr h0 hw3 hT4 f4 (by decide) (by decide) (by decide)))
  have go' : ∀ k f r : Int, aW (pO0 xs n0) (d + 3) 128 kc ks Q (102, [some (.ref (64 + lp)), some (.int (zI b1)), some (.int (zI nn)), some (.int (zI so)), some (.int (zI k)), some (.int (zI f)), some (.int (zI r))], [.int (zI r), .int (zI f), .int (zI (-1)), .int (zI k), .int (zI nn), .int (zI b1), .ref 71], es3) := fun k f r => by
    have := go (zI k).toInt (zI f).toInt (zI r).toInt (i32_rng _) (i32_rng _) (i32_rng _)
    simp only [zI_id] at this
    exact this
  exact s_as34 (d := d + 2) (sh_of hw3.1) hw3.2.2.1 hw3.1 iso ik iff_ ir (fun _ _ _ => go' _ _ _) (fun _ _ _ => go' _ _ _) (fun _ _ _ => go' _ _ _) (fun _ _ _ => go' _ _ _) (fun _ _ _ _ _ _ => go' _ _ _) (fun _ _ _ _ _ _ => go' _ _ _)
end
