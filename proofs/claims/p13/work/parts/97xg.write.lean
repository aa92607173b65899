/-! WRITE of both sides; printed by wip/rel/wr.py -/
theorem i_285_0 : iRow 285 0 = some (.aload 5, 0, 0, 0, (some (Jvm.ClassFile.FieldType.int))) := rfl
theorem i_285_2 : iRow 285 2 = some (.iconst 0, 0, 0, 0, (some (Jvm.ClassFile.FieldType.int))) := rfl
theorem i_285_3 : iRow 285 3 = some (.aload_n 0, 0, 0, 0, (some (Jvm.ClassFile.FieldType.int))) := rfl
theorem i_285_4 : iRow 285 4 = some (.iload_n 1, 0, 0, 0, (some (Jvm.ClassFile.FieldType.int))) := rfl
theorem i_285_5 : iRow 285 5 = some (.iload_n 2, 0, 0, 0, (some (Jvm.ClassFile.FieldType.int))) := rfl
theorem i_285_6 : iRow 285 6 = some (.iload_n 3, 0, 0, 0, (some (Jvm.ClassFile.FieldType.int))) := rfl
theorem i_285_7 : iRow 285 7 = some (.iload 4, 0, 0, 0, (some (Jvm.ClassFile.FieldType.int))) := rfl
theorem i_285_9 : iRow 285 9 = some (.invokevirtual 48, 169, 123, 1, (some (Jvm.ClassFile.FieldType.int))) := rfl
theorem i_285_12 : iRow 285 12 = some (.i2l, 0, 0, 0, (some (Jvm.ClassFile.FieldType.int))) := rfl
theorem i_285_13 : iRow 285 13 = some (.lastore, 0, 0, 0, (some (Jvm.ClassFile.FieldType.int))) := rfl
theorem i_285_14 : iRow 285 14 = some (.goto 11, 0, 0, 0, (some (Jvm.ClassFile.FieldType.int))) := rfl
theorem i_285_19 : iRow 285 19 = some (.iconst 1, 0, 0, 0, (some (Jvm.ClassFile.FieldType.int))) := rfl
theorem i_285_20 : iRow 285 20 = some (.ireturn, 0, 0, 0, (some (Jvm.ClassFile.FieldType.int))) := rfl
theorem i_285_23 : iRow 285 23 = some (.iconst 2, 0, 0, 0, (some (Jvm.ClassFile.FieldType.int))) := rfl
theorem i_285_24 : iRow 285 24 = some (.ireturn, 0, 0, 0, (some (Jvm.ClassFile.FieldType.int))) := rfl
theorem i_285_25 : iRow 285 25 = some (.iconst 0, 0, 0, 0, (some (Jvm.ClassFile.FieldType.int))) := rfl
theorem i_285_26 : iRow 285 26 = some (.ireturn, 0, 0, 0, (some (Jvm.ClassFile.FieldType.int))) := rfl
theorem cpF_of {O : pOut} {I : PH → Prop} {c : aCon} {row : pMrow} {d : Nat} {ρ : List Int} {vs : List Value} {es : PH} (h : conOK O gG I c) (hr : pM[c.1]? = some row) (hd : c.2.1 ≤ d) (hE : gE ρ c.2.2.1.1) (hC : c.2.2.1.2 = []) (hS : gS ρ c.2.2.2.1 vs) (hT : hOK tT es) (hI : I es) (hF : gFs O ρ es c.2.2.2.2.1) : aW O d c.1 0 0 (cPost O gG I c ρ es) (0, pEntry vs row.2.2.1, [], es) := by
  obtain ⟨row', hr', r⟩ := h
  have e : row' = row := Option.some.inj (hr'.symm.trans hr)
  subst e
  exact r d hd ρ vs es hE (by rw [hC]; exact fun f hf => by cases hf) hS hT hI hF
theorem fact_A {O : pOut} {ρ : List Int} {es : PH} {p : Nat} {k : Nat} {f : aF} (h : gF1 O ρ es (p, 0, fC (k : Int), f)) : evF ρ f = some (gA es p k).toInt := by
  obtain ⟨ty, n, g, i, h1, h2, h3⟩ := h
  have h1' : es[p]? = some (.inl (ty, n, .inl g)) := h1
  have h2' : evF ρ (fC (k : Int)) = some (i : Int) := h2
  rw [fC_ev] at h2'
  have hi : k = i := by have := Option.some.inj h2'; omega
  subst hi
  have e : gA es p = g := by unfold gA; rw [h1']
  rw [e]
  exact h3
theorem fV1_ev {ρ : List Int} {x : Nat} {v : Int} (h : ρ[x]? = some v) : evF ρ ((1 : Int), [((1 : Int), x)]) = some (1 + v) := by simp [evF, evT, h]
/-- what the Writer touches -/
def frW : List aMod := [(13, 0, 0, 3), (14, 0, 0, 288), (30, 0, 0, 36)]
def wrBt (es0 : PH) (lp : Nat) (bk : Int) (es : PH) (sd n : Int) : Prop := hOK tT es ∧ fr frW es0 es ∧ es[lp]? = some (.inr (10, [.ref 71, .ref 93, .int (zI sd)])) ∧ (gA es 13 bk.toNat).toInt ≤ n
theorem wrBt_set {es0 es : PH} {lp : Nat} {bk sd n : Int} (h0 : 108 ≤ lp) (h1 : es0.length ≤ lp) (h : wrBt es0 lp bk es sd n) (sd' : Int) : wrBt es0 lp bk (es.set lp (.inr (10, [.ref 71, .ref 93, .int (zI sd')]))) sd' n := by
  obtain ⟨a1, a2, a3, a4⟩ := h
  refine ⟨hOK_set a1 (fun t ht => ?_), ⟨by rw [List.length_set]; exact a2.1, fun p e hp => ?_⟩, ?_, ?_⟩
  · have := (List.getElem?_eq_some_iff.mp ht).1
    rw [tT_len] at this
    omega
  · obtain ⟨e', k1, k2⟩ := a2.2 p e hp
    have hpl := (List.getElem?_eq_some_iff.mp hp).1
    exact ⟨e', by rw [List.getElem?_set_ne (by omega)]; exact k1, k2⟩
  · rw [List.getElem?_set_self (List.getElem?_eq_some_iff.mp a3).1]
  · have e1 : gA (es.set lp (.inr (10, [.ref 71, .ref 93, .int (zI sd')]))) 13 = gA es 13 := by
      unfold gA
      rw [List.getElem?_set_ne (by omega)]
    rw [e1]
    exact a4
theorem wrBt_fr {es0 es es1 : PH} {lp : Nat} {bk sd n : Int} {M : List aMod} (h0 : 108 ≤ lp) (h : wrBt es0 lp bk es sd n) (hT : hOK tT es1) (hf : fr M es es1) (hM : M.all (fun m => Nat.blt m.1 108) = true) (hS : mSub M frW = true) (h13 : M.all (fun m => !(Nat.beq m.1 13)) = true) : wrBt es0 lp bk es1 sd n := by
  obtain ⟨a1, a2, a3, a4⟩ := h
  refine ⟨hT, fr_trans a2 (fr_sub hS hf), ?_, ?_⟩
  · obtain ⟨e', k1, k2⟩ := hf.2 _ _ a3
    rcases e' with ⟨t', n', g | g⟩ | ⟨c, vs⟩
    · exact k2.elim
    · exact k2.elim
    · obtain ⟨rfl, k3, k4⟩ := k2
      have : vs = [.ref 71, .ref 93, .int (zI sd)] := List.ext_getElem? (fun i => k4 i (mIn_hi hM h0))
      rw [k1, this]
  · have hm : mIn M 13 0 bk.toNat = false := by
      rw [← Bool.not_eq_true]
      intro hm
      unfold mIn at hm
      rw [List.any_eq_true] at hm
      obtain ⟨m, hm1, hm2⟩ := hm
      have h4 := List.all_eq_true.mp h13 m hm1
      simp only [Bool.and_eq_true, beq_iff_eq] at hm2
      rw [hm2.1] at h4
      cases h4
    have hl := hOK_len a1
    rw [fr_cell hf (by omega) hm]
    exact a4
section
variable {xs : Nat → Int32} {n0 d kc ks lp : Nat} {Q : pRes → Prop} {es0 es : PH} {sd n bk : Int}
theorem wnB_spec {mo si : Int} (hn : n0 ≤ 3584) (h0 : 108 ≤ lp) (hbk : 0 ≤ bk ∧ bk ≤ 2) (hmo : 0 ≤ mo ∧ mo ≤ 1295) (isi : i32 si) (hw : wrBt es0 lp bk es sd n) (hn1 : n ≤ 23) (K : ∀ es', wrBt es0 lp bk es' sd (n + 1) → Q (.inl none, es', kc, ks)) :
    aW (pO0 xs n0) (d + 3) 127 kc ks Q (0, [some (.ref (64 + lp)), some (.int (zI bk)), some (.int (zI mo)), some (.int (zI si)), none, none, none], [], es) := by
  obtain ⟨hT, hf, ho, hc⟩ := hw
  have ibk : i32 bk := by unfold i32 iLO iHI; omega
  have go : ∀ rk kd : Int, i32 rk → i32 kd → aW (pO0 xs n0) (d + 3) 127 kc ks Q (57, [some (.ref (64 + lp)), some (.int (zI bk)), some (.int (zI mo)), some (.int (zI si)), some (.int (zI (mo % 36))), some (.int (zI rk)), some (.int (zI kd))], [.int (zI bk), .ref 71, .int (zI bk), .ref 71], es) := fun rk kd irk ikd => by
    refine x_call (vs := [.ref 71, .int (zI bk)]) (rs := [.int (zI bk), .ref 71]) i_127_57 rfl (fun _ => rfl) rfl rfl rfl rfl rfl (pCall_v (p := 7) (sh_of hT) rfl rfl rfl rfl rfl (by decide) rfl rfl rfl rfl rfl) ?_
    show aW _ _ _ _ _ _ (0, [some (.ref 71), some (.int (zI bk)), none], [], es)
    refine s_addNote (d := d) (sh_of hT) hbk (fun v1 hv1 es2 he2 => ?_)
    have hb1 : 0 ≤ (gA es 13 bk.toNat).toInt ∧ (gA es 13 bk.toNat).toInt ≤ 24 := gA_bd hT (p := 13) (k := bk.toNat) rfl (by omega) (by decide)
    have hT2 : hOK tT es2 := by
      rw [he2]
      exact hOK_sA hT (p := 13) (n := 3) rfl (fun _ => by rw [zI_toInt (by unfold i32 iLO iHI; omega)]; exact ⟨by show (0 : Int) ≤ v1 + 1; omega, by show v1 + 1 ≤ (24 : Int); omega⟩)
    have hf2 : fr frW es0 es2 := by rw [he2]; exact fr_trans hf (fr_sA (mIn_of (lo := 0) (hi := 3) (by decide) (by omega) (by omega)))
    have ho2 : es2[lp]? = some (.inr (10, [.ref 71, .ref 93, .int (zI sd)])) := by
      rw [he2, sA_at, if_neg (by omega)]; exact ho
    have hc2 : (gA es2 13 bk.toNat).toInt ≤ n + 1 := by
      rw [he2, gA_sA (sh_of hT) (p := 13) (t := 0) (n := 3) rfl (by decide)]
      unfold upd
      rw [if_pos rfl, zI_toInt (by unfold i32 iLO iHI; omega)]
      omega
    have hw2 : wrBt es0 lp bk es2 sd (n + 1) := ⟨hT2, hf2, ho2, hc2⟩
    show aW _ _ _ _ _ _ (60, [some (.ref (64 + lp)), some (.int (zI bk)), some (.int (zI mo)), some (.int (zI si)), some (.int (zI (mo % 36))), some (.int (zI rk)), some (.int (zI kd))], [.int (zI v1), .int (zI bk), .ref 71], es2)
    refine s_wn60 (sh_of hT2) ⟨by omega, by omega⟩ ?_
    refine x_call (vs := [.ref 71, .int (zI bk), .int (zI v1), .int (zI kd), .int (zI (-1)), .int (zI ((mo % 36) % 6)), .int (zI rk)]) (rs := []) i_127_70 rfl (fun _ => rfl) rfl rfl rfl rfl rfl (pCall_v (p := 7) (sh_of hT2) rfl rfl rfl rfl rfl (by decide) rfl rfl rfl rfl rfl) ?_
    refine set_note hn (by omega) hT2 ibk (by rw [hv1]; exact i32_rng _) ikd (by unfold i32 iLO iHI; omega) (by unfold i32 iLO iHI; omega) irk (fun es3 hT3 f3 => ?_)
    show aW _ _ _ _ _ _ (73, [some (.ref (64 + lp)), some (.int (zI bk)), some (.int (zI mo)), some (.int (zI si)), some (.int (zI (mo % 36))), some (.int (zI rk)), some (.int (zI kd))], [], es3)
    exact s_wn73 (sh_of hT3) (K es3 (wrBt_fr h0 hw2 hT3 f3 (by decide) (by decide) (by decide)))
  refine s_wn0 (d := d + 2) (sh_of hT) ho hT hbk hmo isi (fun v1 _ _ v3 _ v4 hv4 => go _ _ (by unfold i32 iLO iHI; omega) (by rw [hv4]; exact i32_rng _)) (fun v1 _ _ _ v3 _ v4 hv4 => go _ _ (by unfold i32 iLO iHI; omega) (by rw [hv4]; exact i32_rng _)) (fun v1 _ _ _ v3 _ v4 hv4 => go _ _ (by unfold i32 iLO iHI; omega) (by rw [hv4]; exact i32_rng _))
theorem asB_spec {b1 nn so : Int} (hn : n0 ≤ 3584) (h0 : 108 ≤ lp) (ib : i32 b1) (inn : i32 nn) (iso : i32 so) (hw : wrBt es0 lp bk es sd n) (K : ∀ es', wrBt es0 lp bk es' sd n → Q (.inl none, es', kc, ks)) :
    aW (pO0 xs n0) (d + 3) 128 kc ks Q (0, [some (.ref (64 + lp)), some (.int (zI b1)), some (.int (zI nn)), some (.int (zI so)), none, none, none], [], es) := by
  refine s_as0 (sh_of hw.1) hw.2.2.1 ?_
  refine x_call (vs := [.ref 71, .int (zI b1), .int (zI nn), .int (zI 0)]) (rs := []) i_128_7 rfl (fun _ => rfl) rfl rfl rfl rfl rfl (pCall_v (p := 7) (sh_of hw.1) rfl rfl rfl rfl rfl (by decide) rfl rfl rfl rfl rfl) ?_
  refine note_cell hn (by omega) hw.1 ib inn (by unfold i32 iLO iHI; omega) (fun es1 k hT1 f1 ik => ?_)
  have hw1 := wrBt_fr h0 hw hT1 f1 (by decide) (by decide) (by decide)
  show aW _ _ _ _ _ _ (10, [some (.ref (64 + lp)), some (.int (zI b1)), some (.int (zI nn)), some (.int (zI so)), none, none, none], [.int (zI k)], es1)
  refine s_as10 (sh_of hw1.1) hw1.2.2.1 ?_
  refine x_call (vs := [.ref 71, .int (zI b1), .int (zI nn), .int (zI 2)]) (rs := []) i_128_19 rfl (fun _ => rfl) rfl rfl rfl rfl rfl (pCall_v (p := 7) (sh_of hw1.1) rfl rfl rfl rfl rfl (by decide) rfl rfl rfl rfl rfl) ?_
  refine note_cell hn (by omega) hw1.1 ib inn (by unfold i32 iLO iHI; omega) (fun es2 f hT2 f2 iff_ => ?_)
  have hw2 := wrBt_fr h0 hw1 hT2 f2 (by decide) (by decide) (by decide)
  show aW _ _ _ _ _ _ (22, [some (.ref (64 + lp)), some (.int (zI b1)), some (.int (zI nn)), some (.int (zI so)), some (.int (zI k)), none, none], [.int (zI f)], es2)
  refine s_as22 (sh_of hw2.1) hw2.2.2.1 ?_
  refine x_call (vs := [.ref 71, .int (zI b1), .int (zI nn), .int (zI 3)]) (rs := []) i_128_31 rfl (fun _ => rfl) rfl rfl rfl rfl rfl (pCall_v (p := 7) (sh_of hw2.1) rfl rfl rfl rfl rfl (by decide) rfl rfl rfl rfl rfl) ?_
  refine note_cell hn (by omega) hw2.1 ib inn (by unfold i32 iLO iHI; omega) (fun es3 r hT3 f3 ir => ?_)
  have hw3 := wrBt_fr h0 hw2 hT3 f3 (by decide) (by decide) (by decide)
  show aW _ _ _ _ _ _ (34, [some (.ref (64 + lp)), some (.int (zI b1)), some (.int (zI nn)), some (.int (zI so)), some (.int (zI k)), some (.int (zI f)), none], [.int (zI r)], es3)
  have go : ∀ k f r : Int, i32 k → i32 f → i32 r → aW (pO0 xs n0) (d + 3) 128 kc ks Q (102, [some (.ref (64 + lp)), some (.int (zI b1)), some (.int (zI nn)), some (.int (zI so)), some (.int (zI k)), some (.int (zI f)), some (.int (zI r))], [.int (zI r), .int (zI f), .int (zI (-1)), .int (zI k), .int (zI nn), .int (zI b1), .ref 71], es3) := fun k f r ik ifi ir => by
    refine x_call (vs := [.ref 71, .int (zI b1), .int (zI nn), .int (zI k), .int (zI (-1)), .int (zI f), .int (zI r)]) (rs := []) i_128_102 rfl (fun _ => rfl) rfl rfl rfl rfl rfl (pCall_v (p := 7) (sh_of hw3.1) rfl rfl rfl rfl rfl (by decide) rfl rfl rfl rfl rfl) ?_
    refine set_note hn (by omega) hw3.1 ib inn ik (by unfold i32 iLO iHI; omega) ifi ir (fun es4 hT4 f4 => ?_)
    show aW _ _ _ _ _ _ (105, [some (.ref (64 + lp)), some (.int (zI b1)), some (.int (zI nn)), some (.int (zI so)), some (.int (zI k)), some (.int (zI f)), some (.int (zI r))], [], es4)
    exact s_as105 (sh_of hT4) (K es4 (wrBt_fr h0 hw3 hT4 f4 (by decide) (by decide) (by decide)))
  have go' : ∀ k f r : Int, aW (pO0 xs n0) (d + 3) 128 kc ks Q (102, [some (.ref (64 + lp)), some (.int (zI b1)), some (.int (zI nn)), some (.int (zI so)), some (.int (zI k)), some (.int (zI f)), some (.int (zI r))], [.int (zI r), .int (zI f), .int (zI (-1)), .int (zI k), .int (zI nn), .int (zI b1), .ref 71], es3) := fun k f r => by
    have := go (zI k).toInt (zI f).toInt (zI r).toInt (i32_rng _) (i32_rng _) (i32_rng _)
    simp only [zI_id] at this
    exact this
  exact s_as34 (d := d + 2) (sh_of hw3.1) hw3.2.2.1 hw3.1 iso ik iff_ ir (fun _ _ _ => go' _ _ _) (fun _ _ _ => go' _ _ _) (fun _ _ _ => go' _ _ _) (fun _ _ _ => go' _ _ _) (fun _ _ _ _ _ _ => go' _ _ _) (fun _ _ _ _ _ _ => go' _ _ _)
end
section
variable {xs : Nat → Int32} {n0 d kc ks lp : Nat} {Q : pRes → Prop} {es0 : PH} {bk mv sl : Int}
theorem fillB_spec (hn : n0 ≤ 3584) (h0 : 108 ≤ lp) (hle : es0.length ≤ lp) (hbk : 0 ≤ bk ∧ bk ≤ 2) (hmv : 1 ≤ mv ∧ mv ≤ 24) (hsl : 0 ≤ sl ∧ sl ≤ 9) (K : ∀ es' sd' n', wrBt es0 lp bk es' sd' n' → Q (.inl none, es', kc, ks)) :
    ∀ (k : Nat) (n : Int) (es : PH) (sd : Int) (x5 x6 x7 : Option Value), (24 - n).toNat = k → wrBt es0 lp bk es sd n → 0 ≤ n ∧ n ≤ 24 →
    aW (pO0 xs n0) (d + 6) 125 kc ks Q (3, [some (.ref (64 + lp)), some (.int (zI bk)), some (.int (zI mv)), some (.int (zI sl)), some (.int (zI n)), x5, x6, x7], [], es) := by
  intro k
  induction k using Nat.strongRecOn with
  | ind k ih =>
  intro n es sd x5 x6 x7 hk hw hn1
  have ibk : i32 bk := by unfold i32 iLO iHI; omega
  refine s_fill3 (sh_of hw.1) hw.2.2.1 hbk hmv hsl hn1 (fun _ => K _ _ _ hw) (fun c1 si hsi => ?_)
  have isi : i32 si := by rw [hsi]; exact i32_rng _
  have hn23 : n ≤ 23 := by omega
  refine x_call (vs := [.ref 93, .int (zI si)]) (rs := []) i_125_21 rfl (fun _ => rfl) rfl rfl rfl rfl rfl (pCall_v (p := 29) (sh_of hw.1) rfl rfl rfl rfl rfl (by decide) rfl rfl rfl rfl rfl) ?_
  refine con_int (c := kc_65) (kv_65 (aWd_T (xs := xs) hn)) (by show 3 ≤ d + 5; omega) (ρ := [si]) (vs := [.ref 93, .int (zI si)]) rfl (gE_all rfl (by decide) (fun v hv => by
    simp only [List.mem_cons, List.not_mem_nil, or_false] at hv
    subst hv; exact isi)) rfl ⟨⟨93, rfl, rfl⟩, gV_i isi rfl, trivial⟩ hw.1 rfl (by decide) (fun es1 al hT1 f1 ial _ => ?_)
  have hw1 := wrBt_fr h0 hw hT1 f1 (by decide) (by decide) (by decide)
  show aW _ _ _ _ _ _ (24, [some (.ref (64 + lp)), some (.int (zI bk)), some (.int (zI mv)), some (.int (zI sl)), some (.int (zI n)), some (.int (zI si)), x6, x7], [.int (zI al)], es1)
  refine s_fill24 (sh_of hw1.1) hw1.2.2.1 hbk hmv hsl hn1 ial (fun hal => ?_) (fun _ => K _ _ _ hw1)
  refine x_call (vs := [.ref (64 + lp)]) (rs := [.int (zI si), .ref 93]) i_125_40 rfl (fun _ => rfl) rfl rfl rfl rfl rfl (pCall_p hw1.2.2.1 rfl rfl rfl rfl (by decide) rfl rfl rfl rfl rfl) ?_
  show aW _ _ _ _ _ _ (0, [some (.ref (64 + lp))], [], es1)
  refine draw_spec hw1.2.2.1 (fun sd2 r hr => ?_)
  have hw2 := wrBt_set h0 hle hw1 sd2
  generalize es1.set lp (.inr (10, [.ref 71, .ref 93, .int (zI sd2)])) = es2 at hw2 ⊢
  show aW _ _ _ _ _ _ (43, [some (.ref (64 + lp)), some (.int (zI bk)), some (.int (zI mv)), some (.int (zI sl)), some (.int (zI n)), some (.int (zI si)), some (.int (zI al)), x7], [.int (zI r), .int (zI si), .ref 93], es2)
  have ial2 := ial
  unfold i32 iLO iHI at ial2
  refine s_fill43 (sh_of hw2.1) hw2.2.2.1 hbk hmv hsl hn1 hr ⟨hal, by omega⟩ ?_
  have hm1 : 0 ≤ r % al := Int.emod_nonneg r (by omega)
  have hm2 : r % al < al := Int.emod_lt_of_pos r (by omega)
  have ira : i32 (r % al) := by unfold i32 iLO iHI; omega
  refine x_call (vs := [.ref 93, .int (zI si), .int (zI (r % al))]) (rs := []) i_125_46 rfl (fun _ => rfl) rfl rfl rfl rfl rfl (pCall_v (p := 29) (sh_of hw2.1) rfl rfl rfl rfl rfl (by decide) rfl rfl rfl rfl rfl) ?_
  refine con_int (c := kc_64) (kv_64 (aWd_T (xs := xs) hn)) (by show 3 ≤ d + 5; omega) (ρ := [si, r % al]) (vs := [.ref 93, .int (zI si), .int (zI (r % al))]) rfl (gE_all rfl (by decide) (fun v hv => by
    simp only [List.mem_cons, List.not_mem_nil, or_false] at hv
    rcases hv with rfl | rfl <;> assumption)) rfl ⟨⟨93, rfl, rfl⟩, gV_i isi rfl, gV_i ira rfl, trivial⟩ hw2.1 rfl (by decide) (fun es3 mo hT3 f3 imo hmo => ?_)
  have hw3 := wrBt_fr h0 hw2 hT3 f3 (by decide) (by decide) (by decide)
  have hmb : mo ≤ 1295 := by
    obtain ⟨out, hout, τ, q1, q2⟩ := hmo
    simp only [kc_64, List.mem_cons, List.not_mem_nil, or_false] at hout
    subst hout
    have hx := evV (x := 2) q2
    have h9 := q1.2 2 mo hx
    exact h9.2
  show aW _ _ _ _ _ _ (49, [some (.ref (64 + lp)), some (.int (zI bk)), some (.int (zI mv)), some (.int (zI sl)), some (.int (zI n)), some (.int (zI si)), some (.int (zI al)), x7], [.int (zI mo)], es3)
  refine s_fill49 (sh_of hw3.1) hw3.2.2.1 hbk hmv hsl hn1 imo (fun hm0 => ?_) (fun _ => K _ _ _ hw3)
  refine x_call (vs := [.ref (64 + lp), .int (zI bk), .int (zI mo), .int (zI si)]) (rs := []) i_125_63 rfl (fun _ => rfl) rfl rfl rfl rfl rfl (pCall_p hw3.2.2.1 rfl rfl rfl rfl (by decide) rfl rfl rfl rfl rfl) ?_
  show aW _ _ _ _ _ _ (0, [some (.ref (64 + lp)), some (.int (zI bk)), some (.int (zI mo)), some (.int (zI si)), none, none, none], [], es3)
  refine wnB_spec (d := d + 2) hn h0 hbk ⟨hm0, hmb⟩ isi hw3 hn23 (fun es4 hw4 => ?_)
  show aW _ _ _ _ _ _ (66, [some (.ref (64 + lp)), some (.int (zI bk)), some (.int (zI mv)), some (.int (zI sl)), some (.int (zI n)), some (.int (zI si)), some (.int (zI al)), some (.int (zI mo))], [], es4)
  have tail : ∀ (es : PH) (sd : Int), wrBt es0 lp bk es sd (n + 1) → aW (pO0 xs n0) (d + 6) 125 kc ks Q (98, [some (.ref (64 + lp)), some (.int (zI bk)), some (.int (zI mv)), some (.int (zI sl)), some (.int (zI n)), some (.int (zI si)), some (.int (zI al)), some (.int (zI mo))], [], es) := fun es sd hw => by
    refine s_fill98 (sh_of hw.1) hw.2.2.1 hbk hmv hsl hn1 ?_
    refine x_call (vs := [.ref 93, .int (zI mo)]) (rs := []) i_125_104 rfl (fun _ => rfl) rfl rfl rfl rfl rfl (pCall_v (p := 29) (sh_of hw.1) rfl rfl rfl rfl rfl (by decide) rfl rfl rfl rfl rfl) ?_
    refine con_int (c := kc_278) (kv_278 (aWd_T (xs := xs) hn)) (by show 1 ≤ d + 5; omega) (ρ := [mo]) (vs := [.ref 93, .int (zI mo)]) rfl (gE_all rfl (by decide) (fun v hv => by
      simp only [List.mem_cons, List.not_mem_nil, or_false] at hv
      subst hv; exact imo)) rfl ⟨⟨93, rfl, rfl⟩, gV_i imo rfl, trivial⟩ hw.1 rfl (by decide) (fun es9 tk hT9 f9 itk _ => ?_)
    have hw9 := wrBt_fr h0 hw hT9 f9 (by decide) (by decide) (by decide)
    show aW _ _ _ _ _ _ (107, [some (.ref (64 + lp)), some (.int (zI bk)), some (.int (zI mv)), some (.int (zI sl)), some (.int (zI n)), some (.int (zI si)), some (.int (zI al)), some (.int (zI mo))], [.int (zI tk)], es9)
    refine s_fill107 (sh_of hw9.1) hw9.2.2.1 hbk hmv hsl hn1 ?_
    exact ih (24 - (n + 1)).toNat (by omega) (n + 1) es9 sd _ _ _ rfl hw9 ⟨by omega, by omega⟩
  refine s_fill66 (sh_of hw4.1) hw4.2.2.1 hbk hmv hsl hn1 ?_
  refine x_call (vs := [.ref (64 + lp)]) (rs := []) i_125_67 rfl (fun _ => rfl) rfl rfl rfl rfl rfl (pCall_p hw4.2.2.1 rfl rfl rfl rfl (by decide) rfl rfl rfl rfl rfl) ?_
  show aW _ _ _ _ _ _ (0, [some (.ref (64 + lp))], [], es4)
  refine draw_spec hw4.2.2.1 (fun sd5 r5 hr5 => ?_)
  have hw5 := wrBt_set h0 hle hw4 sd5
  generalize es4.set lp (.inr (10, [.ref 71, .ref 93, .int (zI sd5)])) = es5 at hw5 ⊢
  show aW _ _ _ _ _ _ (70, [some (.ref (64 + lp)), some (.int (zI bk)), some (.int (zI mv)), some (.int (zI sl)), some (.int (zI n)), some (.int (zI si)), some (.int (zI al)), some (.int (zI mo))], [.int (zI r5)], es5)
  refine s_fill70 (d := d + 4) (sh_of hw5.1) hw5.2.2.1 hw5.1 hbk hmv hsl hn1 hr5 (fun _ => tail _ _ hw5) (fun _ v hv => ?_)
  have hb1 : 0 ≤ (gA es5 13 bk.toNat).toInt ∧ (gA es5 13 bk.toNat).toInt ≤ 24 := gA_bd hw5.1 (p := 13) (k := bk.toNat) rfl (by omega) (by decide)
  refine x_call (vs := [.ref (64 + lp)]) (rs := [.int (zI (v - 1)), .int (zI bk), .ref (64 + lp)]) i_125_90 rfl (fun _ => rfl) rfl rfl rfl rfl rfl (pCall_p hw5.2.2.1 rfl rfl rfl rfl (by decide) rfl rfl rfl rfl rfl) ?_
  show aW _ _ _ _ _ _ (0, [some (.ref (64 + lp))], [], es5)
  refine draw_spec hw5.2.2.1 (fun sd6 r6 hr6 => ?_)
  have hw6 := wrBt_set h0 hle hw5 sd6
  generalize es5.set lp (.inr (10, [.ref 71, .ref 93, .int (zI sd6)])) = es6 at hw6 ⊢
  show aW _ _ _ _ _ _ (93, [some (.ref (64 + lp)), some (.int (zI bk)), some (.int (zI mv)), some (.int (zI sl)), some (.int (zI n)), some (.int (zI si)), some (.int (zI al)), some (.int (zI mo))], [.int (zI r6), .int (zI (v - 1)), .int (zI bk), .ref (64 + lp)], es6)
  refine s_fill93 (sh_of hw6.1) hw6.2.2.1 hbk hmv hsl hn1 hr6 ?_
  refine x_call (vs := [.ref (64 + lp), .int (zI bk), .int (zI (v - 1)), .int (zI (r6 % 3))]) (rs := []) i_125_95 rfl (fun _ => rfl) rfl rfl rfl rfl rfl (pCall_p hw6.2.2.1 rfl rfl rfl rfl (by decide) rfl rfl rfl rfl rfl) ?_
  show aW _ _ _ _ _ _ (0, [some (.ref (64 + lp)), some (.int (zI bk)), some (.int (zI (v - 1))), some (.int (zI (r6 % 3))), none, none, none], [], es6)
  refine asB_spec (d := d + 2) hn h0 ibk (by unfold i32 iLO iHI; omega) (by unfold i32 iLO iHI; omega) hw6 (fun es7 hw7 => ?_)
  exact tail es7 sd6 hw7
end
def writexP (wy : Int) (mv : Int) (sl : Int) (se : Int) (es : PH) (r : Option Value ⊕ Nat) (es1 : PH) : Prop := sh es1 ∧ True ∧ ((r = .inr 0 ∧ (wy < 0 ∨ 1 < wy ∨ mv < 1 ∨ 24 < mv ∨ sl < 0 ∨ 9 < sl) ∧ gI es1 7 5 = gI es 7 5) ∨ (r = .inr 1 ∧ ((0 ≤ wy ∧ wy ≤ 1 ∧ 1 ≤ mv ∧ mv ≤ 24 ∧ 0 ≤ sl ∧ sl ≤ 9) ∧ 3 ≤ (gI es 7 5).toInt) ∧ gI es1 7 5 = gI es 7 5) ∨ (r = .inl (some (.int (zI ((gI es 7 5).toInt)))) ∧ ((0 ≤ wy ∧ wy ≤ 1 ∧ 1 ≤ mv ∧ mv ≤ 24 ∧ 0 ≤ sl ∧ sl ≤ 9) ∧ (gI es 7 5).toInt < 3) ∧ (gI es1 7 5).toInt = (gI es 7 5).toInt + 1))
theorem fn_writexK {xs : Nat → Int32} {n d' : Nat} {es : PH} {wy mv sl se : Int} {Q : pRes → Prop} (hn : n ≤ 3584) (i1 : i32 wy) (i2 : i32 mv) (i3 : i32 sl) (i4 : i32 se) (hT : hOK tT es) (K : ∀ r es1 kc ks, writexP wy mv sl se es r es1 → Q (r, es1, kc, ks)) : aW (pO0 xs n) (d' + 9) 123 0 0 Q (0, [some (.ref 64), some (.int (zI wy)), some (.int (zI mv)), some (.int (zI sl)), some (.int (zI se)), none], [], es) := by
  have hlen := hOK_len hT
  have thr0 : (wy < 0 ∨ 1 < wy ∨ mv < 1 ∨ 24 < mv ∨ sl < 0 ∨ 9 < sl) → Q (.inr 0, es, 1, 6) := fun h => K _ _ _ _ ⟨sh_of hT, trivial, Or.inl ⟨rfl, h, rfl⟩⟩
  have thr1 : (0 ≤ wy ∧ wy ≤ 1 ∧ 1 ≤ mv ∧ mv ≤ 24 ∧ 0 ≤ sl ∧ sl ≤ 9) → 3 ≤ (gI es 7 5).toInt → Q (.inr 1, es, 1, 6) := fun h h2 => K _ _ _ _ ⟨sh_of hT, trivial, Or.inr (Or.inl ⟨rfl, ⟨h, h2⟩, rfl⟩)⟩
  have go : (0 ≤ wy ∧ wy ≤ 1) → (1 ≤ mv ∧ mv ≤ 24) → (0 ≤ sl ∧ sl ≤ 9) → (gI es 7 5).toInt < 3 → aW (pO0 xs n) (d' + 9) 123 0 0 Q (60, [some (.ref 64), some (.int (zI wy)), some (.int (zI mv)), some (.int (zI sl)), some (.int (zI se)), none], [.ref 64], es) := fun hwy hmv hsl hB => by
    refine x_call (vs := [.ref 64]) (rs := []) i_123_60 rfl (fun _ => rfl) rfl rfl rfl rfl rfl (pCall_v (p := 0) (sh_of hT) rfl rfl rfl rfl rfl (by decide) rfl rfl rfl rfl rfl) ?_
    show aW _ _ _ _ _ _ (0, [some (.ref 64)], [], es)
    refine s_forget (sh_of hT) hT (fun es1 he1 es2 he2 => ?_)
    have hT1 : hOK tT es1 := by rw [he1]; exact hOK_sI hT (p := 0) (b := 10) rfl rfl (by decide)
    have hT2 : hOK tT es2 := by rw [he2]; exact hOK_sI hT1 (p := 73) (b := 3) rfl rfl (by decide)
    have f2 : fr kc_306.2.2.2.2.2.1 es es2 := by rw [he2, he1]; exact fr_trans (fr_sI rfl) (fr_sI rfl)
    have hB2 : (gI es2 7 5).toInt = (gI es 7 5).toInt := by rw [he2, he1, gI_sI_ne (Or.inl (by decide)), gI_sI_ne (Or.inl (by decide))]
    show aW _ _ _ _ _ _ (63, [some (.ref 64), some (.int (zI wy)), some (.int (zI mv)), some (.int (zI sl)), some (.int (zI se)), none], [], es2)
    refine s_cw63 (sh_of hT2) ?_
    refine x_call (vs := [.ref 71, .int (zI wy)]) (rs := []) i_123_68 rfl (fun _ => rfl) rfl rfl rfl rfl rfl (pCall_v (p := 7) (sh_of hT2) rfl rfl rfl rfl rfl (by decide) rfl rfl rfl rfl rfl) ?_
    show aW _ _ _ _ _ _ (0, [some (.ref 71), some (.int (zI wy))], [], es2)
    refine s_addBook (d := d' + 7) (sh_of hT2) hwy hT2 (fun v1 hv1 c1 => absurd c1 (by omega)) (fun v1 hv1 c1 => absurd c1 (by omega)) (fun v1 hv1 c1 es12 he12 v13 hv13 c2 => ?_) (fun v1 hv1 c1 es12 he12 v13 hv13 c2 es18 he18 v19 hv19 es20 he20 v21 hv21 => ?_)
    · exfalso
      rw [he12, gI_sA] at hv13
      omega
    have hbB : 0 ≤ (gI es2 7 5).toInt ∧ (gI es2 7 5).toInt ≤ 3 := gI_bd hT2 (p := 7) (b := 5) rfl rfl
    have e13 : v13 = v1 := by rw [hv13, he12, gI_sA, hv1]
    have e19 : v19 = v1 := by rw [hv19, he18, gI_sA, he12, gI_sA, hv1]
    have hT12 : hOK tT es12 := by rw [he12]; exact hOK_sA hT2 (p := 12) (n := 3) rfl (fun _ => i32_rng _)
    have hT18 : hOK tT es18 := by rw [he18]; exact hOK_sA hT12 (p := 13) (n := 3) rfl (fun _ => by decide)
    have hT20 : hOK tT es20 := by rw [he20]; exact hOK_sI hT18 (p := 7) (b := 5) rfl rfl (by rw [zI_toInt (by unfold i32 iLO iHI; omega)]; exact ⟨by show (0 : Int) ≤ v19 + 1; omega, by show v19 + 1 ≤ (3 : Int); omega⟩)
    have f20 : fr kc_306.2.2.2.2.2.1 es es20 := by
      rw [he20, he18, he12]
      exact fr_trans f2 (fr_trans (fr_sA (mIn_of (lo := 0) (hi := 3) (by decide) (by omega) (by omega))) (fr_trans (fr_sA (mIn_of (lo := 0) (hi := 3) (by decide) (by omega) (by omega))) (fr_sI rfl)))
    have e21 : v21 - 1 = v1 := by
      rw [hv21, he20, gI_sI (sh_of hT18) (p := 7) (b := 5) rfl (by decide), zI_toInt (by unfold i32 iLO iHI; omega)]
      omega
    rw [e21]
    have hcnt : (gA es20 13 v1.toNat).toInt ≤ 0 := by
      rw [he20, gA_sI, he18, gA_sA (sh_of hT12) (p := 13) (t := 0) (n := 3) rfl (by decide), e13]
      unfold upd
      rw [if_pos rfl]
      decide
    show aW _ _ _ _ _ _ (71, [some (.ref 64), some (.int (zI wy)), some (.int (zI mv)), some (.int (zI sl)), some (.int (zI se)), none], [.int (zI v1)], es20)
    refine s_cw71 (sh_of hT20) ?_
    refine x_call (vs := [.ref 93]) (rs := []) i_123_77 rfl (fun _ => rfl) rfl rfl rfl rfl rfl (pCall_v (p := 29) (sh_of hT20) rfl rfl rfl rfl rfl (by decide) rfl rfl rfl rfl rfl) ?_
    show aW _ _ _ _ _ _ (0, [some (.ref 93)], [], es20)
    refine s_setUp (sh_of hT20) ?_
    refine x_call (d := d' + 7) (vs := [.ref 75, .ref 94]) (rs := []) i_24_11 rfl (fun _ => rfl) rfl rfl rfl rfl rfl rfl ?_
    show aW _ _ _ _ _ _ (0, [some (.ref 75), some (.ref 94)], [], es20)
    refine copy_spec (d := d' + 6) hT20 (fun es5 hl5 hT5 f5 hne5 => ?_)
    show aW _ _ _ _ _ _ (14, [some (.ref 93)], [], es5)
    refine s_setUp14 (sh_of hT5) ?_
    show aW _ _ _ _ _ _ (80, [some (.ref 64), some (.int (zI wy)), some (.int (zI mv)), some (.int (zI sl)), some (.int (zI se)), some (.int (zI v1))], [], es5)
    have hlen5 := hOK_len hT5
    have f05 : fr frW es20 es5 := fr_sub (by decide) f5
    have hT6 : hOK tT (es5 ++ [.inr (10, pBlank 10)]) := hOK_push hT5 _
    have ho6 : (es5 ++ [.inr (10, pBlank 10)])[es5.length]? = some (.inr (10, pBlank 10)) := by rw [List.getElem?_append_right (Nat.le_refl _), Nat.sub_self]; rfl
    have f06 : fr frW es20 (es5 ++ [.inr (10, pBlank 10)]) := fr_trans f05 (fr_push _ _ _)
    have hcnt6 : (gA (es5 ++ [.inr (10, pBlank 10)]) 13 v1.toNat).toInt ≤ 0 := by
      have e1 : gA (es5 ++ [.inr (10, pBlank 10)]) 13 = gA es20 13 := by
        unfold gA
        rw [List.getElem?_append_left (by omega), hne5 13 (by decide)]
      rw [e1]
      exact hcnt
    refine x_new (r := (83, [some (.ref 64), some (.int (zI wy)), some (.int (zI mv)), some (.int (zI sl)), some (.int (zI se)), some (.int (zI v1))], [.ref (64 + es5.length)], es5 ++ [.inr (10, pBlank 10)])) i_123_80 rfl (fun _ => rfl) rfl ?_
    show aW _ _ _ 1 3 _ _
    generalize es5 ++ [.inr (10, pBlank 10)] = es6 at hT6 ho6 f06 hcnt6 ⊢
    refine x0 (r := (84, [some (.ref 64), some (.int (zI wy)), some (.int (zI mv)), some (.int (zI sl)), some (.int (zI se)), some (.int (zI v1))], [.ref (64 + es5.length), .ref (64 + es5.length)], es6)) i_123_83 rfl ?_
    refine x0 (r := (85, [some (.ref 64), some (.int (zI wy)), some (.int (zI mv)), some (.int (zI sl)), some (.int (zI se)), some (.int (zI v1))], [.ref 64, .ref (64 + es5.length), .ref (64 + es5.length)], es6)) i_123_84 rfl ?_
    refine x_getr (p := 0) (k := 71) i_123_85 (sh_of hT6) rfl rfl ?_
    show aW _ _ _ _ _ _ (88, [some (.ref 64), some (.int (zI wy)), some (.int (zI mv)), some (.int (zI sl)), some (.int (zI se)), some (.int (zI v1))], [.ref 71, .ref (64 + es5.length), .ref (64 + es5.length)], es6)
    refine x0 (r := (89, [some (.ref 64), some (.int (zI wy)), some (.int (zI mv)), some (.int (zI sl)), some (.int (zI se)), some (.int (zI v1))], [.ref 64, .ref 71, .ref (64 + es5.length), .ref (64 + es5.length)], es6)) i_123_88 rfl ?_
    refine x_getr (p := 0) (k := 93) i_123_89 (sh_of hT6) rfl rfl ?_
    show aW _ _ _ _ _ _ (92, [some (.ref 64), some (.int (zI wy)), some (.int (zI mv)), some (.int (zI sl)), some (.int (zI se)), some (.int (zI v1))], [.ref 93, .ref 71, .ref (64 + es5.length), .ref (64 + es5.length)], es6)
    refine x0 (r := (94, [some (.ref 64), some (.int (zI wy)), some (.int (zI mv)), some (.int (zI sl)), some (.int (zI se)), some (.int (zI v1))], [.int (zI se), .ref 93, .ref 71, .ref (64 + es5.length), .ref (64 + es5.length)], es6)) i_123_92 rfl ?_
    refine x_call (vs := [.ref (64 + es5.length), .ref 71, .ref 93, .int (zI se)]) (rs := [.ref (64 + es5.length)]) i_123_94 rfl (fun _ => rfl) rfl rfl rfl rfl rfl (pCall_s rfl rfl rfl rfl (by decide) rfl rfl rfl rfl) ?_
    show aW _ _ _ _ _ _ (0, [some (.ref (64 + es5.length)), some (.ref 71), some (.ref 93), some (.int (zI se))], [], es6)
    refine writer_init ho6 rfl ?_
    have hl6 := (List.getElem?_eq_some_iff.mp ho6).1
    have hw7 : wrBt es20 es5.length v1 (es6.set es5.length (.inr (10, [.ref 71, .ref 93, .int (zI se)]))) se 0 := by
      refine ⟨hOK_set hT6 (fun t ht => ?_), ⟨by rw [List.length_set]; exact f06.1, fun p e hp => ?_⟩, List.getElem?_set_self hl6, ?_⟩
      · have := (List.getElem?_eq_some_iff.mp ht).1
        rw [tT_len] at this
        omega
      · obtain ⟨e', k1, k2⟩ := f06.2 p e hp
        have hpl := (List.getElem?_eq_some_iff.mp hp).1
        have := f05.1
        exact ⟨e', by rw [List.getElem?_set_ne (by omega)]; exact k1, k2⟩
      · have e1 : gA (es6.set es5.length (.inr (10, [.ref 71, .ref 93, .int (zI se)]))) 13 = gA es6 13 := by
          unfold gA
          rw [List.getElem?_set_ne (by omega)]
        rw [e1]
        exact hcnt6
    generalize es6.set es5.length (.inr (10, [.ref 71, .ref 93, .int (zI se)])) = es7 at hw7 ⊢
    show aW _ _ _ _ _ _ (97, [some (.ref 64), some (.int (zI wy)), some (.int (zI mv)), some (.int (zI sl)), some (.int (zI se)), some (.int (zI v1))], [.ref (64 + es5.length)], es7)
    refine x0 (r := (99, [some (.ref 64), some (.int (zI wy)), some (.int (zI mv)), some (.int (zI sl)), some (.int (zI se)), some (.int (zI v1))], [.int (zI v1), .ref (64 + es5.length)], es7)) i_123_97 rfl ?_
    refine x0 (r := (100, [some (.ref 64), some (.int (zI wy)), some (.int (zI mv)), some (.int (zI sl)), some (.int (zI se)), some (.int (zI v1))], [.int (zI mv), .int (zI v1), .ref (64 + es5.length)], es7)) i_123_99 rfl ?_
    refine x0 (r := (101, [some (.ref 64), some (.int (zI wy)), some (.int (zI mv)), some (.int (zI sl)), some (.int (zI se)), some (.int (zI v1))], [.int (zI sl), .int (zI mv), .int (zI v1), .ref (64 + es5.length)], es7)) i_123_100 rfl ?_
    refine x_call (vs := [.ref (64 + es5.length), .int (zI v1), .int (zI mv), .int (zI sl)]) (rs := []) i_123_101 rfl (fun _ => rfl) rfl rfl rfl rfl rfl (pCall_p hw7.2.2.1 rfl rfl rfl rfl (by decide) rfl rfl rfl rfl rfl) ?_
    show aW _ _ _ _ _ _ (0, [some (.ref (64 + es5.length)), some (.int (zI v1)), some (.int (zI mv)), some (.int (zI sl)), none, none, none, none], [], es7)
    refine s_fill0 (sh_of hw7.1) hw7.2.2.1 ⟨by omega, by omega⟩ hmv hsl ?_
    refine fillB_spec (d := d' + 2) hn hlen5 f05.1 ⟨by omega, by omega⟩ hmv hsl (fun es8 sd8 n8 hw8 => ?_) _ 0 es7 se _ _ _ rfl hw7 ⟨by omega, by omega⟩
    show aW _ _ _ _ _ _ (104, [some (.ref 64), some (.int (zI wy)), some (.int (zI mv)), some (.int (zI sl)), some (.int (zI se)), some (.int (zI v1))], [], es8)
    refine x0 (r := (106, [some (.ref 64), some (.int (zI wy)), some (.int (zI mv)), some (.int (zI sl)), some (.int (zI se)), some (.int (zI v1))], [.int (zI v1)], es8)) i_123_104 rfl ?_
    refine x_ret (v := some (.int (zI v1))) i_123_106 rfl (fun _ => rfl) rfl rfl rfl ?_
    have k8 : gI es8 7 5 = gI es20 7 5 := keepI hw8.2.1 (sh_of hT20) (p := 7) (b := 5) rfl (by decide)
    have k20 : (gI es20 7 5).toInt = v19 + 1 := by rw [he20, gI_sI (sh_of hT18) (p := 7) (b := 5) rfl (by decide), zI_toInt (by unfold i32 iLO iHI; omega)]
    have ev1 : v1 = (gI es 7 5).toInt := by rw [hv1, hB2]
    exact K _ _ _ _ ⟨sh_of hw8.1, trivial, Or.inr (Or.inr ⟨by rw [ev1], ⟨⟨hwy.1, hwy.2, hmv.1, hmv.2, hsl.1, hsl.2⟩, hB⟩, by show (gI es8 7 5).toInt = _; rw [k8, k20]; omega⟩)⟩
  exact s_cw0 (d := d' + 8) (kc := 0) (ks := 0) (sh_of hT) i1 i2 i3 i4 hT (fun c0 c1 => thr0 (by omega)) (fun c0 c1 c2 => thr0 (by omega)) (fun c0 c1 c2 c3 => thr0 (by omega)) (fun c0 c1 c2 c3 c4 c5 c6 c7 => go ⟨by omega, by omega⟩ ⟨by omega, by omega⟩ ⟨by omega, by omega⟩ (by omega)) (fun c0 c1 c2 c3 c4 c5 c6 c7 => thr1 (by omega) (by omega)) (fun c0 c1 c2 c3 c4 => thr0 (by omega)) (fun c0 c1 => thr0 (by omega)) (fun c0 c1 c2 => thr0 (by omega)) (fun c0 c1 c2 c3 => thr0 (by omega)) (fun c0 c1 c2 c3 c4 => thr0 (by omega)) (fun c0 c1 c2 c3 c4 c5 c6 c7 c8 => go ⟨by omega, by omega⟩ ⟨by omega, by omega⟩ ⟨by omega, by omega⟩ (by omega)) (fun c0 c1 c2 c3 c4 c5 c6 c7 c8 => thr1 (by omega) (by omega)) (fun c0 c1 c2 c3 c4 c5 => thr0 (by omega))
theorem fn_writex {xs : Nat → Int32} {n d' : Nat} {es : PH} {wy mv sl se : Int} (hn : n ≤ 3584) (i1 : i32 wy) (i2 : i32 mv) (i3 : i32 sl) (i4 : i32 se) (hT : hOK tT es) : aW (pO0 xs n) (d' + 9) 123 0 0 (fun o => writexP wy mv sl se es o.1 o.2.1) (0, [some (.ref 64), some (.int (zI wy)), some (.int (zI mv)), some (.int (zI sl)), some (.int (zI se)), none], [], es) := fn_writexK hn i1 i2 i3 i4 hT (fun r es1 kc ks h => h)
theorem s_writey0 {O : pOut} {d kc ks : Nat} {Q : pRes → Prop} {es : PH} {wy mv sl se : Int} (hs_es : sh es)
    (K1 : aW O d 285 kc ks Q (9, [some (.ref 64), some (.int (zI wy)), some (.int (zI mv)), some (.int (zI sl)), some (.int (zI se)), some (.ref 171), none], [.int (zI se), .int (zI sl), .int (zI mv), .int (zI wy), .ref 64, .int (zI 0), .ref 171], es)) :
    aW O d 285 kc ks Q (0, [some (.ref 64), some (.int (zI wy)), some (.int (zI mv)), some (.int (zI sl)), some (.int (zI se)), some (.ref 171), none], [], es) := by
  refine x0 (r := (2, [some (.ref 64), some (.int (zI wy)), some (.int (zI mv)), some (.int (zI sl)), some (.int (zI se)), some (.ref 171), none], [.ref 171], es)) i_285_0 rfl ?_
  refine x0 (r := (3, [some (.ref 64), some (.int (zI wy)), some (.int (zI mv)), some (.int (zI sl)), some (.int (zI se)), some (.ref 171), none], [.int (zI 0), .ref 171], es)) i_285_2 (by rfl) ?_
  refine x0 (r := (4, [some (.ref 64), some (.int (zI wy)), some (.int (zI mv)), some (.int (zI sl)), some (.int (zI se)), some (.ref 171), none], [.ref 64, .int (zI 0), .ref 171], es)) i_285_3 rfl ?_
  refine x0 (r := (5, [some (.ref 64), some (.int (zI wy)), some (.int (zI mv)), some (.int (zI sl)), some (.int (zI se)), some (.ref 171), none], [.int (zI wy), .ref 64, .int (zI 0), .ref 171], es)) i_285_4 rfl ?_
  refine x0 (r := (6, [some (.ref 64), some (.int (zI wy)), some (.int (zI mv)), some (.int (zI sl)), some (.int (zI se)), some (.ref 171), none], [.int (zI mv), .int (zI wy), .ref 64, .int (zI 0), .ref 171], es)) i_285_5 rfl ?_
  refine x0 (r := (7, [some (.ref 64), some (.int (zI wy)), some (.int (zI mv)), some (.int (zI sl)), some (.int (zI se)), some (.ref 171), none], [.int (zI sl), .int (zI mv), .int (zI wy), .ref 64, .int (zI 0), .ref 171], es)) i_285_6 rfl ?_
  refine x0 (r := (9, [some (.ref 64), some (.int (zI wy)), some (.int (zI mv)), some (.int (zI sl)), some (.int (zI se)), some (.ref 171), none], [.int (zI se), .int (zI sl), .int (zI mv), .int (zI wy), .ref 64, .int (zI 0), .ref 171], es)) i_285_7 rfl ?_
  exact K1
theorem s_writey1 {O : pOut} {d kc ks : Nat} {Q : pRes → Prop} {es : PH} {wy mv sl se v : Int} (hs_es : sh es)
    (K1 : ∀ es1 : PH, es1 = sJ es 107 (Int.toNat 0) ((zI v).toInt64) → Q (.inl (some (.int (zI 0))), es1, kc, ks)) :
    aW O d 285 kc ks Q (12, [some (.ref 64), some (.int (zI wy)), some (.int (zI mv)), some (.int (zI sl)), some (.int (zI se)), some (.ref 171), none], [.int (zI v), .int (zI 0), .ref 171], es) := by
  refine x0 (r := (13, [some (.ref 64), some (.int (zI wy)), some (.int (zI mv)), some (.int (zI sl)), some (.int (zI se)), some (.ref 171), none], [.long ((zI v).toInt64), .int (zI 0), .ref 171], es)) i_285_12 rfl ?_
  refine x_last (p := 107) i_285_13 hs_es rfl (by unfold i32 iLO iHI; omega) (by omega) (by omega) ?_
  obtain ⟨es1, e_es1⟩ : ∃ z : PH, z = sJ es 107 (Int.toNat 0) ((zI v).toInt64) := ⟨_, rfl⟩
  have hs_es1 : sh es1 := by rw [e_es1]; exact sh_sJ hs_es
  rw [← e_es1]
  refine x0 (r := (25, [some (.ref 64), some (.int (zI wy)), some (.int (zI mv)), some (.int (zI sl)), some (.int (zI se)), some (.ref 171), none], [], es1)) i_285_14 rfl ?_
  refine x0 (r := (26, [some (.ref 64), some (.int (zI wy)), some (.int (zI mv)), some (.int (zI sl)), some (.int (zI se)), some (.ref 171), none], [.int (zI 0)], es1)) i_285_25 (by rfl) ?_
  refine x_ret (v := some (.int (zI 0))) i_285_26 rfl (fun _ => rfl) rfl rfl rfl ?_
  exact K1 es1 e_es1
theorem s_writey19 {O : pOut} {d kc ks : Nat} {Q : pRes → Prop} {es : PH} {wy mv sl se : Int} (hs_es : sh es)
    (K1 : Q (.inl (some (.int (zI 1))), es, kc, ks)) :
    aW O d 285 kc ks Q (19, [some (.ref 64), some (.int (zI wy)), some (.int (zI mv)), some (.int (zI sl)), some (.int (zI se)), some (.ref 171), none], [], es) := by
  refine x0 (r := (20, [some (.ref 64), some (.int (zI wy)), some (.int (zI mv)), some (.int (zI sl)), some (.int (zI se)), some (.ref 171), none], [.int (zI 1)], es)) i_285_19 (by rfl) ?_
  refine x_ret (v := some (.int (zI 1))) i_285_20 rfl (fun _ => rfl) rfl rfl rfl ?_
  exact K1
theorem s_writey23 {O : pOut} {d kc ks : Nat} {Q : pRes → Prop} {es : PH} {wy mv sl se : Int} (hs_es : sh es)
    (K1 : Q (.inl (some (.int (zI 2))), es, kc, ks)) :
    aW O d 285 kc ks Q (23, [some (.ref 64), some (.int (zI wy)), some (.int (zI mv)), some (.int (zI sl)), some (.int (zI se)), some (.ref 171), none], [], es) := by
  refine x0 (r := (24, [some (.ref 64), some (.int (zI wy)), some (.int (zI mv)), some (.int (zI sl)), some (.int (zI se)), some (.ref 171), none], [.int (zI 2)], es)) i_285_23 (by rfl) ?_
  refine x_ret (v := some (.int (zI 2))) i_285_24 rfl (fun _ => rfl) rfl rfl rfl ?_
  exact K1
def writeyP (wy : Int) (mv : Int) (sl : Int) (se : Int) (es : PH) (r : Option Value ⊕ Nat) (es1 : PH) : Prop := sh es1 ∧ True ∧ ∃ k : Int, r = .inl (some (.int (zI k))) ∧ ((k = 1 ∧ (wy < 0 ∨ 1 < wy ∨ mv < 1 ∨ 24 < mv ∨ sl < 0 ∨ 9 < sl) ∧ gI es1 7 5 = gI es 7 5) ∨ (k = 2 ∧ ((0 ≤ wy ∧ wy ≤ 1 ∧ 1 ≤ mv ∧ mv ≤ 24 ∧ 0 ≤ sl ∧ sl ≤ 9) ∧ 3 ≤ (gI es 7 5).toInt) ∧ gI es1 7 5 = gI es 7 5) ∨ (k = 0 ∧ ((0 ≤ wy ∧ wy ≤ 1 ∧ 1 ≤ mv ∧ mv ≤ 24 ∧ 0 ≤ sl ∧ sl ≤ 9) ∧ (gI es 7 5).toInt < 3) ∧ (gI es1 7 5).toInt = (gI es 7 5).toInt + 1 ∧ (gJ es1 107 (Int.toNat 0)).toInt = (gI es 7 5).toInt))
theorem fn_writey {xs : Nat → Int32} {n d : Nat} {es : PH} {wy mv sl se : Int} (hn : n ≤ 3584) (i1 : i32 wy) (i2 : i32 mv) (i3 : i32 sl) (i4 : i32 se) (hT : hOK tT es) : aW (pO0 xs n) (d + 10) 285 0 0 (fun o => writeyP wy mv sl se es o.1 o.2.1) (0, [some (.ref 64), some (.int (zI wy)), some (.int (zI mv)), some (.int (zI sl)), some (.int (zI se)), some (.ref 171), none], [], es) := by
  refine s_writey0 (sh_of hT) ?_
  refine x_call (vs := [.ref 64, .int (zI wy), .int (zI mv), .int (zI sl), .int (zI se)]) (rs := [.int (zI 0), .ref 171]) i_285_9 rfl (fun _ => rfl) rfl rfl rfl rfl rfl (pCall_v (p := 0) (sh_of hT) rfl rfl rfl rfl rfl (by decide) rfl rfl rfl rfl rfl) ?_
  show aW _ _ _ _ _ _ (0, [some (.ref 64), some (.int (zI wy)), some (.int (zI mv)), some (.int (zI sl)), some (.int (zI se)), none], [], es)
  refine aW_mono (Nat.le_refl _) (fun o ho => ?_) (fn_writex (xs := xs) (d' := d) hn i1 i2 i3 i4 hT)
  obtain ⟨r, es', kc', ks'⟩ := o
  obtain ⟨hs1, hcm, h⟩ : writexP wy mv sl se es r es' := ho
  rcases h with ⟨rfl, hc, g0⟩ | ⟨rfl, hc, g0⟩ | ⟨rfl, hc, g0⟩
  · refine ⟨_, _, _, _, rfl, rfl, rfl, ?_⟩
    show aW _ _ _ _ _ _ (19, [some (.ref 64), some (.int (zI wy)), some (.int (zI mv)), some (.int (zI sl)), some (.int (zI se)), some (.ref 171), none], [], es')
    exact s_writey19 hs1 ⟨hs1, hcm, 1, rfl, Or.inl ⟨rfl, hc, g0⟩⟩
  · refine ⟨_, _, _, _, rfl, rfl, rfl, ?_⟩
    show aW _ _ _ _ _ _ (23, [some (.ref 64), some (.int (zI wy)), some (.int (zI mv)), some (.int (zI sl)), some (.int (zI se)), some (.ref 171), none], [], es')
    exact s_writey23 hs1 ⟨hs1, hcm, 2, rfl, Or.inr (Or.inl ⟨rfl, hc, g0⟩)⟩
  · refine aK_inl ?_
    show aW _ _ _ _ _ _ (12, [some (.ref 64), some (.int (zI wy)), some (.int (zI mv)), some (.int (zI sl)), some (.int (zI se)), some (.ref 171), none], [.int (zI ((gI es 7 5).toInt)), .int (zI 0), .ref 171], es')
    refine s_writey1 hs1 (fun es1 e_es1 => ?_)
    have g9 : (gJ es1 107 (Int.toNat 0)).toInt = (gI es 7 5).toInt := by
      rw [e_es1, gJ_sJ hs1 (p := 107) (n := 1) rfl]
      unfold vp_updL
      rw [if_pos rfl, i2l_int (i32_rng _)]
    exact ⟨by show sh es1; rw [e_es1]; exact sh_sJ hs1, trivial, 0, rfl, Or.inr (Or.inr (⟨rfl, hc, by rw [e_es1, gI_sJ]; exact g0, g9⟩))⟩
section
variable {O : pOut} {I : PH → Prop}
def kc_460 : aCon := (274, 6, ([(.negSucc 2147483647, .ofNat 2147483647), (.negSucc 2147483647, .ofNat 2147483647), (.negSucc 2147483647, .ofNat 2147483647), (.negSucc 2147483647, .ofNat 2147483647), (.ofNat 0, .ofNat 3), (.ofNat 1, .ofNat 5)], []), [(1, (.ofNat 143, [])), (0, (.ofNat 0, [(.ofNat 1, 0)])), (0, (.ofNat 0, [(.ofNat 1, 1)])), (0, (.ofNat 0, [(.ofNat 1, 2)])), (0, (.ofNat 0, [(.ofNat 1, 3)]))], [(80, 0, (.ofNat 1, []), (.ofNat 0, [(.ofNat 1, 4)])), (80, 0, (.ofNat 0, []), (.ofNat 0, [(.ofNat 1, 5)]))], [(79, 2, 0, 1), (80, 0, 1, 2), (79, 53, 0, 1), (88, 0, 0, 40176), (87, 0, 0, 1116), (80, 0, 119, 413)], [(([(.negSucc 2147483647, .negSucc 0), (.negSucc 2147483647, .ofNat 2147483647), (.negSucc 2147483647, .ofNat 2147483647), (.negSucc 2147483647, .ofNat 2147483647), (.ofNat 0, .ofNat 3), (.ofNat 1, .ofNat 5)], []), (1, (0, (.ofNat 0, []))), [(79, 2, (.ofNat 0, []), (.ofNat 1, [])), (80, 0, (.ofNat 1, []), (.ofNat 0, [(.ofNat 1, 4)]))], 0, 0), (([(.ofNat 2, .ofNat 2147483647), (.negSucc 2147483647, .ofNat 2147483647), (.negSucc 2147483647, .ofNat 2147483647), (.negSucc 2147483647, .ofNat 2147483647), (.ofNat 0, .ofNat 3), (.ofNat 1, .ofNat 5)], []), (1, (0, (.ofNat 0, []))), [(79, 2, (.ofNat 0, []), (.ofNat 1, [])), (80, 0, (.ofNat 1, []), (.ofNat 0, [(.ofNat 1, 4)]))], 0, 0), (([(.ofNat 0, .ofNat 1), (.negSucc 2147483647, .ofNat 0), (.negSucc 2147483647, .ofNat 2147483647), (.negSucc 2147483647, .ofNat 2147483647), (.ofNat 0, .ofNat 3), (.ofNat 1, .ofNat 5)], []), (1, (0, (.ofNat 0, []))), [(79, 2, (.ofNat 0, []), (.ofNat 1, [])), (80, 0, (.ofNat 1, []), (.ofNat 0, [(.ofNat 1, 4)]))], 0, 0), (([(.ofNat 0, .ofNat 1), (.ofNat 25, .ofNat 2147483647), (.negSucc 2147483647, .ofNat 2147483647), (.negSucc 2147483647, .ofNat 2147483647), (.ofNat 0, .ofNat 3), (.ofNat 1, .ofNat 5)], []), (1, (0, (.ofNat 0, []))), [(79, 2, (.ofNat 0, []), (.ofNat 1, [])), (80, 0, (.ofNat 1, []), (.ofNat 0, [(.ofNat 1, 4)]))], 0, 0), (([(.ofNat 0, .ofNat 1), (.ofNat 1, .ofNat 24), (.negSucc 2147483647, .negSucc 0), (.negSucc 2147483647, .ofNat 2147483647), (.ofNat 0, .ofNat 3), (.ofNat 1, .ofNat 5)], []), (1, (0, (.ofNat 0, []))), [(79, 2, (.ofNat 0, []), (.ofNat 1, [])), (80, 0, (.ofNat 1, []), (.ofNat 0, [(.ofNat 1, 4)]))], 0, 0), (([(.ofNat 0, .ofNat 1), (.ofNat 1, .ofNat 24), (.ofNat 10, .ofNat 2147483647), (.negSucc 2147483647, .ofNat 2147483647), (.ofNat 0, .ofNat 3), (.ofNat 1, .ofNat 5)], []), (1, (0, (.ofNat 0, []))), [(79, 2, (.ofNat 0, []), (.ofNat 1, [])), (80, 0, (.ofNat 1, []), (.ofNat 0, [(.ofNat 1, 4)]))], 0, 0), (([(.ofNat 0, .ofNat 1), (.ofNat 1, .ofNat 24), (.ofNat 0, .ofNat 9), (.negSucc 2147483647, .ofNat 2147483647), (.ofNat 3, .ofNat 3), (.ofNat 1, .ofNat 5)], []), (1, (0, (.ofNat 0, []))), [(79, 2, (.ofNat 0, []), (.ofNat 2, [])), (80, 0, (.ofNat 1, []), (.ofNat 0, [(.ofNat 1, 4)]))], 0, 0), (([(.ofNat 0, .ofNat 1), (.ofNat 1, .ofNat 24), (.ofNat 0, .ofNat 9), (.negSucc 2147483647, .ofNat 2147483647), (.ofNat 0, .ofNat 2), (.ofNat 1, .ofNat 5)], []), (1, (0, (.ofNat 0, [(.ofNat 1, 4)]))), [(79, 2, (.ofNat 0, []), (.ofNat 0, [])), (80, 0, (.ofNat 1, []), (.ofNat 1, [(.ofNat 1, 4)]))], 0, 0), (([(.ofNat 0, .ofNat 1), (.ofNat 1, .ofNat 24), (.ofNat 0, .ofNat 9), (.negSucc 2147483647, .ofNat 2147483647), (.ofNat 0, .ofNat 2), (.ofNat 1, .ofNat 5)], []), (1, (0, (.ofNat 0, [(.ofNat 1, 4)]))), [(79, 2, (.ofNat 0, []), (.ofNat 0, [])), (80, 0, (.ofNat 1, []), (.ofNat 1, [(.ofNat 1, 4)]))], 0, 0)])
def kq_460 : List aCut := [(133, ([(.ofNat 0, .ofNat 1), (.ofNat 1, .ofNat 24), (.ofNat 0, .ofNat 9), (.negSucc 2147483647, .ofNat 2147483647), (.ofNat 0, .ofNat 2), (.ofNat 1, .ofNat 5), (.ofNat 0, .ofNat 24)], []), [(1, (.ofNat 143, [])), (0, (.ofNat 0, [(.ofNat 1, 0)])), (0, (.ofNat 0, [(.ofNat 1, 1)])), (0, (.ofNat 0, [(.ofNat 1, 2)])), aX, (0, (.ofNat 0, [(.ofNat 1, 4)])), (0, (.ofNat 0, [(.ofNat 1, 6)])), aX, aX, aX, aX, aX, aX, aX], [], [(79, 2, (.ofNat 0, []), (.ofNat 0, [])), (80, 0, (.ofNat 1, []), (.ofNat 1, [(.ofNat 1, 4)])), (80, 0, (.ofNat 120, [(.ofNat 98, 4)]), (.ofNat 0, [(.ofNat 1, 6)])), (80, 0, (.ofNat 0, []), (.ofNat 0, [(.ofNat 1, 5)]))], (.ofNat 105312291668557186698453245568435167274296675005575541575668203520, [(.negSucc 22300745198530623141535718272648361505980415, 6)]), [(143, 12, 0)]),
  (326, ([(.ofNat 0, .ofNat 1), (.ofNat 1, .ofNat 24), (.ofNat 0, .ofNat 9), (.negSucc 2147483647, .ofNat 2147483647), (.ofNat 0, .ofNat 2), (.ofNat 1, .ofNat 5), (.ofNat 0, .ofNat 23), (.negSucc 0, .ofNat 1295), (.ofNat 0, .ofNat 4), (.negSucc 4, .ofNat 5), (.negSucc 4, .ofNat 11)], []), [(1, (.ofNat 143, [])), (0, (.ofNat 0, [(.ofNat 1, 0)])), (0, (.ofNat 0, [(.ofNat 1, 1)])), (0, (.ofNat 0, [(.ofNat 1, 2)])), aX, (0, (.ofNat 0, [(.ofNat 1, 4)])), (0, (.ofNat 0, [(.ofNat 1, 6)])), aX, (0, (.ofNat 0, [(.ofNat 1, 7)])), aX, (0, (.ofNat 0, [(.ofNat 1, 8)])), (0, (.ofNat 0, [(.ofNat 1, 9)])), (0, (.ofNat 0, [(.ofNat 1, 10)])), aX], [], [(79, 2, (.ofNat 0, []), (.ofNat 0, [])), (80, 0, (.ofNat 1, []), (.ofNat 1, [(.ofNat 1, 4)])), (80, 0, (.ofNat 120, [(.ofNat 98, 4)]), (.ofNat 0, [(.ofNat 1, 6)])), (80, 0, (.ofNat 0, []), (.ofNat 0, [(.ofNat 1, 5)]))], (.ofNat 105312291668557186698453245568435167274291957361459154800099721216, [(.negSucc 22300745198530623141535718272648361505980415, 6)]), [(143, 12, 0)]),
  (324, ([(.ofNat 0, .ofNat 1), (.ofNat 1, .ofNat 24), (.ofNat 1, .ofNat 9), (.negSucc 2147483647, .ofNat 2147483647), (.ofNat 0, .ofNat 2), (.ofNat 1, .ofNat 5), (.ofNat 0, .ofNat 23), (.negSucc 0, .ofNat 1295), (.ofNat 0, .ofNat 4), (.negSucc 4, .ofNat 5), (.negSucc 3, .ofNat 11)], []), [(1, (.ofNat 143, [])), (0, (.ofNat 0, [(.ofNat 1, 0)])), (0, (.ofNat 0, [(.ofNat 1, 1)])), (0, (.ofNat 0, [(.ofNat 1, 2)])), aX, (0, (.ofNat 0, [(.ofNat 1, 4)])), (0, (.ofNat 0, [(.ofNat 1, 6)])), aX, (0, (.ofNat 0, [(.ofNat 1, 7)])), aX, (0, (.ofNat 0, [(.ofNat 1, 8)])), (0, (.ofNat 0, [(.ofNat 1, 9)])), aX, aX], [(0, (.ofNat 0, [(.ofNat 1, 10)]))], [(79, 2, (.ofNat 0, []), (.ofNat 0, [])), (80, 0, (.ofNat 1, []), (.ofNat 1, [(.ofNat 1, 4)])), (80, 0, (.ofNat 120, [(.ofNat 98, 4)]), (.ofNat 0, [(.ofNat 1, 6)])), (80, 0, (.ofNat 0, []), (.ofNat 0, [(.ofNat 1, 5)]))], (.ofNat 105312291668557186698453245568435167274291962083825637669744934912, [(.negSucc 22300745198530623141535718272648361505980415, 6)]), [(143, 12, 0)]),
  (302, ([(.ofNat 0, .ofNat 1), (.ofNat 1, .ofNat 24), (.ofNat 1, .ofNat 9), (.negSucc 2147483647, .ofNat 2147483647), (.ofNat 0, .ofNat 2), (.ofNat 1, .ofNat 5), (.ofNat 0, .ofNat 23), (.negSucc 0, .ofNat 1295), (.ofNat 0, .ofNat 4), (.negSucc 4, .ofNat 10), (.negSucc 3, .ofNat 5)], []), [(1, (.ofNat 143, [])), (0, (.ofNat 0, [(.ofNat 1, 0)])), (0, (.ofNat 0, [(.ofNat 1, 1)])), (0, (.ofNat 0, [(.ofNat 1, 2)])), aX, (0, (.ofNat 0, [(.ofNat 1, 4)])), (0, (.ofNat 0, [(.ofNat 1, 6)])), aX, (0, (.ofNat 0, [(.ofNat 1, 7)])), aX, (0, (.ofNat 0, [(.ofNat 1, 8)])), aX, (0, (.ofNat 0, [(.ofNat 1, 9)])), aX], [(0, (.ofNat 0, [(.ofNat 1, 10)]))], [(79, 2, (.ofNat 0, []), (.ofNat 0, [])), (80, 0, (.ofNat 1, []), (.ofNat 1, [(.ofNat 1, 4)])), (80, 0, (.ofNat 120, [(.ofNat 98, 4)]), (.ofNat 0, [(.ofNat 1, 6)])), (80, 0, (.ofNat 0, []), (.ofNat 0, [(.ofNat 1, 5)]))], (.ofNat 105312291668557186698453245568435167274291966806192120539390148608, [(.negSucc 22300745198530623141535718272648361505980415, 6)]), [(143, 12, 0)])]
/-- yX12_write 143 _ _ _ _ -/
theorem kv_460 (w : aWd O I) (hm_323 : conOK O gG I kc_323) : conOK O gG I kc_460 := ckMeth_ok w.1 w.2.1 (CL := [kc_322, kc_328, kc_330, kc_374, kc_329, kc_348]) (cl_cons (kv_322 w) (cl_cons (kv_328 w hm_323) (cl_cons (kv_330 w) (cl_cons (kv_374 w) (cl_cons (kv_329 w) (cl_cons (kv_348 w) (cl_nil))))))) w.2.2 (cuts := kq_460) (inl := gInl) (fuel := 1000000) (row := _) rfl (by decide +kernel)
end
def writemP (wy mv sl : Int) (es : PH) (r : Option Value ⊕ Nat) (es1 : PH) : Prop := sh es1 ∧ ∃ v : Int, r = .inl (some (.int (zI v))) ∧ i32 v ∧ (((gI es1 79 0).toInt = 1 ∧ (wy < 0 ∨ 1 < wy ∨ mv < 1 ∨ 24 < mv ∨ sl < 0 ∨ 9 < sl) ∧ gA es1 80 1 = gA es 80 1) ∨ ((gI es1 79 0).toInt = 2 ∧ ((0 ≤ wy ∧ wy ≤ 1 ∧ 1 ≤ mv ∧ mv ≤ 24 ∧ 0 ≤ sl ∧ sl ≤ 9) ∧ (gA es 80 1).toInt = 3) ∧ gA es1 80 1 = gA es 80 1) ∨ ((gI es1 79 0).toInt = 0 ∧ ((0 ≤ wy ∧ wy ≤ 1 ∧ 1 ≤ mv ∧ mv ≤ 24 ∧ 0 ≤ sl ∧ sl ≤ 9) ∧ (gA es 80 1).toInt < 3) ∧ v = (gA es 80 1).toInt ∧ (gA es1 80 1).toInt = (gA es 80 1).toInt + 1))
theorem fn_writem0 {xs : Nat → Int32} {n d' : Nat} {es : PH} {wy mv sl se : Int} {Q : pRes → Prop} (hn : n ≤ 3584) (i1 : i32 wy) (i2 : i32 mv) (i3 : i32 sl) (i4 : i32 se) (hT : hOK tT es) (hI : gInv es) (hb1 : 0 ≤ (gA es 80 0).toInt ∧ (gA es 80 0).toInt ≤ 5) (hb3 : 0 ≤ (gA es 80 1).toInt ∧ (gA es 80 1).toInt ≤ 3) (hκ0 : (gA es 80 0).toInt = 0) (K : ∀ r es1 kc ks, writemP wy mv sl es r es1 → Q (r, es1, kc, ks)) : aW (pO0 xs n) (d' + 7) 274 0 0 Q (0, [some (.ref 143), some (.int (zI wy)), some (.int (zI mv)), some (.int (zI sl)), some (.int (zI se)), none, none, none, none, none, none, none, none, none], [], es) := by
    have hstart := hI.2.2.2.1 hκ0
    have hlen : 108 ≤ es.length := by have := hI.1; rw [tT_len] at this; exact this
    have q0 : ∀ b : Int, 0 ≤ b ∧ b ≤ 2 → sh (sI (sI es 79 0 (.int (zI 0))) 79 0 (.int (zI b))) ∧ (gI (sI (sI es 79 0 (.int (zI 0))) 79 0 (.int (zI b))) 79 0).toInt = b ∧ gA (sI (sI es 79 0 (.int (zI 0))) 79 0 (.int (zI b))) 80 1 = gA es 80 1 := fun b hb => by
      have hs1 : sh (sI es 79 0 (.int (zI 0))) := sh_sI (sh_of hT) (p := 79) (b := 0) rfl rfl
      exact ⟨sh_sI hs1 (p := 79) (b := 0) rfl rfl, by rw [gI_sI hs1 (p := 79) (b := 0) rfl (by decide)]; exact zI_toInt (by unfold i32 iLO iHI; omega), by rw [gA_sI, gA_sI]⟩
    have i0 : i32 0 := by unfold i32 iLO iHI; omega
    have thr1 : (wy < 0 ∨ 1 < wy ∨ mv < 1 ∨ 24 < mv ∨ sl < 0 ∨ 9 < sl) → writemP wy mv sl es (.inl (some (.int (zI 0)))) (sI (sI es 79 0 (.int (zI 0))) 79 0 (.int (zI 1))) := fun h => ⟨(q0 1 (by omega)).1, 0, rfl, i0, Or.inl ⟨(q0 1 (by omega)).2.1, h, (q0 1 (by omega)).2.2⟩⟩
    have thr2 : (0 ≤ wy ∧ wy ≤ 1 ∧ 1 ≤ mv ∧ mv ≤ 24 ∧ 0 ≤ sl ∧ sl ≤ 9) → (gA es 80 1).toInt = 3 → writemP wy mv sl es (.inl (some (.int (zI 0)))) (sI (sI es 79 0 (.int (zI 0))) 79 0 (.int (zI 2))) := fun h h2 => ⟨(q0 2 (by omega)).1, 0, rfl, i0, Or.inr (Or.inl ⟨(q0 2 (by omega)).2.1, ⟨h, h2⟩, (q0 2 (by omega)).2.2⟩)⟩
    refine s_write0 (d := d' + 6) (kc := 0) (ks := 0) (sh_of hT) i1 i2 i3 i4 hT ?_ ?_ ?_ ?_ ?_ ?_ ?_ ?_
    · intro es1 he1 c1 es3 he3; subst he1; subst he3; exact K _ _ _ _ (thr1 (by omega))
    · intro es1 he1 c1 c2 es3 he3; subst he1; subst he3; exact K _ _ _ _ (thr1 (by omega))
    · intro es1 he1 c1 c2 c3 es3 he3; subst he1; subst he3; exact K _ _ _ _ (thr1 (by omega))
    · intro es1 he1 c1 c2 c3 c4 es3 he3; subst he1; subst he3; exact K _ _ _ _ (thr1 (by omega))
    · intro es1 he1 c1 c2 c3 c4 c5 es3 he3; subst he1; subst he3; exact K _ _ _ _ (thr1 (by omega))
    · intro es1 he1 c1 c2 c3 c4 c5 c6 es3 he3; subst he1; subst he3; exact K _ _ _ _ (thr1 (by omega))
    · intro es1 he1 w1 w2 m1 m2 l1 l2 v14 hv14 hne v16 hv16 es17 he17 es18 he18 v19 hv19 es20 he20 es21 he21
      have hT1 : hOK tT es1 := by rw [he1]; exact thr_sI hT _
      have hb := gA_bd hT1 (p := 80) (t := 0) (n := 2125) (sp := tS80) (k := 1) rfl (by omega) (by decide)
      have hb' : 0 ≤ v16 ∧ v16 ≤ 3 := by rw [hv16]; exact hb
      have e14 : v14 = v16 := by rw [hv14, hv16]
      have hv2 : v16 ≤ 2 := by omega
      have x17 : (119 + (98 * v16)).toNat = 119 + 98 * v16.toNat := by omega
      have x18 : ((119 + (98 * v16)) + 1).toNat = 119 + 98 * v16.toNat + 1 := by omega
      have htab := tS80_bw v16.toNat (by omega)
      have hT17 : hOK tT es17 := by
        rw [he17, x17]
        exact hOK_sA hT1 (p := 80) (t := 0) (n := 2125) (sp := tS80) rfl (fun _ => by rw [htab.1, zI_toInt (by unfold i32 iLO iHI; omega)]; exact ⟨by show (0 : Int) ≤ wy; omega, by show wy ≤ (1 : Int); omega⟩)
      have hT18 : hOK tT es18 := by
        rw [he18, x18]
        exact hOK_sA hT17 (p := 80) (t := 0) (n := 2125) (sp := tS80) rfl (fun _ => by rw [htab.2, zI_toInt (by unfold i32 iLO iHI; omega)]; exact ⟨by show (0 : Int) ≤ 0; omega, by show (0 : Int) ≤ (24 : Int); omega⟩)
      have hv19' : v19 = v16 := by
        rw [hv19, he18, gA_sA (sh_of hT17) (p := 80) (t := 0) (n := 2125) (sp := tS80) rfl (by decide), he17, gA_sA (sh_of hT1) (p := 80) (t := 0) (n := 2125) (sp := tS80) rfl (by decide)]
        unfold upd
        rw [if_neg (by show ¬ (1 : Nat) = _; omega), if_neg (by show ¬ (1 : Nat) = _; omega)]
        exact hv16.symm
      have hT20 : hOK tT es20 := by
        rw [he20]
        exact hOK_sA hT18 (p := 80) (t := 0) (n := 2125) (sp := tS80) rfl (fun _ => by rw [zI_toInt (by unfold i32 iLO iHI; omega)]; exact ⟨by show (0 : Int) ≤ v19 + 1; omega, by show v19 + 1 ≤ (3 : Int); omega⟩)
      have hT21 : hOK tT es21 := by
        rw [he21]
        exact hOK_sI hT20 (p := 79) (b := 51) (lo := iLO) (hi := iHI) rfl rfl (i32_rng _)
      have f1 : fr kc_376.2.2.2.2.2.1 es es1 := by rw [he1]; exact fr_sI rfl
      have f17 : fr kc_376.2.2.2.2.2.1 es es17 := by rw [he17]; exact fr_trans f1 (fr_sA (mIn_of (lo := 119) (hi := 413) (by decide) (by omega) (by omega)))
      have f18 : fr kc_376.2.2.2.2.2.1 es es18 := by rw [he18]; exact fr_trans f17 (fr_sA (mIn_of (lo := 119) (hi := 413) (by decide) (by omega) (by omega)))
      have f20 : fr kc_376.2.2.2.2.2.1 es es20 := by rw [he20]; exact fr_trans f18 (fr_sA rfl)
      have f21 : fr kc_376.2.2.2.2.2.1 es es21 := by rw [he21]; exact fr_trans f20 (fr_sI rfl)
      -- the board
      refine x_call (vs := [.ref 143]) (rs := []) i_274_127 rfl (fun _ => rfl) rfl rfl rfl rfl rfl (pCall_v (p := 79) (sh_of hT21) rfl rfl rfl rfl rfl (by decide) rfl rfl rfl rfl rfl) ?_
      show aW _ _ _ _ _ _ (0, [some (.ref 143), none], [], es21)
      refine begins_spec (sh_of hT21) (fun eb pb => ?_)
      show aW _ _ _ _ _ _ (130, [some (.ref 143), some (.int (zI wy)), some (.int (zI mv)), some (.int (zI sl)), some (.int (zI se)), some (.int (zI v16)), none, none, none, none, none, none, none, none], [], eb)
      have hTb := pb.2.1 hT21
      have fb : fr kc_376.2.2.2.2.2.1 es eb := fr_trans f21 (fr_sub (by decide) pb.2.2.1)
      refine s_write130 (d := d' + 7) pb.1 ⟨by omega, by omega⟩ (fun h => by omega) (fun _ => ?_)
      refine x_call (vs := [.ref 143, .int (zI 0), .int (zI (0 % 2))]) (rs := []) i_274_146 rfl (fun _ => rfl) rfl rfl rfl rfl rfl (pCall_v (p := 79) pb.1 rfl rfl rfl rfl rfl (by decide) rfl rfl rfl rfl rfl) ?_
      show aW _ _ _ _ _ _ (0, [some (.ref 143), some (.int (zI 0)), some (.int (zI (0 % 2))), none], [], eb)
      refine finds_spec (d := d' + 1) (dp := 0) (sd := 0 % 2) pb.1 (by omega) (by omega) hTb (fun ef pf => ?_)
      show aW _ _ _ _ _ _ (149, [some (.ref 143), some (.int (zI wy)), some (.int (zI mv)), some (.int (zI sl)), some (.int (zI se)), some (.int (zI v16)), some (.int (zI 0)), none, none, none, none, none, none, none], [], ef)
      have hrow0 : ∀ s, s < 36 → brow eb (0 : Int).toNat s < 0 := fun s hs => by
        unfold brow
        rw [if_pos hs, show 36 * (0 : Int).toNat + s = s by omega, pb.2.2.2 s hs]
        have e1 : gA es21 80 (13 + s) = gA es 80 (13 + s) := by
          refine fr_cell f21 (by omega) ?_
          rw [← Bool.not_eq_true]
          intro hm
          unfold mIn at hm
          rw [List.any_eq_true] at hm
          obtain ⟨m, hm1, hm2⟩ := hm
          simp only [kc_376, List.mem_cons, List.not_mem_nil, or_false] at hm1
          simp only [Bool.and_eq_true, beq_iff_eq, Nat.ble_eq, Nat.blt_eq] at hm2
          rcases hm1 with rfl | rfl | rfl | rfl | rfl | rfl <;> simp only at hm2 <;> omega
        rw [e1, hstart s hs]
        omega
      have hz : crow ef (0 : Int).toNat = fun _ => 0 := by
        have := pf.2.2.2
        rw [findF_none hrow0 36 0 _ (by omega)] at this
        exact this
      have hTf := pf.2.1 hTb
      have ff : fr kc_376.2.2.2.2.2.1 es ef := fr_trans fb (fr_sub (by decide) pf.2.2.1)
      refine s_write149 (d := d' + 7) pf.1 ?_
      refine x_call (vs := [.ref 143, .int (zI 0)]) (rs := []) i_274_152 rfl (fun _ => rfl) rfl rfl rfl rfl rfl (pCall_v (p := 79) pf.1 rfl rfl rfl rfl rfl (by decide) rfl rfl rfl rfl rfl) ?_
      show aW _ _ _ _ _ _ (0, [some (.ref 143), some (.int (zI 0)), none, none], [], ef)
      refine many_zero_spec (dp := 0) (by omega) pf.1 hz ?_
      show aW _ _ _ _ _ _ (155, [some (.ref 143), some (.int (zI wy)), some (.int (zI mv)), some (.int (zI sl)), some (.int (zI se)), some (.int (zI v16)), some (.int (zI 0)), none, none, none, none, none, none, none], [.int (zI 0)], ef)
      have f0b : gI ef 79 0 = gI es21 79 0 := (keepI pf.2.2.1 pb.1 (p := 79) (b := 0) rfl (by decide)).trans (keepI pb.2.2.1 (sh_of hT21) (p := 79) (b := 0) rfl (by decide))
      have f80 : gA ef 80 1 = gA es21 80 1 := (keepA pf.2.2.1 pb.1 (p := 80) (t := 0) (n := 2125) (sp := tS80) rfl (by decide) (by decide) 1 (by omega)).trans (keepA pb.2.2.1 (sh_of hT21) (p := 80) (t := 0) (n := 2125) (sp := tS80) rfl (by decide) (by decide) 1 (by omega))
      have e0 : (gI es21 79 0).toInt = 0 := by
        rw [he21, gI_sI_ne (Or.inr (by decide)), he20, gI_sA, he18, gI_sA, he17, gI_sA, he1, gI_sI (sh_of hT) (p := 79) (b := 0) rfl (by decide)]
        rfl
      have e80 : (gA es21 80 1).toInt = v16 + 1 := by
        rw [he21, gA_sI, he20, gA_sA (sh_of hT18) (p := 80) (t := 0) (n := 2125) (sp := tS80) rfl (by decide)]
        unfold upd
        rw [if_pos (show (1 : Nat) = Int.toNat 1 from rfl), zI_toInt (by unfold i32 iLO iHI; omega), hv19']
      have hvb : v16 = (gA es 80 1).toInt := by have h := hv16; rw [he1, gA_sI] at h; exact h
      refine s_write155 (d := d' + 7) pf.1 ?_
      exact K _ _ _ _ ⟨pf.1, v16, rfl, by unfold i32 iLO iHI; omega, Or.inr (Or.inr ⟨by show (gI ef 79 0).toInt = 0; rw [f0b]; exact e0, ⟨⟨by omega, by omega, by omega, by omega, by omega, by omega⟩, by omega⟩, hvb, by show (gA ef 80 1).toInt = _; rw [f80, e80]; omega⟩)⟩
    · intro es1 he1 c1 c2 c3 c4 c5 c6 v hv c7 es3 he3
      have hv1 : v = (gA es 80 1).toInt := by have h := hv; rw [he1, gA_sI] at h; exact h
      subst he1; subst he3
      exact K _ _ _ _ (thr2 ⟨by omega, by omega, by omega, by omega, by omega, by omega⟩ (by omega))
theorem fn_writem {xs : Nat → Int32} {n d' : Nat} {es : PH} {wy mv sl se : Int} (hn : n ≤ 3584) (i1 : i32 wy) (i2 : i32 mv) (i3 : i32 sl) (i4 : i32 se) (hT : hOK tT es) (hI : gInv es) : aW (pO0 xs n) (d' + 7) 274 0 0 (fun o => writemP wy mv sl es o.1 o.2.1) (0, [some (.ref 143), some (.int (zI wy)), some (.int (zI mv)), some (.int (zI sl)), some (.int (zI se)), none, none, none, none, none, none, none, none, none], [], es) := by
  have hb1 : 0 ≤ (gA es 80 0).toInt ∧ (gA es 80 0).toInt ≤ 5 := gA_bd hT (p := 80) (t := 0) (n := 2125) (sp := tS80) (k := 0) rfl (by omega) (by decide)
  have hb3 : 0 ≤ (gA es 80 1).toInt ∧ (gA es 80 1).toInt ≤ 3 := gA_bd hT (p := 80) (t := 0) (n := 2125) (sp := tS80) (k := 1) rfl (by omega) (by decide)
  by_cases hk : 1 ≤ (gA es 80 0).toInt
  · have hF2 : gFs (pO0 xs n) [wy, mv, sl, se, (gA es 80 1).toInt, (gA es 80 0).toInt] es kc_460.2.2.2.2.1 := by
      intro t ht
      rcases List.mem_cons.mp ht with rfl | ht
      · exact ⟨0, 2125, gA es 80, 1, sh_arr (sh_of hT) (p := 80) (t := 0) (n := 2125) (sp := tS80) rfl (by decide), rfl, (fV_ev rfl : evF [wy, mv, sl, se, (gA es 80 1).toInt, (gA es 80 0).toInt] (fV 4) = some (gA es 80 1).toInt)⟩
      · rcases List.mem_cons.mp ht with rfl | ht
        · exact ⟨0, 2125, gA es 80, 0, sh_arr (sh_of hT) (p := 80) (t := 0) (n := 2125) (sp := tS80) rfl (by decide), rfl, (fV_ev rfl : evF [wy, mv, sl, se, (gA es 80 1).toInt, (gA es 80 0).toInt] (fV 5) = some (gA es 80 0).toInt)⟩
        · cases ht
    have h := cpF_of (c := kc_460) (ρ := [wy, mv, sl, se, (gA es 80 1).toInt, (gA es 80 0).toInt]) (vs := [.ref 143, .int (zI wy), .int (zI mv), .int (zI sl), .int (zI se)]) (d := d' + 7) (I := gInv) (es := es) (kv_460 (aWd_I (xs := xs) hn) hm_off) rfl (by show 6 ≤ d' + 7; omega) (gE_cons' i1 (gE_cons' i2 (gE_cons' i3 (gE_cons' i4 (gE_cons' hb3 (gE_cons' ⟨hk, hb1.2⟩ gE_nil')))))) rfl (gS_consr (gS_consi i1 rfl (gS_consi i2 rfl (gS_consi i3 rfl (gS_consi i4 rfl gS_nil'))))) hT hI hF2
    refine aW_mono (Nat.le_refl _) (fun o ho => ?_) h
    obtain ⟨r, es', oc, ok⟩ := o
    obtain ⟨p1, pI, p2, out, hout, τ, q1, q2, q3, q4, q5, q6⟩ := ho
    simp only [kc_460, List.mem_cons, List.not_mem_nil, or_false] at hout
    rcases hout with rfl | rfl | rfl | rfl | rfl | rfl | rfl | rfl | rfl
    · obtain ⟨w, h3, x, rfl, hx⟩ := q6
      have b0 : wy ≤ -1 := (q1.2 0 wy rfl).2
      have f0 : (gI es' 79 0).toInt = 1 := fact_I (p := 79) (b := 0) (c := 1) (q3 _ List.mem_cons_self)
      have f1 := fact_A (p := 80) (k := 1) (q3 _ (List.mem_cons_of_mem _ List.mem_cons_self))
      have f2 : (gA es 80 1).toInt = (gA es' 80 1).toInt := Option.some.inj ((show evF ([wy, mv, sl, se, (gA es 80 1).toInt, (gA es 80 0).toInt] ++ τ) (fV 4) = some ((gA es 80 1).toInt) from fV_ev rfl).symm.trans f1)
      exact ⟨sh_of p1, x.toInt, by rw [zI_id]; exact h3, i32_rng x, Or.inl ⟨f0, by omega, Int32.toInt_inj.mp f2.symm⟩⟩
    · obtain ⟨w, h3, x, rfl, hx⟩ := q6
      have b0 : 2 ≤ wy := (q1.2 0 wy rfl).1
      have f0 : (gI es' 79 0).toInt = 1 := fact_I (p := 79) (b := 0) (c := 1) (q3 _ List.mem_cons_self)
      have f1 := fact_A (p := 80) (k := 1) (q3 _ (List.mem_cons_of_mem _ List.mem_cons_self))
      have f2 : (gA es 80 1).toInt = (gA es' 80 1).toInt := Option.some.inj ((show evF ([wy, mv, sl, se, (gA es 80 1).toInt, (gA es 80 0).toInt] ++ τ) (fV 4) = some ((gA es 80 1).toInt) from fV_ev rfl).symm.trans f1)
      exact ⟨sh_of p1, x.toInt, by rw [zI_id]; exact h3, i32_rng x, Or.inl ⟨f0, by omega, Int32.toInt_inj.mp f2.symm⟩⟩
    · obtain ⟨w, h3, x, rfl, hx⟩ := q6
      have b0 : mv ≤ 0 := (q1.2 1 mv rfl).2
      have f0 : (gI es' 79 0).toInt = 1 := fact_I (p := 79) (b := 0) (c := 1) (q3 _ List.mem_cons_self)
      have f1 := fact_A (p := 80) (k := 1) (q3 _ (List.mem_cons_of_mem _ List.mem_cons_self))
      have f2 : (gA es 80 1).toInt = (gA es' 80 1).toInt := Option.some.inj ((show evF ([wy, mv, sl, se, (gA es 80 1).toInt, (gA es 80 0).toInt] ++ τ) (fV 4) = some ((gA es 80 1).toInt) from fV_ev rfl).symm.trans f1)
      exact ⟨sh_of p1, x.toInt, by rw [zI_id]; exact h3, i32_rng x, Or.inl ⟨f0, by omega, Int32.toInt_inj.mp f2.symm⟩⟩
    · obtain ⟨w, h3, x, rfl, hx⟩ := q6
      have b0 : 25 ≤ mv := (q1.2 1 mv rfl).1
      have f0 : (gI es' 79 0).toInt = 1 := fact_I (p := 79) (b := 0) (c := 1) (q3 _ List.mem_cons_self)
      have f1 := fact_A (p := 80) (k := 1) (q3 _ (List.mem_cons_of_mem _ List.mem_cons_self))
      have f2 : (gA es 80 1).toInt = (gA es' 80 1).toInt := Option.some.inj ((show evF ([wy, mv, sl, se, (gA es 80 1).toInt, (gA es 80 0).toInt] ++ τ) (fV 4) = some ((gA es 80 1).toInt) from fV_ev rfl).symm.trans f1)
      exact ⟨sh_of p1, x.toInt, by rw [zI_id]; exact h3, i32_rng x, Or.inl ⟨f0, by omega, Int32.toInt_inj.mp f2.symm⟩⟩
    · obtain ⟨w, h3, x, rfl, hx⟩ := q6
      have b0 : sl ≤ -1 := (q1.2 2 sl rfl).2
      have f0 : (gI es' 79 0).toInt = 1 := fact_I (p := 79) (b := 0) (c := 1) (q3 _ List.mem_cons_self)
      have f1 := fact_A (p := 80) (k := 1) (q3 _ (List.mem_cons_of_mem _ List.mem_cons_self))
      have f2 : (gA es 80 1).toInt = (gA es' 80 1).toInt := Option.some.inj ((show evF ([wy, mv, sl, se, (gA es 80 1).toInt, (gA es 80 0).toInt] ++ τ) (fV 4) = some ((gA es 80 1).toInt) from fV_ev rfl).symm.trans f1)
      exact ⟨sh_of p1, x.toInt, by rw [zI_id]; exact h3, i32_rng x, Or.inl ⟨f0, by omega, Int32.toInt_inj.mp f2.symm⟩⟩
    · obtain ⟨w, h3, x, rfl, hx⟩ := q6
      have b0 : 10 ≤ sl := (q1.2 2 sl rfl).1
      have f0 : (gI es' 79 0).toInt = 1 := fact_I (p := 79) (b := 0) (c := 1) (q3 _ List.mem_cons_self)
      have f1 := fact_A (p := 80) (k := 1) (q3 _ (List.mem_cons_of_mem _ List.mem_cons_self))
      have f2 : (gA es 80 1).toInt = (gA es' 80 1).toInt := Option.some.inj ((show evF ([wy, mv, sl, se, (gA es 80 1).toInt, (gA es 80 0).toInt] ++ τ) (fV 4) = some ((gA es 80 1).toInt) from fV_ev rfl).symm.trans f1)
      exact ⟨sh_of p1, x.toInt, by rw [zI_id]; exact h3, i32_rng x, Or.inl ⟨f0, by omega, Int32.toInt_inj.mp f2.symm⟩⟩
    · obtain ⟨w, h3, x, rfl, hx⟩ := q6
      have b0 : 0 ≤ wy ∧ wy ≤ 1 := q1.2 0 wy rfl
      have b1 : 1 ≤ mv ∧ mv ≤ 24 := q1.2 1 mv rfl
      have b2 : 0 ≤ sl ∧ sl ≤ 9 := q1.2 2 sl rfl
      have b4 : 3 ≤ (gA es 80 1).toInt ∧ (gA es 80 1).toInt ≤ 3 := q1.2 4 _ rfl
      have f0 : (gI es' 79 0).toInt = 2 := fact_I (p := 79) (b := 0) (c := 2) (q3 _ List.mem_cons_self)
      have f1 := fact_A (p := 80) (k := 1) (q3 _ (List.mem_cons_of_mem _ List.mem_cons_self))
      have f2 : (gA es 80 1).toInt = (gA es' 80 1).toInt := Option.some.inj ((show evF ([wy, mv, sl, se, (gA es 80 1).toInt, (gA es 80 0).toInt] ++ τ) (fV 4) = some ((gA es 80 1).toInt) from fV_ev rfl).symm.trans f1)
      exact ⟨sh_of p1, x.toInt, by rw [zI_id]; exact h3, i32_rng x, Or.inr (Or.inl ⟨f0, ⟨⟨b0.1, b0.2, b1.1, b1.2, b2.1, b2.2⟩, by omega⟩, Int32.toInt_inj.mp f2.symm⟩)⟩
    · obtain ⟨w, h3, x, rfl, hx⟩ := q6
      have b0 : 0 ≤ wy ∧ wy ≤ 1 := q1.2 0 wy rfl
      have b1 : 1 ≤ mv ∧ mv ≤ 24 := q1.2 1 mv rfl
      have b2 : 0 ≤ sl ∧ sl ≤ 9 := q1.2 2 sl rfl
      have b4 : 0 ≤ (gA es 80 1).toInt ∧ (gA es 80 1).toInt ≤ 2 := q1.2 4 _ rfl
      have f0 : (gI es' 79 0).toInt = 0 := fact_I (p := 79) (b := 0) (c := 0) (q3 _ List.mem_cons_self)
      have f1 := fact_A (p := 80) (k := 1) (q3 _ (List.mem_cons_of_mem _ List.mem_cons_self))
      have f2 : 1 + (gA es 80 1).toInt = (gA es' 80 1).toInt := Option.some.inj ((show evF ([wy, mv, sl, se, (gA es 80 1).toInt, (gA es 80 0).toInt] ++ τ) ((1 : Int), [((1 : Int), 4)]) = some (1 + (gA es 80 1).toInt) from fV1_ev rfl).symm.trans f1)
      have hx4 : (gA es 80 1).toInt = x.toInt := Option.some.inj ((show evF ([wy, mv, sl, se, (gA es 80 1).toInt, (gA es 80 0).toInt] ++ τ) (fV 4) = some (gA es 80 1).toInt from fV_ev rfl).symm.trans hx)
      exact ⟨sh_of p1, x.toInt, by rw [zI_id]; exact h3, i32_rng x, Or.inr (Or.inr ⟨f0, ⟨⟨b0.1, b0.2, b1.1, b1.2, b2.1, b2.2⟩, by omega⟩, hx4.symm, by show (gA es' 80 1).toInt = _; omega⟩)⟩
    · obtain ⟨w, h3, x, rfl, hx⟩ := q6
      have b0 : 0 ≤ wy ∧ wy ≤ 1 := q1.2 0 wy rfl
      have b1 : 1 ≤ mv ∧ mv ≤ 24 := q1.2 1 mv rfl
      have b2 : 0 ≤ sl ∧ sl ≤ 9 := q1.2 2 sl rfl
      have b4 : 0 ≤ (gA es 80 1).toInt ∧ (gA es 80 1).toInt ≤ 2 := q1.2 4 _ rfl
      have f0 : (gI es' 79 0).toInt = 0 := fact_I (p := 79) (b := 0) (c := 0) (q3 _ List.mem_cons_self)
      have f1 := fact_A (p := 80) (k := 1) (q3 _ (List.mem_cons_of_mem _ List.mem_cons_self))
      have f2 : 1 + (gA es 80 1).toInt = (gA es' 80 1).toInt := Option.some.inj ((show evF ([wy, mv, sl, se, (gA es 80 1).toInt, (gA es 80 0).toInt] ++ τ) ((1 : Int), [((1 : Int), 4)]) = some (1 + (gA es 80 1).toInt) from fV1_ev rfl).symm.trans f1)
      have hx4 : (gA es 80 1).toInt = x.toInt := Option.some.inj ((show evF ([wy, mv, sl, se, (gA es 80 1).toInt, (gA es 80 0).toInt] ++ τ) (fV 4) = some (gA es 80 1).toInt from fV_ev rfl).symm.trans hx)
      exact ⟨sh_of p1, x.toInt, by rw [zI_id]; exact h3, i32_rng x, Or.inr (Or.inr ⟨f0, ⟨⟨b0.1, b0.2, b1.1, b1.2, b2.1, b2.2⟩, by omega⟩, hx4.symm, by show (gA es' 80 1).toInt = _; omega⟩)⟩
  · exact fn_writem0 hn i1 i2 i3 i4 hT hI hb1 hb3 (by omega) (fun r es1 kc ks h => h)
