/-! the Writer's loop, and the class's write -/
section
variable {xs : Nat → Int32} {n0 d kc ks lp : Nat} {Q : pRes → Prop} {es0 : PH} {bk mv sl : Int}
theorem fill_spec (hn : n0 ≤ 3584) (h0 : 108 ≤ lp) (hle : es0.length ≤ lp) (hbk : 0 ≤ bk ∧ bk ≤ 2) (hmv : 1 ≤ mv ∧ mv ≤ 24) (hsl : 0 ≤ sl ∧ sl ≤ 9) (K : ∀ es' sd' n', wrAt es0 lp bk es' sd' n' → Q (.inl none, es', kc, ks)) :
    ∀ (k : Nat) (n : Int) (es : PH) (sd : Int) (x5 x6 x7 : Option Value), (24 - n).toNat = k → wrAt es0 lp bk es sd n → 0 ≤ n ∧ n ≤ 24 →
    aW (pO0 xs n0) (d + 6) 125 kc ks Q (3, [some (.ref (64 + lp)), some (.int (zI bk)), some (.int (zI mv)), some (.int (zI sl)), some (.int (zI n)), x5, x6, x7], [], es) := by
  intro k
  induction k using Nat.strongRecOn with
  | ind k ih =>
  intro n es sd x5 x6 x7 hk hw hn1
  have ibk : i32 bk := by unfold i32 iLO iHI; omega
  refine s_fill3 (sh_of hw.1) hw.2.2.1 hbk hmv hsl hn1 (fun _ => K _ _ _ hw) (fun c1 si hsi => ?_)
  have isi : i32 si := by rw [hsi]; exact i32_rng _
  have hn23 : n ≤ 23 := by omega
  refine x_call (vs := [.ref 93, .int (zI si)]) (rs := []) i_125_21 rfl (fun _ => rfl) rfl rfl rfl rfl rfl (pCall_v (p := 29) (sh_of hw.1) rfl rfl rfl rfl rfl (by decide) rfl rfl rfl rfl rfl) ?_
  refine con_int (c := kc_65) (kv_65 (aWd_T (xs := xs) hn)) (by show 3 ≤ d + 5; omega) (ρ := [si]) (vs := [.ref 93, .int (zI si)]) rfl (gE_all rfl (by decide) (fun v hv => by
    simp only [List.mem_cons, List.not_mem_nil, or_false] at hv
    subst hv; exact isi)) rfl ⟨⟨93, rfl, rfl⟩, gV_i isi rfl, trivial⟩ hw.1 rfl (by decide) (fun es1 al hT1 f1 ial _ => ?_)
  have hw1 := wrAt_fr h0 hw hT1 f1 (by decide) (by decide) (by decide)
  show aW _ _ _ _ _ _ (24, [some (.ref (64 + lp)), some (.int (zI bk)), some (.int (zI mv)), some (.int (zI sl)), some (.int (zI n)), some (.int (zI si)), x6, x7], [.int (zI al)], es1)
  refine s_fill24 (sh_of hw1.1) hw1.2.2.1 hbk hmv hsl hn1 ial (fun hal => ?_) (fun _ => K _ _ _ hw1)
  refine x_call (vs := [.ref (64 + lp)]) (rs := [.int (zI si), .ref 93]) i_125_40 rfl (fun _ => rfl) rfl rfl rfl rfl rfl (pCall_p hw1.2.2.1 rfl rfl rfl rfl (by decide) rfl rfl rfl rfl rfl) ?_
  show aW _ _ _ _ _ _ (0, [some (.ref (64 + lp))], [], es1)
  refine draw_spec hw1.2.2.1 (fun sd2 r hr => ?_)
  have hw2 := wrAt_set h0 hle hw1 sd2
  generalize es1.set lp (.inr (10, [.ref 71, .ref 93, .int (zI sd2)])) = es2 at hw2 ⊢
  show aW _ _ _ _ _ _ (43, [some (.ref (64 + lp)), some (.int (zI bk)), some (.int (zI mv)), some (.int (zI sl)), some (.int (zI n)), some (.int (zI si)), some (.int (zI al)), x7], [.int (zI r), .int (zI si), .ref 93], es2)
  have ial2 := ial
  unfold i32 iLO iHI at ial2
  refine s_fill43 (sh_of hw2.1) hw2.2.2.1 hbk hmv hsl hn1 hr ⟨hal, by omega⟩ ?_
  have hm1 : 0 ≤ r % al := Int.emod_nonneg r (by omega)
  have hm2 : r % al < al := Int.emod_lt_of_pos r (by omega)
  have ira : i32 (r % al) := by unfold i32 iLO iHI; omega
  refine x_call (vs := [.ref 93, .int (zI si), .int (zI (r % al))]) (rs := []) i_125_46 rfl (fun _ => rfl) rfl rfl rfl rfl rfl (pCall_v (p := 29) (sh_of hw2.1) rfl rfl rfl rfl rfl (by decide) rfl rfl rfl rfl rfl) ?_
  refine con_int (c := kc_64) (kv_64 (aWd_T (xs := xs) hn)) (by show 3 ≤ d + 5; omega) (ρ := [si, r % al]) (vs := [.ref 93, .int (zI si), .int (zI (r % al))]) rfl (gE_all rfl (by decide) (fun v hv => by
    simp only [List.mem_cons, List.not_mem_nil, or_false] at hv
    rcases hv with rfl | rfl <;> assumption)) rfl ⟨⟨93, rfl, rfl⟩, gV_i isi rfl, gV_i ira rfl, trivial⟩ hw2.1 rfl (by decide) (fun es3 mo hT3 f3 imo hmo => ?_)
  have hw3 := wrAt_fr h0 hw2 hT3 f3 (by decide) (by decide) (by decide)
  have hmb : mo ≤ 1295 := by
    obtain ⟨out, hout, τ, q1, q2⟩ := hmo
    simp only [kc_64, List.mem_cons, List.not_mem_nil, or_false] at hout
    subst hout
    have hx := evV (x := 2) q2
    have h9 := q1.2 2 mo hx
    exact h9.2
  show aW _ _ _ _ _ _ (49, [some (.ref (64 + lp)), some (.int (zI bk)), some (.int (zI mv)), some (.int (zI sl)), some (.int (zI n)), some (.int (zI si)), some (.int (zI al)), x7], [.int (zI mo)], es3)
  refine s_fill49 (sh_of hw3.1) hw3.2.2.1 hbk hmv hsl hn1 imo (fun hm0 => ?_) (fun _ => K _ _ _ hw3)
  refine x_call (vs := [.ref (64 + lp), .int (zI bk), .int (zI mo), .int (zI si)]) (rs := []) i_125_63 rfl (fun _ => rfl) rfl rfl rfl rfl rfl (pCall_p hw3.2.2.1 rfl rfl rfl rfl (by decide) rfl rfl rfl rfl rfl) ?_
  show aW _ _ _ _ _ _ (0, [some (.ref (64 + lp)), some (.int (zI bk)), some (.int (zI mo)), some (.int (zI si)), none, none, none], [], es3)
  refine wn_spec (d := d + 2) hn h0 hbk ⟨hm0, hmb⟩ isi hw3 hn23 (fun es4 hw4 => ?_)
  show aW _ _ _ _ _ _ (66, [some (.ref (64 + lp)), some (.int (zI bk)), some (.int (zI mv)), some (.int (zI sl)), some (.int (zI n)), some (.int (zI si)), some (.int (zI al)), some (.int (zI mo))], [], es4)
  have tail : ∀ (es : PH) (sd : Int), wrAt es0 lp bk es sd (n + 1) → aW (pO0 xs n0) (d + 6) 125 kc ks Q (98, [some (.ref (64 + lp)), some (.int (zI bk)), some (.int (zI mv)), some (.int (zI sl)), some (.int (zI n)), some (.int (zI si)), some (.int (zI al)), some (.int (zI mo))], [], es) := fun es sd hw => by
    refine s_fill98 (sh_of hw.1) hw.2.2.1 hbk hmv hsl hn1 ?_
    refine x_call (vs := [.ref 93, .int (zI mo)]) (rs := []) i_125_104 rfl (fun _ => rfl) rfl rfl rfl rfl rfl (pCall_v (p := 29) (sh_of hw.1) rfl rfl rfl rfl rfl (by decide) rfl rfl rfl rfl rfl) ?_
    refine con_int (c := kc_278) (kv_278 (aWd_T (xs := xs) hn)) (by show 1 ≤ d + 5; omega) (ρ := [mo]) (vs := [.ref 93, .int (zI mo)]) rfl (gE_all rfl (by decide) (fun v hv => by
      simp only [List.mem_cons, List.not_mem_nil, or_false] at hv
      subst hv; exact imo)) rfl ⟨⟨93, rfl, rfl⟩, gV_i imo rfl, trivial⟩ hw.1 rfl (by decide) (fun es9 tk hT9 f9 itk _ => ?_)
    have hw9 := wrAt_fr h0 hw hT9 f9 (by decide) (by decide) (by decide)
    show aW _ _ _ _ _ _ (107, [some (.ref (64 + lp)), some (.int (zI bk)), some (.int (zI mv)), some (.int (zI sl)), some (.int (zI n)), some (.int (zI si)), some (.int (zI al)), some (.int (zI mo))], [.int (zI tk)], es9)
    refine s_fill107 (sh_of hw9.1) hw9.2.2.1 hbk hmv hsl hn1 ?_
    exact ih (24 - (n + 1)).toNat (by omega) (n + 1) es9 sd _ _ _ rfl hw9 ⟨by omega, by omega⟩
  refine s_fill66 (sh_of hw4.1) hw4.2.2.1 hbk hmv hsl hn1 ?_
  refine x_call (vs := [.ref (64 + lp)]) (rs := []) i_125_67 rfl (fun _ => rfl) rfl rfl rfl rfl rfl (pCall_p hw4.2.2.1 rfl rfl rfl rfl (by decide) rfl rfl rfl rfl rfl) ?_
  show aW _ _ _ _ _ _ (0, [some (.ref (64 + lp))], [], es4)
  refine draw_spec hw4.2.2.1 (fun sd5 r5 hr5 => ?_)
  have hw5 := wrAt_set h0 hle hw4 sd5
  generalize es4.set lp (.inr (10, [.ref 71, .ref 93, .int (zI sd5)])) = es5 at hw5 ⊢
  show aW _ _ _ _ _ _ (70, [some (.ref (64 + lp)), some (.int (zI bk)), some (.int (zI mv)), some (.int (zI sl)), some (.int (zI n)), some (.int (zI si)), some (.int (zI al)), some (.int (zI mo))], [.int (zI r5)], es5)
  refine s_fill70 (d := d + 4) (sh_of hw5.1) hw5.2.2.1 hw5.1 hbk hmv hsl hn1 hr5 (fun _ => tail _ _ hw5) (fun _ v hv => ?_)
  have hb1 : 0 ≤ (gA es5 13 bk.toNat).toInt ∧ (gA es5 13 bk.toNat).toInt ≤ 24 := gA_bd hw5.1 (p := 13) (k := bk.toNat) rfl (by omega) (by decide)
  refine x_call (vs := [.ref (64 + lp)]) (rs := [.int (zI (v - 1)), .int (zI bk), .ref (64 + lp)]) i_125_90 rfl (fun _ => rfl) rfl rfl rfl rfl rfl (pCall_p hw5.2.2.1 rfl rfl rfl rfl (by decide) rfl rfl rfl rfl rfl) ?_
  show aW _ _ _ _ _ _ (0, [some (.ref (64 + lp))], [], es5)
  refine draw_spec hw5.2.2.1 (fun sd6 r6 hr6 => ?_)
  have hw6 := wrAt_set h0 hle hw5 sd6
  generalize es5.set lp (.inr (10, [.ref 71, .ref 93, .int (zI sd6)])) = es6 at hw6 ⊢
  show aW _ _ _ _ _ _ (93, [some (.ref (64 + lp)), some (.int (zI bk)), some (.int (zI mv)), some (.int (zI sl)), some (.int (zI n)), some (.int (zI si)), some (.int (zI al)), some (.int (zI mo))], [.int (zI r6), .int (zI (v - 1)), .int (zI bk), .ref (64 + lp)], es6)
  refine s_fill93 (sh_of hw6.1) hw6.2.2.1 hbk hmv hsl hn1 hr6 ?_
  refine x_call (vs := [.ref (64 + lp), .int (zI bk), .int (zI (v - 1)), .int (zI (r6 % 3))]) (rs := []) i_125_95 rfl (fun _ => rfl) rfl rfl rfl rfl rfl (pCall_p hw6.2.2.1 rfl rfl rfl rfl (by decide) rfl rfl rfl rfl rfl) ?_
  show aW _ _ _ _ _ _ (0, [some (.ref (64 + lp)), some (.int (zI bk)), some (.int (zI (v - 1))), some (.int (zI (r6 % 3))), none, none, none], [], es6)
  refine as_spec (d := d + 2) hn h0 ibk (by unfold i32 iLO iHI; omega) (by unfold i32 iLO iHI; omega) hw6 (fun es7 hw7 => ?_)
  exact tail es7 sd6 hw7
end
theorem hm_cwrite {xs : Nat → Int32} {n : Nat} (hn : n ≤ 3584) : conOK (pO0 xs n) gG gInv kc_306 := by
  refine ⟨_, rfl, fun d hd ρ vs es hE hC hS hT hI hF => ?_⟩
  obtain ⟨v0, v1, v2, v3, v4, rfl, g0, g1, g2, g3, g4⟩ := gS5 hS
  cases arg_r g0
  obtain ⟨wy, rfl, i1, -, -, -⟩ := arg_i hE g1
  obtain ⟨mv, rfl, i2, -, -, -⟩ := arg_i hE g2
  obtain ⟨sl, rfl, i3, -, -, -⟩ := arg_i hE g3
  obtain ⟨se, rfl, i4, -, -, -⟩ := arg_i hE g4
  have hd12 : 12 ≤ d := hd
  have hlen := hOK_len hT
  obtain ⟨d', rfl⟩ : ∃ d', d = d' + 9 := ⟨d - 9, by omega⟩
  have thr0 : cPost (pO0 xs n) gG gInv kc_306 ρ es (.inr 0, es, 1, 6) := post_thr (x := 0) (mk := 1) (ms := 6) hE hT hI (fr_refl _ _) (List.mem_cons_of_mem _ List.mem_cons_self) (Nat.le_refl _) (Nat.le_refl _)
  have thr1 : cPost (pO0 xs n) gG gInv kc_306 ρ es (.inr 1, es, 1, 6) := post_thr (x := 1) (mk := 1) (ms := 6) hE hT hI (fr_refl _ _) (List.mem_cons_of_mem _ (List.mem_cons_of_mem _ List.mem_cons_self)) (Nat.le_refl _) (Nat.le_refl _)
  have go : (0 ≤ wy ∧ wy ≤ 1) → (1 ≤ mv ∧ mv ≤ 24) → (0 ≤ sl ∧ sl ≤ 9) → (gI es 7 5).toInt < 3 → aW (pO0 xs n) (d' + 9) 123 0 0 (cPost (pO0 xs n) gG gInv kc_306 ρ es) (60, [some (.ref 64), some (.int (zI wy)), some (.int (zI mv)), some (.int (zI sl)), some (.int (zI se)), none], [.ref 64], es) := fun hwy hmv hsl hB => by
    refine x_call (vs := [.ref 64]) (rs := []) i_123_60 rfl (fun _ => rfl) rfl rfl rfl rfl rfl (pCall_v (p := 0) (sh_of hT) rfl rfl rfl rfl rfl (by decide) rfl rfl rfl rfl rfl) ?_
    show aW _ _ _ _ _ _ (0, [some (.ref 64)], [], es)
    refine s_forget (sh_of hT) hT (fun es1 he1 es2 he2 => ?_)
    have hT1 : hOK tT es1 := by rw [he1]; exact hOK_sI hT (p := 0) (b := 10) rfl rfl (by decide)
    have hT2 : hOK tT es2 := by rw [he2]; exact hOK_sI hT1 (p := 73) (b := 3) rfl rfl (by decide)
    have f2 : fr kc_306.2.2.2.2.2.1 es es2 := by rw [he2, he1]; exact fr_trans (fr_sI rfl) (fr_sI rfl)
    have hB2 : (gI es2 7 5).toInt = (gI es 7 5).toInt := by rw [he2, he1, gI_sI_ne (Or.inl (by decide)), gI_sI_ne (Or.inl (by decide))]
    show aW _ _ _ _ _ _ (63, [some (.ref 64), some (.int (zI wy)), some (.int (zI mv)), some (.int (zI sl)), some (.int (zI se)), none], [], es2)
    refine s_cw63 (sh_of hT2) ?_
    refine x_call (vs := [.ref 71, .int (zI wy)]) (rs := []) i_123_68 rfl (fun _ => rfl) rfl rfl rfl rfl rfl (pCall_v (p := 7) (sh_of hT2) rfl rfl rfl rfl rfl (by decide) rfl rfl rfl rfl rfl) ?_
    show aW _ _ _ _ _ _ (0, [some (.ref 71), some (.int (zI wy))], [], es2)
    refine s_addBook (d := d' + 7) (sh_of hT2) hwy hT2 (fun v1 hv1 c1 => absurd c1 (by omega)) (fun v1 hv1 c1 => absurd c1 (by omega)) (fun v1 hv1 c1 es12 he12 v13 hv13 c2 => ?_) (fun v1 hv1 c1 es12 he12 v13 hv13 c2 es18 he18 v19 hv19 es20 he20 v21 hv21 => ?_)
    · exfalso
      rw [he12, gI_sA] at hv13
      omega
    have hbB : 0 ≤ (gI es2 7 5).toInt ∧ (gI es2 7 5).toInt ≤ 3 := gI_bd hT2 (p := 7) (b := 5) rfl rfl
    have e13 : v13 = v1 := by rw [hv13, he12, gI_sA, hv1]
    have e19 : v19 = v1 := by rw [hv19, he18, gI_sA, he12, gI_sA, hv1]
    have hT12 : hOK tT es12 := by rw [he12]; exact hOK_sA hT2 (p := 12) (n := 3) rfl (fun _ => i32_rng _)
    have hT18 : hOK tT es18 := by rw [he18]; exact hOK_sA hT12 (p := 13) (n := 3) rfl (fun _ => by decide)
    have hT20 : hOK tT es20 := by rw [he20]; exact hOK_sI hT18 (p := 7) (b := 5) rfl rfl (by rw [zI_toInt (by unfold i32 iLO iHI; omega)]; exact ⟨by show (0 : Int) ≤ v19 + 1; omega, by show v19 + 1 ≤ (3 : Int); omega⟩)
    have f20 : fr kc_306.2.2.2.2.2.1 es es20 := by
      rw [he20, he18, he12]
      exact fr_trans f2 (fr_trans (fr_sA (mIn_of (lo := 0) (hi := 3) (by decide) (by omega) (by omega))) (fr_trans (fr_sA (mIn_of (lo := 0) (hi := 3) (by decide) (by omega) (by omega))) (fr_sI rfl)))
    have e21 : v21 - 1 = v1 := by
      rw [hv21, he20, gI_sI (sh_of hT18) (p := 7) (b := 5) rfl (by decide), zI_toInt (by unfold i32 iLO iHI; omega)]
      omega
    rw [e21]
    have hcnt : (gA es20 13 v1.toNat).toInt ≤ 0 := by
      rw [he20, gA_sI, he18, gA_sA (sh_of hT12) (p := 13) (t := 0) (n := 3) rfl (by decide), e13]
      unfold upd
      rw [if_pos rfl]
      decide
    show aW _ _ _ _ _ _ (71, [some (.ref 64), some (.int (zI wy)), some (.int (zI mv)), some (.int (zI sl)), some (.int (zI se)), none], [.int (zI v1)], es20)
    refine s_cw71 (sh_of hT20) ?_
    refine x_call (vs := [.ref 93]) (rs := []) i_123_77 rfl (fun _ => rfl) rfl rfl rfl rfl rfl (pCall_v (p := 29) (sh_of hT20) rfl rfl rfl rfl rfl (by decide) rfl rfl rfl rfl rfl) ?_
    show aW _ _ _ _ _ _ (0, [some (.ref 93)], [], es20)
    refine s_setUp (sh_of hT20) ?_
    refine x_call (d := d' + 7) (vs := [.ref 75, .ref 94]) (rs := []) i_24_11 rfl (fun _ => rfl) rfl rfl rfl rfl rfl rfl ?_
    show aW _ _ _ _ _ _ (0, [some (.ref 75), some (.ref 94)], [], es20)
    refine copy_spec (d := d' + 6) hT20 (fun es5 hl5 hT5 f5 hne5 => ?_)
    show aW _ _ _ _ _ _ (14, [some (.ref 93)], [], es5)
    refine s_setUp14 (sh_of hT5) ?_
    show aW _ _ _ _ _ _ (80, [some (.ref 64), some (.int (zI wy)), some (.int (zI mv)), some (.int (zI sl)), some (.int (zI se)), some (.int (zI v1))], [], es5)
    have hlen5 := hOK_len hT5
    have f05 : fr kc_306.2.2.2.2.2.1 es es5 := fr_trans f20 (fr_sub (by decide) f5)
    have hT6 : hOK tT (es5 ++ [.inr (10, pBlank 10)]) := hOK_push hT5 _
    have ho6 : (es5 ++ [.inr (10, pBlank 10)])[es5.length]? = some (.inr (10, pBlank 10)) := by rw [List.getElem?_append_right (Nat.le_refl _), Nat.sub_self]; rfl
    have f06 : fr kc_306.2.2.2.2.2.1 es (es5 ++ [.inr (10, pBlank 10)]) := fr_trans f05 (fr_push _ _ _)
    have hcnt6 : (gA (es5 ++ [.inr (10, pBlank 10)]) 13 v1.toNat).toInt ≤ 0 := by
      have e1 : gA (es5 ++ [.inr (10, pBlank 10)]) 13 = gA es20 13 := by
        unfold gA
        rw [List.getElem?_append_left (by omega), hne5 13 (by decide)]
      rw [e1]
      exact hcnt
    refine x_new (r := (83, [some (.ref 64), some (.int (zI wy)), some (.int (zI mv)), some (.int (zI sl)), some (.int (zI se)), some (.int (zI v1))], [.ref (64 + es5.length)], es5 ++ [.inr (10, pBlank 10)])) i_123_80 rfl (fun _ => rfl) rfl ?_
    show aW _ _ _ 1 3 _ _
    generalize es5 ++ [.inr (10, pBlank 10)] = es6 at hT6 ho6 f06 hcnt6 ⊢
    refine x0 (r := (84, [some (.ref 64), some (.int (zI wy)), some (.int (zI mv)), some (.int (zI sl)), some (.int (zI se)), some (.int (zI v1))], [.ref (64 + es5.length), .ref (64 + es5.length)], es6)) i_123_83 rfl ?_
    refine x0 (r := (85, [some (.ref 64), some (.int (zI wy)), some (.int (zI mv)), some (.int (zI sl)), some (.int (zI se)), some (.int (zI v1))], [.ref 64, .ref (64 + es5.length), .ref (64 + es5.length)], es6)) i_123_84 rfl ?_
    refine x_getr (p := 0) (k := 71) i_123_85 (sh_of hT6) rfl rfl ?_
    show aW _ _ _ _ _ _ (88, [some (.ref 64), some (.int (zI wy)), some (.int (zI mv)), some (.int (zI sl)), some (.int (zI se)), some (.int (zI v1))], [.ref 71, .ref (64 + es5.length), .ref (64 + es5.length)], es6)
    refine x0 (r := (89, [some (.ref 64), some (.int (zI wy)), some (.int (zI mv)), some (.int (zI sl)), some (.int (zI se)), some (.int (zI v1))], [.ref 64, .ref 71, .ref (64 + es5.length), .ref (64 + es5.length)], es6)) i_123_88 rfl ?_
    refine x_getr (p := 0) (k := 93) i_123_89 (sh_of hT6) rfl rfl ?_
    show aW _ _ _ _ _ _ (92, [some (.ref 64), some (.int (zI wy)), some (.int (zI mv)), some (.int (zI sl)), some (.int (zI se)), some (.int (zI v1))], [.ref 93, .ref 71, .ref (64 + es5.length), .ref (64 + es5.length)], es6)
    refine x0 (r := (94, [some (.ref 64), some (.int (zI wy)), some (.int (zI mv)), some (.int (zI sl)), some (.int (zI se)), some (.int (zI v1))], [.int (zI se), .ref 93, .ref 71, .ref (64 + es5.length), .ref (64 + es5.length)], es6)) i_123_92 rfl ?_
    refine x_call (vs := [.ref (64 + es5.length), .ref 71, .ref 93, .int (zI se)]) (rs := [.ref (64 + es5.length)]) i_123_94 rfl (fun _ => rfl) rfl rfl rfl rfl rfl (pCall_s rfl rfl rfl rfl (by decide) rfl rfl rfl rfl) ?_
    show aW _ _ _ _ _ _ (0, [some (.ref (64 + es5.length)), some (.ref 71), some (.ref 93), some (.int (zI se))], [], es6)
    refine writer_init ho6 rfl ?_
    have hl6 := (List.getElem?_eq_some_iff.mp ho6).1
    have hw7 : wrAt es es5.length v1 (es6.set es5.length (.inr (10, [.ref 71, .ref 93, .int (zI se)]))) se 0 := by
      refine ⟨hOK_set hT6 (fun t ht => ?_), ⟨by rw [List.length_set]; exact f06.1, fun p e hp => ?_⟩, List.getElem?_set_self hl6, ?_⟩
      · have := (List.getElem?_eq_some_iff.mp ht).1
        rw [tT_len] at this
        omega
      · obtain ⟨e', k1, k2⟩ := f06.2 p e hp
        have hpl := (List.getElem?_eq_some_iff.mp hp).1
        have := f05.1
        exact ⟨e', by rw [List.getElem?_set_ne (by omega)]; exact k1, k2⟩
      · have e1 : gA (es6.set es5.length (.inr (10, [.ref 71, .ref 93, .int (zI se)]))) 13 = gA es6 13 := by
          unfold gA
          rw [List.getElem?_set_ne (by omega)]
        rw [e1]
        exact hcnt6
    generalize es6.set es5.length (.inr (10, [.ref 71, .ref 93, .int (zI se)])) = es7 at hw7 ⊢
    show aW _ _ _ _ _ _ (97, [some (.ref 64), some (.int (zI wy)), some (.int (zI mv)), some (.int (zI sl)), some (.int (zI se)), some (.int (zI v1))], [.ref (64 + es5.length)], es7)
    refine x0 (r := (99, [some (.ref 64), some (.int (zI wy)), some (.int (zI mv)), some (.int (zI sl)), some (.int (zI se)), some (.int (zI v1))], [.int (zI v1), .ref (64 + es5.length)], es7)) i_123_97 rfl ?_
    refine x0 (r := (100, [some (.ref 64), some (.int (zI wy)), some (.int (zI mv)), some (.int (zI sl)), some (.int (zI se)), some (.int (zI v1))], [.int (zI mv), .int (zI v1), .ref (64 + es5.length)], es7)) i_123_99 rfl ?_
    refine x0 (r := (101, [some (.ref 64), some (.int (zI wy)), some (.int (zI mv)), some (.int (zI sl)), some (.int (zI se)), some (.int (zI v1))], [.int (zI sl), .int (zI mv), .int (zI v1), .ref (64 + es5.length)], es7)) i_123_100 rfl ?_
    refine x_call (vs := [.ref (64 + es5.length), .int (zI v1), .int (zI mv), .int (zI sl)]) (rs := []) i_123_101 rfl (fun _ => rfl) rfl rfl rfl rfl rfl (pCall_p hw7.2.2.1 rfl rfl rfl rfl (by decide) rfl rfl rfl rfl rfl) ?_
    show aW _ _ _ _ _ _ (0, [some (.ref (64 + es5.length)), some (.int (zI v1)), some (.int (zI mv)), some (.int (zI sl)), none, none, none, none], [], es7)
    refine s_fill0 (sh_of hw7.1) hw7.2.2.1 ⟨by omega, by omega⟩ hmv hsl ?_
    refine fill_spec (d := d' + 2) hn hlen5 f05.1 ⟨by omega, by omega⟩ hmv hsl (fun es8 sd8 n8 hw8 => ?_) _ 0 es7 se _ _ _ rfl hw7 ⟨by omega, by omega⟩
    show aW _ _ _ _ _ _ (104, [some (.ref 64), some (.int (zI wy)), some (.int (zI mv)), some (.int (zI sl)), some (.int (zI se)), some (.int (zI v1))], [], es8)
    refine x0 (r := (106, [some (.ref 64), some (.int (zI wy)), some (.int (zI mv)), some (.int (zI sl)), some (.int (zI se)), some (.int (zI v1))], [.int (zI v1)], es8)) i_123_104 rfl ?_
    refine x_ret (v := some (.int (zI v1))) i_123_106 rfl (fun _ => rfl) rfl rfl rfl ?_
    exact post_int (c := kc_306) (lo := iLO) (hi := iHI) hE hw8.1 (gInv_fr kc_306.2.2.2.2.2.1 (by decide) es es8 hw8.2.1 hI) hw8.2.1 List.mem_cons_self (by unfold i32 iLO iHI; omega) (by unfold iLO; omega) (by unfold iHI; omega) (Nat.le_refl _) (Nat.le_refl _)
  exact s_cw0 (d := d' + 8) (kc := 0) (ks := 0) (sh_of hT) i1 i2 i3 i4 hT (fun _ _ => thr0) (fun _ _ _ => thr0) (fun _ _ _ _ => thr0)
    (fun a b c e f v hv g => go ⟨by omega, by omega⟩ ⟨by omega, by omega⟩ ⟨by omega, by omega⟩ (by omega)) (fun _ _ _ _ _ _ _ _ => thr1) (fun _ _ _ _ _ => thr0) (fun _ _ => thr0) (fun _ _ _ => thr0) (fun _ _ _ _ => thr0) (fun _ _ _ _ _ => thr0)
    (fun a a2 b c e f v hv g => go ⟨by omega, by omega⟩ ⟨by omega, by omega⟩ ⟨by omega, by omega⟩ (by omega)) (fun _ _ _ _ _ _ _ _ _ => thr1) (fun _ _ _ _ _ _ => thr0)
