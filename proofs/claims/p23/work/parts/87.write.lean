/-! write of the reference -/
theorem tS80_bw : ∀ b, b < 3 → tS80 (119 + 98 * b) = (0, 1) ∧ tS80 (119 + 98 * b + 1) = (0, 24) := by decide +kernel
theorem gS5 {ρ : List Int} {a b c e f : aV} {st : List Value} (h : gS ρ [a, b, c, e, f] st) : ∃ v w x y z, st = [v, w, x, y, z] ∧ gV ρ a v ∧ gV ρ b w ∧ gV ρ c x ∧ gV ρ e y ∧ gV ρ f z := by
  obtain ⟨v, s, rfl, h1, h2⟩ := gS_cons h
  obtain ⟨w, x, y, z, rfl, h3, h4, h5, h6⟩ := gS4 h2
  exact ⟨v, w, x, y, z, rfl, h1, h3, h4, h5, h6⟩
theorem free376 : kc_376.2.2.2.2.2.1.all (mFree gProt) = true := by decide
theorem hm_write {xs : Nat → Int32} {n : Nat} (hn : n ≤ 3584) : conOK (pO0 xs n) gG gInv kc_376 := by
  obtain ⟨zrw, hrow, h375⟩ := kv_375 (aWd_I (xs := xs) hn) hm_off
  have hrr := Option.some.inj (hrow.symm.trans (show pM[274]? = some _ from rfl))
  subst hrr
  refine ⟨_, hrow, fun d hd ρ vs es hE hC hS hT hI hF => ?_⟩
  have hb1 : 0 ≤ (gA es 80 0).toInt ∧ (gA es 80 0).toInt ≤ 5 := gA_bd hT (p := 80) (t := 0) (n := 2125) (sp := tS80) (k := 0) rfl (by omega) (by decide)
  obtain ⟨κ, hκ⟩ : ∃ z : Int, z = (gA es 80 0).toInt := ⟨_, rfl⟩
  rw [← hκ] at hb1
  have hd7 : 7 ≤ d := hd
  obtain ⟨v0, v1, v2, v3, v4, rfl, g0, g1, g2, g3, g4⟩ := gS5 hS
  cases arg_r g0
  obtain ⟨wy, rfl, i1, r1, -, -⟩ := arg_i hE g1
  obtain ⟨mv, rfl, i2, r2, -, -⟩ := arg_i hE g2
  obtain ⟨sl, rfl, i3, r3, -, -⟩ := arg_i hE g3
  obtain ⟨se, rfl, i4, r4, -, -⟩ := arg_i hE g4
  by_cases hk : 1 ≤ κ
  · -- with a KIND: the checker's
    have hρ4 : ρ.length = 4 := hE.1
    have hE2 : gE (ρ ++ [κ]) kc_375.2.2.1.1 := (aNew_ok hE (l := 1) (r := 5) (v := κ) ⟨hk, hb1.2⟩).1
    have hκ4 : evF (ρ ++ [κ]) (fV 4) = some κ := (aNew_ok hE (l := 1) (r := 5) (v := κ) ⟨hk, hb1.2⟩).2
    have hF2 : gFs (pO0 xs n) (ρ ++ [κ]) es kc_375.2.2.2.2.1 := by
      intro t ht
      have : t = (80, 0, (.ofNat 0, []), (.ofNat 0, [(.ofNat 1, 4)])) := by
        rcases List.mem_cons.mp ht with h | h
        · exact h
        · cases h
      subst this
      refine ⟨0, 2125, gA es 80, 0, sh_arr (sh_of hT) (p := 80) (t := 0) (n := 2125) (sp := tS80) rfl (by decide), rfl, ?_⟩
      show evF (ρ ++ [κ]) (fV 4) = _
      rw [← hκ]
      exact hκ4
    refine aW_mono (Nat.le_refl d) (fun o ho => ?_) (h375 d (by show 6 ≤ d; omega) (ρ ++ [κ]) _ es hE2 (fun f hf => by cases hf) (gS_app [κ] hS) hT hI hF2)
    obtain ⟨p1, pI, p2, out, hout, τ, q1, q2, q3, q4, q5, q6⟩ := ho
    have : out = kc_375.2.2.2.2.2.2.head (by decide) := by
      rcases List.mem_cons.mp hout with h | h
      · exact h
      · cases h
    subst this
    obtain ⟨w, h3, x, rfl, hx⟩ := q6
    obtain ⟨r, es', oc, ok⟩ := o
    simp only at h3 p1 pI p2 q4 q5
    subst h3
    have hx5 : (ρ ++ [κ] ++ τ)[5]? = some x.toInt := evV hx
    have hxb := q1.2 5 x.toInt hx5
    have hxb2 : 0 ≤ x.toInt ∧ x.toInt ≤ 2 := hxb
    have h0c : oc ≤ 0 := q4
    have h0k : ok ≤ 0 := q5
    rw [← zI_id x]
    exact post_int (c := kc_376) (lo := 0) (hi := 2) hE p1 pI p2 List.mem_cons_self (i32_rng x) hxb2.1 hxb2.2 h0c h0k
  · -- without one there is no man, and no move
    have hκ0 : (gA es 80 0).toInt = 0 := by omega
    have hstart := hI.2.2.2.1 hκ0
    obtain ⟨d', rfl⟩ : ∃ d', d = d' + 7 := ⟨d - 7, by omega⟩
    have hlen : 108 ≤ es.length := by have := hI.1; rw [tT_len] at this; exact this
    have fin : ∀ (es' : PH) (a : Int), hOK tT es' → fr kc_376.2.2.2.2.2.1 es es' → 0 ≤ a → a ≤ 2 → cPost (pO0 xs n) gG gInv kc_376 ρ es (.inl (some (.int (zI a))), es', 0, 0) := fun es' a h1 h2 h3 h4 =>
      post_int (c := kc_376) (lo := 0) (hi := 2) hE h1 (gInv_fr _ free376 es es' h2 hI) h2 List.mem_cons_self (by unfold i32 iLO iHI; omega) h3 h4 (Nat.le_refl _) (Nat.le_refl _)
    have thr : ∀ a b : Int, cPost (pO0 xs n) gG gInv kc_376 ρ es (.inl (some (.int (zI 0))), sI (sI es 79 0 (.int (zI a))) 79 0 (.int (zI b)), 0, 0) := fun a b =>
      fin _ 0 (thr_sI (thr_sI hT _) _) (fr_trans (fr_sI rfl) (fr_sI rfl)) (by omega) (by omega)
    refine s_write0 (d := d' + 6) (kc := 0) (ks := 0) (sh_of hT) i1 i2 i3 i4 hT ?_ ?_ ?_ ?_ ?_ ?_ ?_ ?_
    · intro es1 he1 _ es3 he3; subst he1; subst he3; exact thr 0 1
    · intro es1 he1 _ _ es3 he3; subst he1; subst he3; exact thr 0 1
    · intro es1 he1 _ _ _ es3 he3; subst he1; subst he3; exact thr 0 1
    · intro es1 he1 _ _ _ _ es3 he3; subst he1; subst he3; exact thr 0 1
    · intro es1 he1 _ _ _ _ _ es3 he3; subst he1; subst he3; exact thr 0 1
    · intro es1 he1 _ _ _ _ _ _ es3 he3; subst he1; subst he3; exact thr 0 1
    · intro es1 he1 w1 w2 m1 m2 l1 l2 v14 hv14 hne v16 hv16 es17 he17 es18 he18 v19 hv19 es20 he20 es21 he21
      have hT1 : hOK tT es1 := by rw [he1]; exact thr_sI hT _
      have hb := gA_bd hT1 (p := 80) (t := 0) (n := 2125) (sp := tS80) (k := 1) rfl (by omega) (by decide)
      have hb' : 0 ≤ v16 ∧ v16 ≤ 3 := by rw [hv16]; exact hb
      have e14 : v14 = v16 := by rw [hv14, hv16]
      have hv2 : v16 ≤ 2 := by omega
      have x17 : (119 + (98 * v16)).toNat = 119 + 98 * v16.toNat := by omega
      have x18 : ((119 + (98 * v16)) + 1).toNat = 119 + 98 * v16.toNat + 1 := by omega
      have htab := tS80_bw v16.toNat (by omega)
      have hT17 : hOK tT es17 := by
        rw [he17, x17]
        exact hOK_sA hT1 (p := 80) (t := 0) (n := 2125) (sp := tS80) rfl (fun _ => by rw [htab.1, zI_toInt (by unfold i32 iLO iHI; omega)]; exact ⟨by show (0 : Int) ≤ wy; omega, by show wy ≤ (1 : Int); omega⟩)
      have hT18 : hOK tT es18 := by
        rw [he18, x18]
        exact hOK_sA hT17 (p := 80) (t := 0) (n := 2125) (sp := tS80) rfl (fun _ => by rw [htab.2, zI_toInt (by unfold i32 iLO iHI; omega)]; exact ⟨by show (0 : Int) ≤ 0; omega, by show (0 : Int) ≤ (24 : Int); omega⟩)
      have hv19' : v19 = v16 := by
        rw [hv19, he18, gA_sA (sh_of hT17) (p := 80) (t := 0) (n := 2125) (sp := tS80) rfl (by decide), he17, gA_sA (sh_of hT1) (p := 80) (t := 0) (n := 2125) (sp := tS80) rfl (by decide)]
        unfold upd
        rw [if_neg (by show ¬ (1 : Nat) = _; omega), if_neg (by show ¬ (1 : Nat) = _; omega)]
        exact hv16.symm
      have hT20 : hOK tT es20 := by
        rw [he20]
        exact hOK_sA hT18 (p := 80) (t := 0) (n := 2125) (sp := tS80) rfl (fun _ => by rw [zI_toInt (by unfold i32 iLO iHI; omega)]; exact ⟨by show (0 : Int) ≤ v19 + 1; omega, by show v19 + 1 ≤ (3 : Int); omega⟩)
      have hT21 : hOK tT es21 := by
        rw [he21]
        exact hOK_sI hT20 (p := 79) (b := 51) (lo := iLO) (hi := iHI) rfl rfl (i32_rng _)
      have f1 : fr kc_376.2.2.2.2.2.1 es es1 := by rw [he1]; exact fr_sI rfl
      have f17 : fr kc_376.2.2.2.2.2.1 es es17 := by rw [he17]; exact fr_trans f1 (fr_sA (mIn_of (lo := 119) (hi := 413) (by decide) (by omega) (by omega)))
      have f18 : fr kc_376.2.2.2.2.2.1 es es18 := by rw [he18]; exact fr_trans f17 (fr_sA (mIn_of (lo := 119) (hi := 413) (by decide) (by omega) (by omega)))
      have f20 : fr kc_376.2.2.2.2.2.1 es es20 := by rw [he20]; exact fr_trans f18 (fr_sA rfl)
      have f21 : fr kc_376.2.2.2.2.2.1 es es21 := by rw [he21]; exact fr_trans f20 (fr_sI rfl)
      -- the board
      refine x_call (vs := [.ref 143]) (rs := []) i_274_127 rfl (fun _ => rfl) rfl rfl rfl rfl rfl (pCall_v (p := 79) (sh_of hT21) rfl rfl rfl rfl rfl (by decide) rfl rfl rfl rfl rfl) ?_
      show aW _ _ _ _ _ _ (0, [some (.ref 143), none], [], es21)
      refine begins_spec (sh_of hT21) (fun eb pb => ?_)
      show aW _ _ _ _ _ _ (130, [some (.ref 143), some (.int (zI wy)), some (.int (zI mv)), some (.int (zI sl)), some (.int (zI se)), some (.int (zI v16)), none, none, none, none, none, none, none, none], [], eb)
      have hTb := pb.2.1 hT21
      have fb : fr kc_376.2.2.2.2.2.1 es eb := fr_trans f21 (fr_sub (by decide) pb.2.2.1)
      refine s_write130 (d := d' + 7) pb.1 ⟨by omega, by omega⟩ (fun h => by omega) (fun _ => ?_)
      refine x_call (vs := [.ref 143, .int (zI 0), .int (zI (0 % 2))]) (rs := []) i_274_146 rfl (fun _ => rfl) rfl rfl rfl rfl rfl (pCall_v (p := 79) pb.1 rfl rfl rfl rfl rfl (by decide) rfl rfl rfl rfl rfl) ?_
      show aW _ _ _ _ _ _ (0, [some (.ref 143), some (.int (zI 0)), some (.int (zI (0 % 2))), none], [], eb)
      refine finds_spec (d := d' + 1) (dp := 0) (sd := 0 % 2) pb.1 (by omega) (by omega) hTb (fun ef pf => ?_)
      show aW _ _ _ _ _ _ (149, [some (.ref 143), some (.int (zI wy)), some (.int (zI mv)), some (.int (zI sl)), some (.int (zI se)), some (.int (zI v16)), some (.int (zI 0)), none, none, none, none, none, none, none], [], ef)
      have hrow0 : ∀ s, s < 36 → brow eb (0 : Int).toNat s < 0 := fun s hs => by
        unfold brow
        rw [if_pos hs, show 36 * (0 : Int).toNat + s = s by omega, pb.2.2.2 s hs]
        have e1 : gA es21 80 (13 + s) = gA es 80 (13 + s) := by
          refine fr_cell f21 (by omega) ?_
          rw [← Bool.not_eq_true]
          intro hm
          unfold mIn at hm
          rw [List.any_eq_true] at hm
          obtain ⟨m, hm1, hm2⟩ := hm
          simp only [kc_376, List.mem_cons, List.not_mem_nil, or_false] at hm1
          simp only [Bool.and_eq_true, beq_iff_eq, Nat.ble_eq, Nat.blt_eq] at hm2
          rcases hm1 with rfl | rfl | rfl | rfl | rfl | rfl <;> simp only at hm2 <;> omega
        rw [e1, hstart s hs]
        omega
      have hz : crow ef (0 : Int).toNat = fun _ => 0 := by
        have := pf.2.2.2
        rw [findF_none hrow0 36 0 _ (by omega)] at this
        exact this
      have hTf := pf.2.1 hTb
      have ff : fr kc_376.2.2.2.2.2.1 es ef := fr_trans fb (fr_sub (by decide) pf.2.2.1)
      refine s_write149 (d := d' + 7) pf.1 ?_
      refine x_call (vs := [.ref 143, .int (zI 0)]) (rs := []) i_274_152 rfl (fun _ => rfl) rfl rfl rfl rfl rfl (pCall_v (p := 79) pf.1 rfl rfl rfl rfl rfl (by decide) rfl rfl rfl rfl rfl) ?_
      show aW _ _ _ _ _ _ (0, [some (.ref 143), some (.int (zI 0)), none, none], [], ef)
      refine many_zero_spec (dp := 0) (by omega) pf.1 hz ?_
      show aW _ _ _ _ _ _ (155, [some (.ref 143), some (.int (zI wy)), some (.int (zI mv)), some (.int (zI sl)), some (.int (zI se)), some (.int (zI v16)), some (.int (zI 0)), none, none, none, none, none, none, none], [.int (zI 0)], ef)
      exact s_write155 (d := d' + 7) pf.1 (fin ef v16 hTf ff (by omega) hv2)
    · intro es1 he1 _ _ _ _ _ _ v hv _ es3 he3; subst he1; subst he3; exact thr 0 2
