/-! leaps and bites -/
section
variable {O : pOut} {d kc ks : Nat} {Q : pRes → Prop} {dp fm ah : Int} {es : PH}
theorem leaps_spec (hs : sh es) (hd : 0 ≤ dp ∧ dp ≤ 30) (hf : 0 ≤ fm ∧ fm ≤ 35) (K : ∀ es', leapsP dp fm es es' → Q (.inl none, es', kc, ks)) :
    aW O (d + 3) 225 kc ks Q (0, [some (.ref 143), some (.int (zI dp)), some (.int (zI fm)), none, none], [], es) := by
  refine s_leaps hs hd hf (fun es1 p1 es2 p2 es3 p3 es4 p4 es5 p5 es6 p6 es7 p7 es8 p8 => K es8 ?_)
  have q1 : canP dp.toNat (al1 (brow es dp.toNat) fm (-2) (-1) (crow es dp.toNat)) es es1 := p1
  have q2 := canP_next (F := fun row C => al1 row fm (-2) 1 C) hs q1 p2
  have q3 := canP_next (F := fun row C => al1 row fm (-1) (-2) C) hs q2 p3
  have q4 := canP_next (F := fun row C => al1 row fm (-1) 2 C) hs q3 p4
  have q5 := canP_next (F := fun row C => al1 row fm 1 (-2) C) hs q4 p5
  have q6 := canP_next (F := fun row C => al1 row fm 1 2 C) hs q5 p6
  have q7 := canP_next (F := fun row C => al1 row fm 2 (-1) C) hs q6 p7
  exact canP_next (F := fun row C => al1 row fm 2 1 C) hs q7 p8
theorem brow_at {D : Nat} {t : Int} (hd : 0 ≤ dp) (hD : D = dp.toNat) (h1 : 0 ≤ t) (h2 : t ≤ 35) : (gA es 87 ((36 * dp) + t).toNat).toInt = brow es D t.toNat := by
  subst hD
  unfold brow
  rw [if_pos (by omega), show ((36 * dp) + t).toNat = 36 * dp.toNat + t.toNat by omega]
theorem bites_spec (hs : sh es) (hd : 0 ≤ dp ∧ dp ≤ 30) (hf : 0 ≤ fm ∧ fm ≤ 35) (h1 : -1 ≤ ah ∧ ah ≤ 1) (K : ∀ es', bitesP dp fm ah es es' → Q (.inl none, es', kc, ks)) :
    aW O (d + 3) 226 kc ks Q (0, [some (.ref 143), some (.int (zI dp)), some (.int (zI fm)), some (.int (zI ah)), none, none], [], es) := by
  have stB : ∀ (es1 : PH) (x5 : Option Value), canP dp.toNat (biS (brow es dp.toNat) fm ah (-1) (crow es dp.toNat)) es es1 → aW O (d + 3) 226 kc ks Q (3, [some (.ref 143), some (.int (zI dp)), some (.int (zI fm)), some (.int (zI ah)), some (.int (zI 1)), x5], [], es1) := by
    intro es1 x5 p1
    have stC : ∀ (es2 : PH) (x5 : Option Value), canP dp.toNat (biS (brow es1 dp.toNat) fm ah 1 (crow es1 dp.toNat)) es1 es2 → aW O (d + 3) 226 kc ks Q (3, [some (.ref 143), some (.int (zI dp)), some (.int (zI fm)), some (.int (zI ah)), some (.int (zI 3)), x5], [], es2) := by
      intro es2 x5 p2
      refine s_bitesC p2.1 hd hf h1 (K es2 ?_)
      exact canP_next (F := fun row C => biS row fm ah 1 C) hs p1 p2
    refine s_bitesB p1.1 hd hf h1 (fun v hv hn => stC es1 _ ?_) (fun v hv hn v3 hv3 h3 => stC es1 _ ?_) (fun v hv hn v3 hv3 h3 es5 p5 => stC es5 _ ?_)
    · unfold biS; rw [← hv.1, if_pos hn]; exact canP_refl p1.1
    · rw [brow_at hd.1 rfl (by omega) hv.2.2] at hv3
      unfold biS; rw [← hv.1, if_neg hn, if_pos (by rw [← hv3]; exact h3)]; exact canP_refl p1.1
    · rw [brow_at hd.1 rfl (by omega) hv.2.2] at hv3
      unfold biS; rw [← hv.1, if_neg hn, if_neg (by rw [← hv3]; exact h3)]; exact p5
  refine s_bites0 hs hd hf h1 ?_
  refine s_bitesA hs hd hf h1 (fun v hv hn => stB es _ ?_) (fun v hv hn v3 hv3 h3 => stB es _ ?_) (fun v hv hn v3 hv3 h3 es5 p5 => stB es5 _ ?_)
  · unfold biS; rw [← hv.1, if_pos hn]; exact canP_refl hs
  · rw [brow_at hd.1 rfl (by omega) hv.2.2] at hv3
    unfold biS; rw [← hv.1, if_neg hn, if_pos (by rw [← hv3]; exact h3)]; exact canP_refl hs
  · rw [brow_at hd.1 rfl (by omega) hv.2.2] at hv3
    unfold biS; rw [← hv.1, if_neg hn, if_neg (by rw [← hv3]; exact h3)]; exact p5
end
