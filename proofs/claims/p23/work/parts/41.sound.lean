/-! THE RUN IS TRUE -/
section
variable {O : pOut} {G : aG} {MoS Mo : List aMod} {I : PH → Prop}
set_option maxHeartbeats 16000000 in
theorem aRun_ok (hO : ∀ n g, O 7 = some (n, g) → n < 2147483648) (hG : gOK O G) {CL : List aCon} (hCL : ∀ c ∈ CL, conOK O G I c) (hI : ∀ es es', fr MoS es es' → I es → I es') (hsub : mSub MoS Mo = true) (inl : List (Nat × Bool)) : ∀ (n d j : Nat) (row : pMrow) (cut : Nat → Bool) (kc ks : Nat) (S : aSS) (R : List aRes), pM[j]? = some row → aRun G CL inl MoS Mo n d j row cut kc ks S = some R →
    ∀ (ρ : List Int) (σ : pSt) (Q : pRes → Prop) (c k c0 k0 : Nat), gSt O ρ S σ → hOK G.1 σ.2.2.2 → I σ.2.2.2 → c ≤ c0 + kc → k ≤ k0 + ks →
    (∀ r ∈ R, ∀ τ σ' c' k', c' ≤ c0 + r.2.2.1 → k' ≤ k0 + r.2.2.2 → gSt O (ρ ++ τ) r.2.1 σ' → hOK G.1 σ'.2.2.2 → I σ'.2.2.2 → fr Mo σ.2.2.2 σ'.2.2.2 → aEnd O j r.1 σ' → aW O d j c' k' Q σ') → aW O d j c k Q σ := by
  intro n
  induction n with
  | zero => intro d j row cut kc ks S R _ h; simp [aRun] at h
  | succ n ih =>
    intro d j row cut kc ks S R hrow hR ρ σ Q c k c0 k0 hS hT hi0 hcc hkk K
    obtain ⟨⟨⟨e, cs⟩, pc, A, st⟩, F⟩ := S
    obtain ⟨pc', L, s, es⟩ := σ
    obtain ⟨⟨hE, hC, hpc, hL, hSt⟩, hF⟩ := hS
    simp only at hE hC hpc hL hSt hF hT hi0 K
    subst hpc
    -- the way on, from a state that is cut or run
    have cont : ∀ (S1 : aSS) (kc1 ks1 : Nat) (R1 : List aRes), (bif cut S1.1.2.1 then some [(0, S1, kc1, ks1)] else aRun G CL inl MoS Mo n d j row cut kc1 ks1 S1) = some R1 → (∀ r ∈ R1, r ∈ R) → ∀ (τ : List Int) (σ1 : pSt) (c1 k1 : Nat), c1 ≤ c0 + kc1 → k1 ≤ k0 + ks1 → gSt O (ρ ++ τ) S1 σ1 → hOK G.1 σ1.2.2.2 → I σ1.2.2.2 → fr Mo es σ1.2.2.2 → aW O d j c1 k1 Q σ1 := by
      intro S1 kc1 ks1 R1 h1 hsubR τ σ1 c1 k1 hc1 hk1 g1 t1 i1 f1
      cases hcut : cut S1.1.2.1 with
      | true =>
        rw [hcut] at h1
        simp only [cond_true, Option.some.injEq] at h1
        subst h1
        exact K _ (hsubR _ List.mem_cons_self) τ σ1 c1 k1 hc1 hk1 g1 t1 i1 f1 trivial
      | false =>
        rw [hcut] at h1
        simp only [cond_false] at h1
        refine ih d j row cut kc1 ks1 S1 R1 hrow h1 (ρ ++ τ) σ1 Q c1 k1 c0 k0 g1 t1 i1 hc1 hk1 ?_
        intro r hr τ' σ' c' k' hc' hk' g' t' i' f' e'
        rw [List.append_assoc] at g'
        exact K r (hsubR r hr) (τ ++ τ') σ' c' k' hc' hk' g' t' i' (fr_trans f1 f') e'
    rw [aRun] at hR
    split at hR
    · cases hR
    · rename_i ins len q a b hat
      split at hR
      · -- stack and locals
        rename_i P hP
        obtain ⟨r, h1, h2, P1, hP1, τ, h3⟩ := aP0_ok hE hC hL hSt es hP
        obtain ⟨R1, h4, h5⟩ := aAll_mem hR P1 hP1
        have ha := pAct_0 (O := O) hrow hat h1
        refine aW_go ha (fun h => by cases h) ?_
        rw [Nat.add_zero, Nat.add_zero]
        exact cont (P1, F) kc ks R1 h4 h5 τ r c k hcc hkk ⟨h3, by rw [h2]; exact gFs_app τ hF⟩ (by rw [h2]; exact hT) (by rw [h2]; exact hi0) (by rw [h2]; exact fr_refl _ _)
      · split at hR
        · -- the heap
          rename_i S1 hS1
          obtain ⟨h0, hv, r, h1, τ, h3, h4, h5⟩ := aP1_ok hO hG hE hC hL hSt hT hF hS1 (row.1.name == "<init>" && row.2.2.2.2.1 == a)
          have hby : aBy O (row.1.name == "<init>" && row.2.2.2.2.1 == a) d ins q a b pc' L s es r := by
            have h2 : pS1 O (row.1.name == "<init>" && row.2.2.2.2.1 == a) ins q a b pc' L s es ≠ none := by rw [h1]; exact Option.some_ne_none _
            refine ⟨h0, ?_, Or.inl ⟨h1, fun h => by rw [hv] at h; cases h⟩⟩
            unfold pS2
            split
            · exact absurd (by rfl) h2
            · exact absurd (by rfl) h2
            · rfl
          obtain ⟨nd, ha, hnd⟩ := pAct_by hrow hat hby
          refine aW_go ha hnd ?_
          rw [Nat.add_zero, Nat.add_zero]
          exact cont S1 kc ks R hR (fun _ h => h) τ r c k hcc hkk h3 h4 (hI _ _ h5 hi0) (fr_sub hsub h5)
        · split at hR
          · -- texts, Math, copies
            rename_i S1 hS1
            obtain ⟨r, hby, τ, h3, h4, h5⟩ := aP3_ok hG hE hC hL hSt hT hF hS1 (row.1.name == "<init>" && row.2.2.2.2.1 == a) (q := q)
            obtain ⟨nd, ha, hnd⟩ := pAct_by hrow hat hby
            refine aW_go ha hnd ?_
            rw [Nat.add_zero, Nat.add_zero]
            exact cont S1 kc ks R hR (fun _ h => h) τ r c k hcc hkk h3 h4 (hI _ _ h5 hi0) (fr_sub hsub h5)
          · cases hfin : aFin ins st row.2.2.2.1 e cs with
            | true =>
              -- a return
              rw [hfin] at hR
              simp only [cond_true, Option.some.injEq] at hR
              subst hR
              obtain ⟨h0, h1, h2, h3, v, h4, h5⟩ := aFin_ok (O := O) (pc := pc') (L := L) (es := es) hC hE hSt hfin (row.1.name == "<init>" && row.2.2.2.2.1 == a) q a b
              have ha := pAct_fin hrow hat h0 h1 h2 h3 h4
              refine K _ List.mem_cons_self [] (pc', L, s, es) c k hcc hkk ?_ hT hi0 (fr_refl _ _) ⟨v, ha, h5⟩
              rw [List.append_nil]
              exact ⟨⟨hE, hC, rfl, hL, hSt⟩, hF⟩
            | false =>
              rw [hfin] at hR
              simp only [cond_false] at hR
              split at hR
              · -- a throw
                simp only [Option.some.injEq] at hR
                subst hR
                cases gS_nil hSt
                have ha : pAct O j (pc', L, [], es) = some (.inr (.inl (.inr a))) := pAct_thr hrow hat
                refine K _ List.mem_cons_self [] (pc', L, [], es) c k hcc hkk ?_ hT hi0 (fr_refl _ _) ha
                rw [List.append_nil]
                exact ⟨⟨hE, hC, rfl, hL, trivial⟩, hF⟩
              · -- a call
                split at hR
                · rename_i d' ra hra _
                  split at hR
                  · cases hR
                  · rename_i as rest hcall
                    obtain ⟨h0, h1, h2, h3, h4, h5, vs, rs, h6, h7, h8, m, h9⟩ := aCall_ok (O := O) (pc := pc') (L := L) hSt hT hcall (row.1.name == "<init>" && row.2.2.2.2.1 == a) q row.2.2.2.1
                    have ha := pAct_call hrow hat h0 h1 h2 h3 h4 h5 hra h6
                    refine aW_call ha ?_
                    cases hinl : aInl G inl a as e cs with
                    | true =>
                      rw [hinl] at hR
                      simp only [cond_true] at hR
                      split at hR
                      · cases hR
                      · rename_i RR hRR
                        refine ih d' a ra (fun _ => false) kc ks _ RR hra hRR ρ (0, pEntry vs ra.2.2.1, [], es) _ c k c0 k0 ⟨⟨hE, hC, rfl, aEntry_ok h7 h9 _, trivial⟩, hF⟩ hT hi0 hcc hkk ?_
                        intro r hr τ σ' c' k' hc' hk' g' t' i' f' e'
                        obtain ⟨R1, q1, q2⟩ := aAll_mem hR r hr
                        split at q1
                        · rename_i S1 kc1 ks1
                          obtain ⟨v, v1, v2⟩ := e'
                          refine aW_fin v1 ?_
                          obtain ⟨⟨gE1, gC1, -, -, gS1⟩, gF1'⟩ := g'
                          refine cont ((S1.1.1, pc' + 3, A, S1.1.2.2.2 ++ rest), S1.2) kc1 ks1 R1 q1 q2 τ _ c' k' hc' hk' ⟨⟨gE1, gC1, rfl, gL_app τ hL, ?_⟩, gF1'⟩ t' i' f'
                          rw [← v2]
                          exact gS_append gS1 (gS_app τ h8)
                        · cases q1
                    | false =>
                      rw [hinl] at hR
                      simp only [cond_false] at hR
                      split at hR
                      · cases hR
                      · rename_i cn θ huse
                        obtain ⟨u1, u2, u3, u4, u5⟩ := aUse_ok huse
                        obtain ⟨ρ', r1, r2, r3, r4, r5, r6⟩ := aFit_ok hE hC hF u5
                        obtain ⟨ra', w1, w2⟩ := hCL cn u1
                        rw [u2, hra] at w1
                        cases w1
                        have hsv := cVs_S hE hC r1 r2 r6 h7
                        have hW := w2 d' u3 ρ' vs es r3 r4 hsv hT hi0 r5
                        rw [u2] at hW
                        refine aW_shift hW ?_
                        intro o ho
                        obtain ⟨w, es1, oc, ok⟩ := o
                        obtain ⟨p1, pI, p2, out, p3, τ, p4, p5, p6, p7, p8, p9⟩ := ho
                        simp only at p1 pI p2 p6 p7 p8 p9
                        obtain ⟨ec, v, F', x1, x2, x3, x4, x5⟩ := aOutc_ok hE hC hF r1 r2 r3 p4 p5 p6 p2
                        obtain ⟨R1, q1, q2⟩ := aAll_mem hR out p3
                        rw [x1] at q1
                        simp only at q1
                        have hfr : fr Mo es es1 := fr_sub u4 p2
                        have hc2 : c + oc ≤ c0 + (kc + out.2.2.2.1) := by omega
                        have hk2 : k + ok ≤ k0 + (ks + out.2.2.2.2) := by omega
                        split at q1
                        · rename_i hz
                          rw [hz] at p9
                          simp only at p9
                          subst p9
                          exact cont ((ec, pc' + 3, A, rest), F') (kc + out.2.2.2.1) (ks + out.2.2.2.2) R1 q1 q2 τ _ _ _ hc2 hk2 ⟨⟨x2, x3, rfl, gL_app τ hL, gS_app τ h8⟩, x4⟩ p1 pI hfr
                        · rename_i hz
                          rw [hz] at p9
                          simp only at p9
                          obtain ⟨v', rfl, hv'⟩ := p9
                          exact cont ((ec, pc' + 3, A, v :: rest), F') (kc + out.2.2.2.1) (ks + out.2.2.2.2) R1 q1 q2 τ _ _ _ hc2 hk2 ⟨⟨x2, x3, rfl, gL_app τ hL, ⟨x5 v' hv', gS_app τ h8⟩⟩, x4⟩ p1 pI hfr
                        · rename_i x hz
                          rw [hz] at p9
                          simp only at p9
                          subst p9
                          split at q1
                          · cases q1
                          · rename_i hh hhand
                            split at q1
                            · cases q1
                            · rename_i pc1 A' hcat
                              obtain ⟨L', y1, y2⟩ := aCatch_ok (gL_app τ hL) hcat
                              refine ⟨hh, row, pc1, L', ?_, hrow, y1, ?_⟩
                              · cases hv : pIsV ins b with
                                | true => rw [hv] at hhand; simpa using hhand
                                | false => rw [hv] at hhand; cases hhand
                              · exact cont ((ec, pc1, A', []), F') (kc + out.2.2.2.1) (ks + out.2.2.2.2) R1 q1 q2 τ _ _ _ hc2 hk2 ⟨⟨x2, x3, rfl, y2, trivial⟩, x4⟩ p1 pI hfr
                · cases hR
end
