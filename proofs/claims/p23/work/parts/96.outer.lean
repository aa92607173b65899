/-! a run that knows less of the outer rows is the same run -/
def pLe (O0 O : pOut) : Prop := ∀ k w, O0 k = some w → O k = some w
section
variable {O0 O : pOut} {j : Nat} {es : PH} {k : Nat}
theorem pArrI_le (h : pLe O0 O) {w : Nat × (Nat → Int32)} (hA : pArrI O0 es k = some w) : pArrI O es k = some w := by
  unfold pArrI at hA ⊢
  by_cases hk : k < 64
  · rw [if_pos hk] at hA ⊢; exact h k w hA
  · rw [if_neg hk] at hA ⊢; exact hA
theorem pLenA_le (h : pLe O0 O) {w : Nat} (hA : pLenA O0 es k = some w) : pLenA O es k = some w := by
  unfold pLenA at hA ⊢
  by_cases hk : k < 64
  · rw [if_pos hk] at hA ⊢
    cases h0 : O0 k with
    | none => rw [h0] at hA; cases hA
    | some v => rw [h0] at hA; rw [h k v h0]; exact hA
  · rw [if_neg hk] at hA ⊢; exact hA
theorem pS1_le (h : pLe O0 O) {ini : Bool} {ins : Instr} {q a b pc : Nat} {L : PL} {st : List Value} : (∀ r, pS1 O0 ini ins q a b pc L st es = some r → pS1 O ini ins q a b pc L st es = some r) ∧ (pS1 O0 ini ins q a b pc L st es = none → pS1 O ini ins q a b pc L st es = none ∨ ins = .iaload ∨ ins = .arraylength) := by
  cases ins
  case iaload =>
    refine ⟨fun r hr => ?_, fun _ => Or.inr (Or.inl rfl)⟩
    simp only [pS1] at hr ⊢
    split at hr
    · rename_i k' _
      cases hA : pArrI O0 es k' with
      | none => rw [hA] at hr; cases hr
      | some w => rw [hA] at hr; rw [pArrI_le h hA]; exact hr
    · cases hr
  case arraylength =>
    refine ⟨fun r hr => ?_, fun _ => Or.inr (Or.inr rfl)⟩
    simp only [pS1] at hr ⊢
    split at hr
    · rename_i k' _
      cases hA : pLenA O0 es k' with
      | none => rw [hA] at hr; cases hr
      | some w => rw [hA] at hr; rw [pLenA_le h hA]; exact hr
    · cases hr
  all_goals exact ⟨fun r hr => hr, fun hn => Or.inl hn⟩
end
