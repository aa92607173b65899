/-! the world at the law's entry -/
def pNar : List Cond := flatC (Jvm.Cond.and given_1 narrow_1)
/-- what the seven rows of steps hold -/
def pSteps : List (List Int32) := [[1, 0, -1, 0, 0, 1, 0, -1], [1, 1, 1, -1, -1, 1, -1, -1], [1, 2, 1, -2, -1, 2, -1, -2, 2, 1, 2, -1, -2, 1, -2, -1], [1, 0], [-1, 0], [1, 1, 1, -1], [-1, 1, -1, -1]]
/-- the rows that were there: the steps, and the script -/
def pO0 (xs : Nat → Int32) (n : Nat) : pOut := fun k => if k = 7 then some (n, xs) else match pSteps[k]? with
  | some l => some (l.length, fun j => l.getD j 0)
  | none => none
def rqS (n : String) (l : List Int32) : List Cond := [.arrayOf (.static "MoveNotes" n "[I") .int, .eq (.length (.static "MoveNotes" n "[I")) (.int (Int32.ofNat l.length))] ++ (List.range l.length).map (fun j => .eq (.elem (.static "MoveNotes" n "[I") (.int (Int32.ofNat j))) (.int (l.getD j 0)))
theorem nS : (pSN.zip pSteps).all (fun q => (rqS q.1 q.2).all (fun c => decide (c ∈ pNar)) && (decide (Cond.laysStatic "MoveNotes" q.1 "[I" ∈ lw_tbl))) = true := by decide +kernel
def tmT (w : String × Nat × String) : Term := .field (.string w.1 w.2.1) "java/lang/String" "value" "[B"
def rqT (w : String × Nat × String) (t : List Nat) : List Cond := [.exactly (.string w.1 w.2.1) "java/lang/String", .eq (.field (.string w.1 w.2.1) "java/lang/String" "coder" "B") (.int 0), .arrayOf (tmT w) .byte, .eq (.length (tmT w)) (.int (Int32.ofNat t.length))] ++ (List.range t.length).map (fun j => .eq (.elem (tmT w) (.int (Int32.ofNat j))) (.int (nI (t.getD j 0))))
theorem nX : pXN.zipIdx.all (fun a => pXN.zipIdx.all (fun b => a.2 == b.2 || decide (Cond.not (.castable a.1 b.1) ∈ pNar))) = true := by decide +kernel
theorem nZ : decide (Cond.isRef (.static Bundle.tN "UNASSIGNED_STACK" Bundle.steD) ∈ pNar) && (decide (Cond.isRef (.static Bundle.tN "SUPPRESSED_SENTINEL" Bundle.listD) ∈ pNar) && (decide (Cond.laysStatic Bundle.tN "UNASSIGNED_STACK" Bundle.steD ∈ lw_tbl) && (decide (Cond.laysStatic Bundle.tN "SUPPRESSED_SENTINEL" Bundle.listD ∈ lw_tbl) && (decide (Cond.initialized Bundle.tN ∈ lw_tbl) &&
  (decide (Cond.eq (.static "java/lang/String" "COMPACT_STRINGS" "Z") (.int 1) ∈ pNar) && (decide (Cond.laysStatic "java/lang/String" "COMPACT_STRINGS" "Z" ∈ lw_tbl) && (decide (Cond.initialized "java/lang/String" ∈ lw_tbl) &&
  (decide (Cond.isRef (.static "jdk/internal/util/Preconditions" "SIOOBE_FORMATTER" "Ljava/util/function/BiFunction;") ∈ pNar) && (decide (Cond.laysStatic "jdk/internal/util/Preconditions" "SIOOBE_FORMATTER" "Ljava/util/function/BiFunction;" ∈ lw_tbl) && decide (Cond.initialized "jdk/internal/util/Preconditions" ∈ lw_tbl)))))))))) = true := by decide +kernel
def isTx : Cond → Bool
  | .exactly (.string _ _) _ => true
  | .eq (.field (.string _ _) _ _ _) _ => true
  | .arrayOf (.field (.string _ _) _ _ _) _ => true
  | .eq (.length (.field (.string _ _) _ _ _)) _ => true
  | .eq (.elem (.field (.string _ _) _ _ _) _) _ => true
  | _ => false
theorem nT : pNar.filter isTx = (pST.zip pTX).flatMap (fun q => rqT q.1 q.2) := by decide +kernel
