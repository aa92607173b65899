/-! THE PURE RUN -/
/-- the texts' bytes -/
def pTX : List (List Nat) := [[116, 111, 111, 107, 32, 118, 97, 108, 117, 101, 32, 110, 117, 109, 98, 101, 114, 32, 109, 101, 110, 32, 116, 97, 107, 101, 115, 32, 115, 97, 102, 101, 32, 110, 111, 116, 32, 97, 110, 100, 32, 111, 114, 32, 97, 100, 100, 32, 105, 102, 32, 115, 116, 114, 97, 105, 103, 104, 116, 32, 115, 108, 97, 110, 116, 32, 97, 104, 101, 97, 100, 32, 108, 101, 97, 112, 32, 98, 105, 116, 101, 32], [116, 104, 101, 32, 116, 101, 120, 116, 32, 105, 115, 32, 119, 114, 111, 110, 103, 44, 32, 111, 114, 32, 116, 104, 101, 32, 118, 97, 108, 117, 101, 32, 105, 115, 32, 110, 111, 110, 101], [116, 104, 101, 114, 101, 32, 97, 114, 101, 32, 102, 105, 118, 101, 32, 107, 105, 110, 100, 115], [116, 104, 101, 32, 116, 101, 120, 116, 32, 105, 115, 32, 119, 114, 111, 110, 103], [110, 111, 32, 115, 117, 99, 104, 32, 115, 113, 117, 97, 114, 101, 32, 111, 114, 32, 107, 105, 110, 100], [110, 111, 32, 115, 117, 99, 104, 32, 115, 105, 100, 101], [110, 111, 32, 115, 117, 99, 104, 32, 115, 105, 100, 101, 44, 32, 111, 114, 32, 97, 32, 110, 117, 109, 98, 101, 114, 32, 98, 101, 108, 111, 119, 32, 110, 111, 110, 101], [110, 111, 32, 115, 117, 99, 104, 32, 119, 97, 121], [116, 104, 101, 114, 101, 32, 97, 114, 101, 32, 116, 104, 114, 101, 101, 32, 98, 111, 111, 107, 115], [110, 111, 32, 115, 117, 99, 104, 32, 98, 111, 111, 107, 32, 111, 114, 32, 107, 105, 110, 100], [110, 111, 32, 115, 117, 99, 104, 32, 102, 105, 108, 101, 32, 111, 114, 32, 114, 97, 110, 107], [116, 104, 101, 114, 101, 32, 97, 114, 101, 32, 50, 52, 32, 110, 111, 116, 101, 115], [110, 111, 32, 115, 117, 99, 104, 32, 98, 111, 111, 107, 44, 32, 110, 111, 116, 101, 32, 111, 114, 32, 107, 105, 110, 100], [110, 111, 32, 115, 117, 99, 104, 32, 98, 111, 111, 107, 32, 111, 114, 32, 110, 111, 116, 101], [97, 32, 110, 111, 116, 101, 32, 104, 97, 115, 32, 110, 111, 32, 115, 117, 99, 104, 32, 112, 97, 114, 116], [110, 111, 32, 115, 117, 99, 104, 32, 119, 97, 121, 44, 32, 110, 117, 109, 98, 101, 114, 32, 111, 102, 32, 109, 111, 118, 101, 115, 32, 111, 114, 32, 111, 102, 32, 115, 108, 105, 112, 115], [110, 111, 32, 115, 117, 99, 104, 32, 115, 108, 105, 112], [110, 111, 32, 115, 117, 99, 104, 32, 112, 114, 105, 99, 101], [110, 111, 32, 115, 117, 99, 104, 32, 108, 101, 110, 103, 116, 104], [110, 111, 32, 115, 117, 99, 104, 32, 110, 117, 109, 98, 101, 114, 32, 111, 102, 32, 109, 111, 118, 101, 115, 44, 32, 111, 114, 32, 110, 111, 32, 115, 117, 99, 104, 32, 115, 105, 100, 101], [116, 104, 101, 114, 101, 32, 97, 114, 101, 32, 116, 101, 110, 32, 112, 105, 99, 116, 117, 114, 101, 115], [97, 32, 110, 117, 109, 98, 101, 114, 32, 98, 101, 108, 111, 119, 32, 110, 111, 110, 101], [110, 111, 32, 115, 117, 99, 104, 32, 98, 111, 111, 107, 32, 111, 114, 32, 115, 108, 105, 112], [110, 111, 32, 115, 117, 99, 104, 32, 98, 111, 111, 107], [97, 32, 110, 117, 109, 98, 101, 114, 32, 98, 101, 108, 111, 119, 32, 48], [97, 32, 110, 117, 109, 98, 101, 114, 32, 98, 101, 108, 111, 119, 32, 48, 44, 32, 111, 114, 32, 110, 111, 32, 115, 117, 99, 104, 32, 119, 105, 100, 116, 104], [115, 116, 114, 97, 105, 103, 104, 116], [115, 108, 97, 110, 116], [97, 104, 101, 97, 100], [108, 101, 97, 112], [98, 105, 116, 101], [97, 100, 100], [116, 111, 111, 107], [118, 97, 108, 117, 101], [110, 117, 109, 98, 101, 114], [109, 101, 110], [105, 102], [110, 111, 116], [116, 97, 107, 101, 115], [115, 97, 102, 101], [97, 110, 100], [111, 114]]
def pCat (st : List Value) : Nat := (st.map (fun v => v.category)).sum
def pEntry (as : List Value) (n : Nat) : PL :=
  (as.flatMap (fun v => if v.category = 2 then [some v, none] else [some v])) ++ List.replicate (n - (as.flatMap (fun v => if v.category = 2 then [some v, none] else [some v] : Value → PL)).length) none
/-- length() and charAt() of a text -/
def pS3 (ins : Instr) (a b pc : Nat) (L : PL) (st : List Value) (es : PH) : Option pSt := match ins with
  | .invokevirtual _ => match b with
    | 8 => match st with
      | .ref k :: r => if k < 8 ∨ 8 < pCat r then none else match pTX[k - 8]? with
        | some t => some (pc + 3, L, .int (nI t.length) :: r, es)
        | none => none
      | _ => none
    | 9 => match st with
      | .int i :: .ref k :: r => if k < 8 ∨ 8 < pCat r ∨ i < 0 then none else match pTX[k - 8]? with
        | some t => match t[i.toNatClampNeg]? with
          | some x => some (pc + 3, L, .int (nI x) :: r, es)
          | none => none
        | none => none
      | _ => none
    | _ => none
  | .invokestatic _ => if b = 0 then match a with
      | 21 => match st with
        | .int y :: .int x :: r => if 40 < pCat r then none else some (pc + 3, L, .int (if y < x then y else x) :: r, es)
        | _ => none
      | 30 => match st with
        | .int y :: .int x :: r => if 40 < pCat r then none else some (pc + 3, L, .int (if x < y then y else x) :: r, es)
        | _ => none
      | 256 => match st with
        | .int x :: r => if 40 < pCat r then none else some (pc + 3, L, .int (if 0 ≤ x then x else 0 - x) :: r, es)
        | _ => none
      | _ => none
    else none
  | _ => none
/-- the answer at a method's end -/
def pFin (ins : Instr) (st : List Value) (ret : Option FieldType) : Option (Option Value) := match ins with
  | .ireturn => match st, ret with
    | [.int v], some .int => some (some (.int v))
    | [.int v], some .boolean => if v = 0 ∨ v = 1 then some (some (.int v)) else none
    | _, _ => none
  | .lreturn => match st, ret with
    | [.long v], some .long => some (some (.long v))
    | _, _ => none
  | .areturn => match st, ret with
    | [.ref k], some (.array _) => some (some (.ref k))
    | _, _ => none
  | .return_ => match st, ret with
    | [], none => some none
    | _, _ => none
  | _ => none
/-- a call: its arguments, the receiver first, and what stays below -/
def pCall (ins : Instr) (a b : Nat) (row : pMrow) (st : List Value) (es : PH) : Option (List Value × List Value) :=
  if row.2.2.2.2.1 = 15 ∨ row.2.2.1 < pCat (st.take row.2.2.2.2.2.1) ∨ st.length < row.2.2.2.2.2.1 ∨ 8 < pCat (st.drop row.2.2.2.2.2.1) then none else match ins with
  | .invokestatic _ => if b = 0 ∨ b = 3 then some ((st.take row.2.2.2.2.2.1).reverse, st.drop row.2.2.2.2.2.1) else none
  | .invokevirtual _ => if b = 1 ∨ b = 4 then match (st.take row.2.2.2.2.2.1).reverse with
      | .ref k :: _ => if k < 64 then none else match es[k - 64]? with
        | some (.inr (ci, _)) => if ci = row.2.2.2.2.1 then some ((st.take row.2.2.2.2.2.1).reverse, st.drop row.2.2.2.2.2.1) else none
        | _ => none
      | _ => none
    else none
  | .invokespecial _ => if b = 2 ∨ b = 5 then match (st.take row.2.2.2.2.2.1).reverse with
      | .ref k :: _ => if k < 64 then none else some ((st.take row.2.2.2.2.2.1).reverse, st.drop row.2.2.2.2.2.1)
      | _ => none
    else none
  | _ => none
/-- a handler's row: does it name the thrown class -/
def pHis (ct x : Nat) : Bool := pCK.any (fun w => w.1 == RL && (w.2.1 == ct && (pXN[x]? == some w.2.2)))
def pHand (j pc x : Nat) : Option Nat := if j < pNcode then none else match pHH[j - pNcode]? with
  | none => none
  | some hh => match hh.find? (fun h => decide (h.1 ≤ pc) && (decide (pc < h.2.1) && pHis h.2.2.2 x)) with
    | some h => some h.2.2.1
    | none => none
/-- behind the handler's first row, that puts the thrown thing away -/
def pPut (code : List pEnt) (L : PL) (pc : Nat) : Option (Nat × PL) := match pAt code pc with
  | some (.astore_n i, _) => if (i : Nat) < L.length then some (pc + 1, (pKill L i).set i none) else none
  | some (.astore i, _) => if i < L.length then some (pc + 2, (pKill L i).set i none) else none
  | _ => none
def pIsV : Instr → Nat → Bool
  | .invokevirtual _, 1 => true
  | _, _ => false
abbrev pRes : Type := (Option Value ⊕ Nat) × PH × Nat × Nat
def pAdd (kc ks : Nat) (o : Option pRes) : Option pRes := match o with
  | some (r, es, c, s) => some (r, es, kc + c, ks + s)
  | none => none
def pRun (O : pOut) : Nat → Nat → Nat → pSt → Option pRes
  | 0, _, _, _ => none
  | n + 1, d, j, (pc, L, st, es) => match pM[j]? with
    | none => none
    | some row => match pAt row.2.2.2.2.2.2 pc with
      | none => none
      | some (ins, _, q, a, b) => match pS0 ins pc L st es with
        | some r => pRun O n d j r
        | none => match pS1 O (row.1.name == "<init>" && row.2.2.2.2.1 == a) ins q a b pc L st es with
          | some r => if pIsInv ins = true ∧ 40 < pCat st then none else pRun O n d j r
          | none => match pS2 ins a b pc L st es with
            | some r => pAdd 1 (pNew ins a st) (pRun O n d j r)
            | none => match pS3 ins a b pc L st es with
              | some r => match d with
                | 0 => none
                | _ + 1 => pRun O n d j r
              | none => match pFin ins st row.2.2.2.1 with
                | some v => some (.inl v, es, 0, 0)
                | none => match ins, b, st with
                  | .new _, 1, [] => some (.inr a, es, 1, 6)
                  | _, _, _ => match d, pM[a]? with
                    | d' + 1, some ra => match pCall ins a b ra st es with
                      | none => none
                      | some (as, rest) => match pRun O n d' a (0, pEntry as ra.2.2.1, [], es) with
                        | none => none
                        | some (.inl v, es1, kc, ks) => pAdd kc ks (pRun O n d j (pc + 3, L, v.toList ++ rest, es1))
                        | some (.inr x, es1, kc, ks) => match (if pIsV ins b = true then pHand j pc x else none) with
                          | none => none
                          | some h => match pPut row.2.2.2.2.2.2 L h with
                            | none => none
                            | some (pc', L') => pAdd kc ks (pRun O n d j (pc', L', [], es1))
                    | _, _ => none
/-- what the table of methods says -/
theorem pM_tab : ∀ r ∈ pM, (r.1.cls = "java/lang/Math" ∨ Jvm.plainName r.1.cls = true) ∧ pCls.getD r.2.2.2.2.1 "" = r.1.cls ∧ r.1.cls ≠ "java/lang/invoke/MethodHandle" ∧ r.1.cls ≠ "java/lang/invoke/VarHandle" ∧ r.2.2.1 ≤ 60 := by
  have h : pM.all (fun r => (r.1.cls == "java/lang/Math" || Jvm.plainName r.1.cls) && (pCls.getD r.2.2.2.2.1 "" == r.1.cls && (r.1.cls != "java/lang/invoke/MethodHandle" && (r.1.cls != "java/lang/invoke/VarHandle" && decide (r.2.2.1 ≤ 60))))) = true := by decide +kernel
  intro r hr
  have h1 := List.all_eq_true.mp h r hr
  simp only [Bool.and_eq_true, Bool.or_eq_true, beq_iff_eq, bne_iff_ne, ne_eq, decide_eq_true_eq] at h1
  exact ⟨h1.1, h1.2.1, h1.2.2.1, h1.2.2.2.1, h1.2.2.2.2⟩
theorem pM_par : ∀ (j : Nat) (r : pMrow), pM[j]? = some r → (parseMethodDescriptor r.1.desc).map (fun d => d.parameters.length) = some (r.2.2.2.2.2.1 - if pSTI.contains j then 0 else if j < pNcode then 1 else 0) := by
  have h : pM.zipIdx.all (fun q => decide ((parseMethodDescriptor q.1.1.desc).map (fun d => d.parameters.length) = some (q.1.2.2.2.2.2.1 - if pSTI.contains q.2 then 0 else if q.2 < pNcode then 1 else 0))) = true := by decide +kernel
  intro j r hr
  have h1 := List.all_eq_true.mp h (r, j) (List.mem_of_getElem? (i := j) (by rw [List.getElem?_zipIdx, hr]; simp))
  exact of_decide_eq_true h1
