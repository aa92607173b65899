/-! THE PURE MACHINE: the code of part 04 run over a pure heap. References are places: below 64 what was there before (0..6 the rows of steps, 7 the script, 8.. the texts), from 64 on the heap's own places. -/
abbrev PE : Type := (Nat × Nat × ((Nat → Int32) ⊕ (Nat → Int64))) ⊕ (Nat × List Value)
abbrev PH : Type := List PE
abbrev PL : Type := List (Option Value)
abbrev pSt : Type := Nat × PL × List Value × PH
abbrev pOut : Type := Nat → Option (Nat × (Nat → Int32))
def pTys : List FieldType := [.int, .long, .byte, .boolean]
def pIn (i : Int32) (n : Nat) : Bool := decide (¬ (i < 0 ∨ n ≤ i.toNatClampNeg))
def pTgt (pc : Nat) (off : Int) : Option Nat := match (pc : Int) + off with
  | .ofNat t => some t
  | .negSucc _ => none
def pGetL (L : PL) (i : Nat) : Option Value := match L[i]? with
  | some (some v) => some v
  | _ => none
def pKill (L : PL) : Nat → PL
  | 0 => L
  | i + 1 => match pGetL L i with
    | some (.long _) => L.set i none
    | some (.double _) => L.set i none
    | _ => L
def pSto1 (L : PL) (i : Nat) (v : Value) : PL := (pKill L i).set i (some v)
def pSto2 (L : PL) (i : Nat) (v : Value) : PL := ((pKill L i).set i (some v)).set (i + 1) none
def pArrI (O : pOut) (es : PH) (k : Nat) : Option (Nat × (Nat → Int32)) := if k < 64 then O k else match es[k - 64]? with
  | some (.inl (0, n, .inl f)) => some (n, f)
  | _ => none
def pLenA (O : pOut) (es : PH) (k : Nat) : Option Nat := if k < 64 then (O k).map (·.1) else match es[k - 64]? with
  | some (.inl (_, n, _)) => some n
  | _ => none
/-- what may be put into a field of a type -/
def pFit : FieldType → Value → Bool
  | .int, .int _ => true
  | .boolean, .int x => x == 0 || x == 1
  | .long, .long _ => true
  | .object _, .ref _ => true
  | .array _, .ref _ => true
  | _, _ => false
def pFtyL : List (List (FieldType × Bool)) := [
  (List.range 2).map (fun k => (tyX0 k, (TX0 k).2.2.2)), (List.range 15).map (fun k => (tyX1 k, (TX1 k).2.2.2)), (List.range 9).map (fun k => (tyX2 k, (TX2 k).2.2.2)),
  (List.range 3).map (fun k => (tyX3 k, (TX3 k).2.2.2)), (List.range 7).map (fun k => (tyX4 k, (TX4 k).2.2.2)), (List.range 5).map (fun k => (tyX5 k, (TX5 k).2.2.2)),
  (List.range 8).map (fun k => (tyX6 k, (TX6 k).2.2.2)), (List.range 20).map (fun k => (tyX7 k, (TX7 k).2.2.2)), (List.range 2).map (fun k => (tyX8 k, (TX8 k).2.2.2)),
  (List.range 7).map (fun k => (tyX9 k, (TX9 k).2.2.2)), (List.range 3).map (fun k => (tyX10 k, (TX10 k).2.2.2)), (List.range 11).map (fun k => (tyX11 k, (TX11 k).2.2.2)),
  (List.range 52).map (fun k => (tyX12 k, (TX12 k).2.2.2))]
def pFty (c k : Nat) : Option (FieldType × Bool) := (pFtyL.getD c [])[k]?
def pDefV : FieldType → Value
  | .int => .int 0
  | .boolean => .int 0
  | .byte => .int 0
  | .long => .long 0
  | _ => .null
def pBlank (c : Nat) : List Value := (pFtyL.getD c []).map (fun q => pDefV q.1)
def pCmp (c : Jvm.ClassFile.Cond) (x y : Int32) : Bool := match c with
  | .eq => decide (x = y)
  | .ne => decide (¬ x = y)
  | .lt => decide (x < y)
  | .ge => decide (y ≤ x)
  | .gt => decide (y < x)
  | .le => decide (x ≤ y)
def pBr (c : Bool) (pc : Nat) (off : Int) (L : PL) (r : List Value) (es : PH) : Option pSt := match pTgt pc off with
  | some t => some (if c then t else pc + 3, L, r, es)
  | none => none
def pLdI (L : PL) (i n pc : Nat) (st : List Value) (es : PH) : Option pSt := match pGetL L i with
  | some (.int x) => some (pc + n, L, .int x :: st, es)
  | _ => none
def pLdL (L : PL) (i n pc : Nat) (st : List Value) (es : PH) : Option pSt := match pGetL L i with
  | some (.long x) => some (pc + n, L, .long x :: st, es)
  | _ => none
def pLdA (L : PL) (i n pc : Nat) (st : List Value) (es : PH) : Option pSt := match pGetL L i with
  | some (.ref x) => some (pc + n, L, .ref x :: st, es)
  | _ => none
def pStI (L : PL) (i n pc : Nat) (st : List Value) (es : PH) : Option pSt := match st with
  | .int x :: r => if i < L.length then some (pc + n, pSto1 L i (.int x), r, es) else none
  | _ => none
def pStL (L : PL) (i n pc : Nat) (st : List Value) (es : PH) : Option pSt := match st with
  | .long x :: r => if i + 1 < L.length then some (pc + n, pSto2 L i (.long x), r, es) else none
  | _ => none
def pStA (L : PL) (i n pc : Nat) (st : List Value) (es : PH) : Option pSt := match st with
  | .ref x :: r => if i < L.length then some (pc + n, pSto1 L i (.ref x), r, es) else none
  | _ => none
def pBin (ins : Instr) (x y : Int32) : Option Int32 := match ins with
  | .iadd => some (x + y)
  | .isub => some (x - y)
  | .imul => some (x * y)
  | .iand => some (x &&& y)
  | .ior => some (x ||| y)
  | .idiv => if y = 0 then none else some (x / y)
  | .irem => if y = 0 then none else some (x - x / y * y)
  | .ishl => some (x <<< (y &&& 31))
  | .ishr => some (x >>> (y &&& 31))
  | .iushr => some ((x.toUInt32 >>> (y.toUInt32 &&& Int32.toUInt32 31)).toInt32)
  | _ => none
def pBinL (ins : Instr) (x y : Int64) : Option Int64 := match ins with
  | .ladd => some (x + y)
  | .lsub => some (x - y)
  | .lmul => some (x * y)
  | .land => some (x &&& y)
  | .lor => some (x ||| y)
  | .ldiv => if y = 0 then none else some (x / y)
  | .lrem => if y = 0 then none else some (x - x / y * y)
  | _ => none
def pShL (ins : Instr) (x : Int64) (y : Int32) : Option Int64 := match ins with
  | .lshl => some (x <<< (y.toInt64 &&& 63))
  | .lushr => some ((x.toUInt64 >>> (y.toInt64.toUInt64 &&& Int64.toUInt64 63)).toInt64)
  | _ => none
/-- the instructions that touch stack and locals alone -/
def pS0 (ins : Instr) (pc : Nat) (L : PL) (st : List Value) (es : PH) : Option pSt := match ins with
  | .iconst n => some (pc + 1, L, .int (Int32.ofInt n) :: st, es)
  | .bipush n => some (pc + 2, L, .int (Int8.ofInt n).toInt32 :: st, es)
  | .sipush n => some (pc + 3, L, .int (Int16.ofInt n).toInt32 :: st, es)
  | .lconst n => some (pc + 1, L, .long (Int64.ofNat (n : Nat)) :: st, es)
  | .iload_n k => pLdI L k 1 pc st es
  | .iload i => pLdI L i 2 pc st es
  | .lload_n k => pLdL L k 1 pc st es
  | .lload i => pLdL L i 2 pc st es
  | .aload_n k => pLdA L k 1 pc st es
  | .aload i => pLdA L i 2 pc st es
  | .istore_n k => pStI L k 1 pc st es
  | .istore i => pStI L i 2 pc st es
  | .lstore_n k => pStL L k 1 pc st es
  | .lstore i => pStL L i 2 pc st es
  | .astore_n k => pStA L k 1 pc st es
  | .astore i => pStA L i 2 pc st es
  | .iinc i n => match pGetL L i with
    | some (.int x) => if i < L.length then some (pc + 3, pSto1 L i (.int (x + Int32.ofInt n)), st, es) else none
    | _ => none
  | .iadd | .isub | .imul | .iand | .ior | .idiv | .irem | .ishl | .ishr | .iushr => match st with
    | .int y :: .int x :: r => match pBin ins x y with
      | some v => some (pc + 1, L, .int v :: r, es)
      | none => none
    | _ => none
  | .ladd | .lsub | .lmul | .land | .lor | .ldiv | .lrem => match st with
    | .long y :: .long x :: r => match pBinL ins x y with
      | some v => some (pc + 1, L, .long v :: r, es)
      | none => none
    | _ => none
  | .lshl | .lushr => match st with
    | .int y :: .long x :: r => match pShL ins x y with
      | some v => some (pc + 1, L, .long v :: r, es)
      | none => none
    | _ => none
  | .lcmp => match st with
    | .long y :: .long x :: r => some (pc + 1, L, .int (lg_cmp x y) :: r, es)
    | _ => none
  | .i2l => match st with
    | .int x :: r => some (pc + 1, L, .long x.toInt64 :: r, es)
    | _ => none
  | .l2i => match st with
    | .long x :: r => some (pc + 1, L, .int x.toInt32 :: r, es)
    | _ => none
  | .i2b => match st with
    | .int x :: r => some (pc + 1, L, .int x.toInt8.toInt32 :: r, es)
    | _ => none
  | .dup => match st with
    | v :: r => if v.category = 1 then some (pc + 1, L, v :: v :: r, es) else none
    | _ => none
  | .pop => match st with
    | v :: r => if v.category = 1 then some (pc + 1, L, r, es) else none
    | _ => none
  | .pop2 => match st with
    | .long _ :: r => some (pc + 1, L, r, es)
    | _ => none
  | .dup2 => match st with
    | .long v :: r => some (pc + 1, L, .long v :: .long v :: r, es)
    | .int v :: .int w :: r => some (pc + 1, L, .int v :: .int w :: .int v :: .int w :: r, es)
    | .int v :: .ref w :: r => some (pc + 1, L, .int v :: .ref w :: .int v :: .ref w :: r, es)
    | _ => none
  | .ifCond c off => match st with
    | .int x :: r => pBr (pCmp c x 0) pc off L r es
    | _ => none
  | .if_icmp c off => match st with
    | .int y :: .int x :: r => pBr (pCmp c x y) pc off L r es
    | _ => none
  | .goto off => match pTgt pc off with
    | some t => some (t, L, st, es)
    | none => none
  | .tableswitch dflt lo hi offs => match st with
    | .int x :: r => match (if x.toInt < lo ∨ hi < x.toInt then pTgt pc dflt else match offs[(x.toInt - lo).toNat]? with
        | some off => pTgt pc off
        | none => none) with
      | some t => some (t, L, r, es)
      | none => none
    | _ => none
  | .lookupswitch dflt ps => match st with
    | .int x :: r => if (ps.toList.zip (ps.toList.drop 1)).all (fun (a, next) => a.1 < next.1) = true then match pTgt pc (Op.lookupswitch.offset ps.toList dflt x.toInt) with
        | some t => some (t, L, r, es)
        | none => none
      else none
    | _ => none
  | _ => none
/-- the instructions that read or write the heap, make nothing -/
def pS1 (O : pOut) (ini : Bool) (ins : Instr) (q a b pc : Nat) (L : PL) (st : List Value) (es : PH) : Option pSt := match ins with
  | .ldc _ => if b = 0 then match pKI[q]? with
      | some w => some (pc + 2, L, .int w.2.2 :: st, es)
      | none => none
    else some (pc + 2, L, .ref (8 + q) :: st, es)
  | .ldc_w _ => if b = 0 then match pKI[q]? with
      | some w => some (pc + 3, L, .int w.2.2 :: st, es)
      | none => none
    else none
  | .ldc2_w _ => match pKL[q]? with
    | some w => some (pc + 3, L, .long w.2.2 :: st, es)
    | none => none
  | .getstatic _ => some (pc + 3, L, .ref a :: st, es)
  | .getfield _ => match st with
    | .ref k :: r => if k < 64 then none else match es[k - 64]? with
      | some (.inr (c, fs)) => if c = a then match fs[b]? with
          | some v => some (pc + 3, L, v :: r, es)
          | none => none
        else none
      | _ => none
    | _ => none
  | .putfield _ => match st with
    | v :: .ref k :: r => if k < 64 then none else match es[k - 64]? with
      | some (.inr (c, fs)) => if c = a then match pFty a b with
          | some (ty, fin) => if pFit ty v && (!fin || ini) && decide (b < fs.length) then some (pc + 3, L, r, es.set (k - 64) (.inr (c, fs.set b v))) else none
          | none => none
        else none
      | _ => none
    | _ => none
  | .iaload => match st with
    | .int i :: .ref k :: r => match pArrI O es k with
      | some (n, f) => if pIn i n then some (pc + 1, L, .int (f i.toNatClampNeg) :: r, es) else none
      | none => none
    | _ => none
  | .baload => match st with
    | .int i :: .ref k :: r => if k < 64 then none else match es[k - 64]? with
      | some (.inl (t, n, .inl f)) => if (t = 2 ∨ t = 3) ∧ pIn i n = true then some (pc + 1, L, .int (f i.toNatClampNeg) :: r, es) else none
      | _ => none
    | _ => none
  | .laload => match st with
    | .int i :: .ref k :: r => if k < 64 then none else match es[k - 64]? with
      | some (.inl (1, n, .inr f)) => if pIn i n then some (pc + 1, L, .long (f i.toNatClampNeg) :: r, es) else none
      | _ => none
    | _ => none
  | .iastore => match st with
    | .int x :: .int i :: .ref k :: r => if k < 64 then none else match es[k - 64]? with
      | some (.inl (0, n, .inl f)) => if pIn i n then some (pc + 1, L, r, es.set (k - 64) (.inl (0, n, .inl (upd f i.toNatClampNeg x)))) else none
      | _ => none
    | _ => none
  | .bastore => match st with
    | .int x :: .int i :: .ref k :: r => if k < 64 then none else match es[k - 64]? with
      | some (.inl (2, n, .inl f)) => if pIn i n then some (pc + 1, L, r, es.set (k - 64) (.inl (2, n, .inl (upd f i.toNatClampNeg (vp_nar .byte x))))) else none
      | some (.inl (3, n, .inl f)) => if pIn i n then some (pc + 1, L, r, es.set (k - 64) (.inl (3, n, .inl (upd f i.toNatClampNeg (vp_nar .boolean x))))) else none
      | _ => none
    | _ => none
  | .lastore => match st with
    | .long x :: .int i :: .ref k :: r => if k < 64 then none else match es[k - 64]? with
      | some (.inl (1, n, .inr f)) => if pIn i n then some (pc + 1, L, r, es.set (k - 64) (.inl (1, n, .inr (vp_updL f i.toNatClampNeg x)))) else none
      | _ => none
    | _ => none
  | .arraylength => match st with
    | .ref k :: r => match pLenA O es k with
      | some n => some (pc + 1, L, .int (Int32.ofNat n) :: r, es)
      | none => none
    | _ => none
  | .invokespecial _ => if b = 6 then match st with
      | .ref k :: r => if k < 64 then none else some (pc + 3, L, r, es)
      | _ => none
    else none
  | .invokestatic _ => if b = 7 then match st with
      | .int n :: .int dp :: .ref k1 :: .int sp :: .ref k0 :: r => if k0 < 64 ∨ k1 < 64 then none else match es[k0 - 64]?, es[k1 - 64]? with
        | some (.inl (0, n0, .inl f)), some (.inl (0, n1, .inl g)) =>
          if ¬ sp < 0 ∧ ¬ dp < 0 ∧ ¬ n < 0 ∧ sp.toNatClampNeg + n.toNatClampNeg ≤ n0 ∧ dp.toNatClampNeg + n.toNatClampNeg ≤ n1 then
            some (pc + 3, L, r, es.set (k1 - 64) (.inl (0, n1, .inl (va_cpy f g sp.toNatClampNeg dp.toNatClampNeg n.toNatClampNeg)))) else none
        | _, _ => none
      | _ => none
    else none
  | _ => none
/-- what makes a cell -/
def pS2 (ins : Instr) (a b pc : Nat) (L : PL) (st : List Value) (es : PH) : Option pSt := match ins with
  | .newarray _ => match st with
    | .int n :: r => if n < 0 ∨ 2000000 < n.toNatClampNeg then none else
        some (pc + 2, L, .ref (64 + es.length) :: r, es ++ [.inl (a, n.toNatClampNeg, if a = 1 then .inr (fun _ => 0) else .inl (fun _ => 0))])
    | _ => none
  | .new _ => if b = 0 then some (pc + 3, L, .ref (64 + es.length) :: st, es ++ [.inr (a, pBlank a)]) else none
  | _ => none
