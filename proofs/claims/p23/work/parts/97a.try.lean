/-! the heap behind the constructors -/
def O00 : pOut := fun k => if k = 7 then none else pO0 (fun _ => 0) 0 k
theorem up_try : (match pUp O00 301 23 40 20000 (0, pEntry [.ref 7] 8, [], []) 0 0 with
  | some (σ, kc, ks) => Nat.beq σ.1 23 && (Nat.ble σ.2.2.2.length 200 && (Nat.ble kc 1000 && Nat.ble ks 100000))
  | none => false) = true := by decide +kernel
