/-! what is left: the pure run of the law ends, and answers 1, on every script -/
theorem pure_claim (n : Nat) (hn : n ≤ 3584) (xs : Nat → Int32) : ∃ (k d : Nat) (es1 : PH) (kc ks : Nat), pRun (pO0 xs n) k d 301 (0, pEntry [.ref 7] 8, [], []) = some (.inl (some (.int 1)), es1, kc, ks) ∧ d ≤ 400 ∧ kc ≤ 601024 ∧ ks ≤ 7293034 := sorry
