/-! all that a method's run leans on, of what was there before it -/
def isBad : Cond → Bool | .castable .. => true | .declares _ => true | _ => false
def pBadW : List Cond := lw_tbl.filter isBad
def pEx (A : Nat → Prop) (s : State) (H : Heap) : Prop := vx_Zq Bundle.tN "UNASSIGNED_STACK" Bundle.steD A s H ∧ vx_Zq Bundle.tN "SUPPRESSED_SENTINEL" Bundle.listD A s H ∧ (∀ (x y : Nat) (a b : String), pXN[x]? = some a → pXN[y]? = some b → x ≠ y → va_Nc a b s) ∧ ∀ w ∈ pBadW, va_Nw w s
def pTxt (ad : Nat → Nat) (A : Nat → Prop) (s : State) (H : Heap) : Prop :=
  (∃ adV : Nat → Nat, ∀ (q : Nat) (t : List Nat), pTX[q]? = some t → va_O "java/lang/String" (ad (8 + q)) A s H ∧ va_OF "java/lang/String" "coder" "B" (.int 0) (ad (8 + q)) A s H ∧ va_OF "java/lang/String" "value" "[B" (.ref (adV q)) (ad (8 + q)) A s H ∧ va_T .byte (adV q) t.length (fun j => .int (nI (t.getD j 0))) A s H) ∧
  va_Z "java/lang/String" "COMPACT_STRINGS" "Z" (.int 1) A s H ∧ va_Zq "jdk/internal/util/Preconditions" "SIOOBE_FORMATTER" "Ljava/util/function/BiFunction;" A s H
def pCy (D : va_G) (cT : Nat → ClassId) (ad : Nat → Nat) (O : pOut) (A : Nat → Prop) (s : State) (H : Heap) : Prop := pCx D cT ad O A s H ∧ pEx A s H ∧ pTxt ad A s H
theorem pEx.go {A B : Nat → Prop} {s U : State} {H H1 : Heap} (hc : pEx A s H) (hW : s.WarmedH U.vm) (hq : ∀ q : Nat, q < H.size → ¬ A q → H1[q]? = H[q]?) (hAB : ∀ q, B q → A q) : pEx B U H1 :=
  ⟨((hc.1.moved hW.alike).kept hq).narrow hAB, ((hc.2.1.moved hW.alike).kept hq).narrow hAB, fun x y a b hx hy hne => (hc.2.2.1 x y a b hx hy hne).moved hW.alike, fun w hw => by
    have h1 := hc.2.2.2 w hw
    have h2 : isBad w = true := (List.mem_filter.mp hw).2
    unfold isBad at h2
    split at h2
    · exact va_Nw.warmC hW h1
    · exact va_Nw.warmD hW h1
    · cases h2⟩
theorem pTxt.go {ad : Nat → Nat} {A B : Nat → Prop} {s U : State} {H H1 : Heap} (hc : pTxt ad A s H) (hW : s.WarmedH U.vm) (hq : ∀ q : Nat, q < H.size → ¬ A q → H1[q]? = H[q]?) (hAB : ∀ q, B q → A q) : pTxt ad B U H1 := by
  obtain ⟨⟨adV, h1⟩, h2, h3⟩ := hc
  refine ⟨⟨adV, fun q t hq1 => ?_⟩, ((h2.moved hW.alike).kept hq).narrow hAB, ((h3.moved hW.alike).kept hq).narrow hAB⟩
  obtain ⟨g1, g2, g3, g4⟩ := h1 q t hq1
  exact ⟨((g1.moved hW.alike).kept hq).narrow hAB, ((g2.moved hW.alike).kept hq).narrow hAB, ((g3.moved hW.alike).kept hq).narrow hAB, ((g4.moved hW.alike).kept hq).narrow hAB⟩
theorem pTX_len : pTX.length = 42 := by decide +kernel
theorem pTxt.ext {ad ad' : Nat → Nat} {A : Nat → Prop} {s : State} {H : Heap} (h : ∀ k, k < 64 → ad' k = ad k) (hc : pTxt ad A s H) : pTxt ad' A s H := by
  obtain ⟨⟨adV, h1⟩, h2⟩ := hc
  refine ⟨⟨adV, fun q t hq => ?_⟩, h2⟩
  have hq7 : q < pTX.length := (List.getElem?_eq_some_iff.mp hq).1
  rw [pTX_len] at hq7
  rw [h (8 + q) (by omega)]
  exact h1 q t hq
theorem pCy.go {D : va_G} {cT : Nat → ClassId} {ad : Nat → Nat} {O : pOut} {A B : Nat → Prop} {s U : State} {H H1 : Heap} (hc : pCy D cT ad O A s H) (hW : s.WarmedH U.vm) (hsz : H.size ≤ H1.size) (hq : ∀ q : Nat, q < H.size → ¬ A q → H1[q]? = H[q]?) (hAB : ∀ q, B q → A q) : pCy D cT ad O B U H1 :=
  ⟨hc.1.go hW hsz hq hAB, hc.2.1.go hW hq hAB, hc.2.2.go hW hq hAB⟩
theorem pCy.ext {D : va_G} {cT : Nat → ClassId} {ad ad' : Nat → Nat} {O : pOut} {A : Nat → Prop} {s : State} {H : Heap} (h : ∀ k, k < 64 → ad' k = ad k) (hc : pCy D cT ad O A s H) : pCy D cT ad' O A s H := ⟨hc.1.ext h, hc.2.1, hc.2.2.ext h⟩
/-- behind a call that returned -/
theorem p_call {p : Program} {l : Launch} {e : Env} {R : Room} {s : State} {m : MethodId} {args : Array Value} {below : List Frame} {meth : Method} {c : Code} {H : Heap} {locs : List Loc} {cells slots mc ms pc : Nat} {Q : State → Prop} {ls : Array Slot} {st0 rest : List Value} {Qa : State → Outcome → State → Prop} {free : Addr → Prop}
    (hr : va_Run p l e R s m args below meth c H locs cells slots mc ms (F0 m pc ls st0) rest Qa free)
    (kk : ∀ (v : Option Value) (st₀ t : State) (H1 : Heap) (L : List Loc), st₀.heap = H → t.heap = H1 → s.WarmedH t.vm → Qa st₀ (.returned v) t → (∀ q ∈ L, free q.base) → W p l e R s m args below meth c H1 (locs ++ L) (cells + mc) (slots + ms) Q (F0 m (pc + 3) ls (v.toList ++ rest))) : W p l e R s m args below meth c H locs cells slots Q (F0 m pc ls st0) := by
  intro T hT X
  obtain ⟨v, st₀, t, T', L, h0, X', hL, e1, e2, hq, st⟩ := hr T hT X
  obtain ⟨t2, a1, b1⟩ := kk v st₀ t T'.heap L h0 e1.symm (by rw [← e2]; exact X'.warmed) hq hL T' rfl X'
  exact ⟨t2, st t2 a1, b1⟩
/-- behind a call that returned or threw -/
theorem p_callX {p : Program} {l : Launch} {e : Env} {R : Room} {s : State} {m : MethodId} {args : Array Value} {below : List Frame} {meth : Method} {c : Code} {H : Heap} {locs : List Loc} {cells slots mc ms pc : Nat} {Q : State → Prop} {ls : Array Slot} {st0 rest : List Value} {Qa : State → Outcome → State → Prop} {XC : String → State → State → Prop} {free : Addr → Prop}
    (hr : vx_Run p l e R s m args below meth c H locs cells slots mc ms (F0 m pc ls st0) rest Qa XC free)
    (kk : ∀ (v : Option Value) (st₀ t : State) (H1 : Heap) (L : List Loc), st₀.heap = H → t.heap = H1 → s.WarmedH t.vm → Qa st₀ (.returned v) t → (∀ q ∈ L, free q.base) → W p l e R s m args below meth c H1 (locs ++ L) (cells + mc) (slots + ms) Q (F0 m (pc + 3) ls (v.toList ++ rest)))
    (kx : ∀ (E : String) (ce : Cell) (q9 : Addr) (st₀ t : State) (H1 : Heap) (L : List Loc), st₀.heap = H → t.heap = H1 → s.WarmedH t.vm → XC E st₀ t → (∀ q ∈ L, free q.base) → H1[q9]? = some ce → ce.vm = .none → s.vm.findClass E = some ce.cls → vx_W p l e R s m args below meth c H1 (locs ++ L) (cells + mc) (slots + ms) Q (F0 m pc ls rest) q9) : W p l e R s m args below meth c H locs cells slots Q (F0 m pc ls st0) := by
  intro T hT X
  rcases hr T hT X with ⟨v, st₀, t, T', L, h0, X', hL, e1, e2, hq, st⟩ | ⟨q, st₀, t, T', L, E, ce, h0, X', hL, e1, e2, hq, hce, hcv, hcl, st⟩
  · obtain ⟨t2, a1, b1⟩ := kk v st₀ t T'.heap L h0 e1.symm (by rw [← e2]; exact X'.warmed) hq hL T' rfl X'
    exact ⟨t2, st t2 a1, b1⟩
  · obtain ⟨t2, a1, b1⟩ := kx E ce q st₀ t T'.heap L h0 e1.symm (by rw [← e2]; exact X'.warmed) hq hL (by rw [e1]; exact hce) hcv hcl T' rfl X'
    exact ⟨t2, st.trans a1, b1⟩
