/-! CONTRACTS BY HAND: what is handed in, what is owed -/
theorem evV {ρ : List Int} {x : Nat} {t : Int} (h : evF ρ (fV x) = some t) : ρ[x]? = some t := by
  obtain ⟨s, h1, h2⟩ := evF_iff.mp h
  obtain ⟨v, w, h3, h4, h5⟩ := evT_cons.mp h1
  rw [evT_nil] at h4
  simp only [fV] at h2
  rw [h3]
  congr 1
  omega
theorem arg_i {ρ : List Int} {e : aE} (hE : gE ρ e) {x : Nat} {v : Value} (h : gV ρ (0, fV x) v) : ∃ a : Int, v = .int (zI a) ∧ i32 a ∧ ρ[x]? = some a ∧ (e.getD x (0, 0)).1 ≤ a ∧ a ≤ (e.getD x (0, 0)).2 := by
  obtain ⟨y, rfl, hy⟩ := h
  have hx := evV hy
  exact ⟨y.toInt, by rw [zI_id], i32_rng y, hx, hE.2 x _ hx⟩
theorem arg_r {ρ : List Int} {k : Nat} {v : Value} (h : gV ρ (1, (.ofNat k, [])) v) : v = .ref k := by
  obtain ⟨y, rfl, hy⟩ := h
  have h1 := fC_val (f := (Int.ofNat k, [])) rfl hy
  have h2 : (y : Int) = (k : Int) := h1
  rw [Int.ofNat.inj h2]
theorem arg_l {ρ : List Int} {f : aF} {v : Value} (h : gV ρ (2, f) v) : ∃ a : Int64, v = .long a := by
  obtain ⟨y, rfl, -⟩ := h
  exact ⟨y, rfl⟩
section
variable {O : pOut} {G : aG} {I : PH → Prop} {c : aCon} {ρ : List Int} {es es' : PH} {a lo hi : Int} {kc ks mk ms : Nat} {o : aOut}
theorem post_int (hE : gE ρ c.2.2.1.1) (hT : hOK G.1 es') (hI : I es') (hf : fr c.2.2.2.2.2.1 es es') (ho : ((c.2.2.1.1 ++ [(lo, hi)], []), (1, (0, fV c.2.2.1.1.length)), [], mk, ms) ∈ c.2.2.2.2.2.2) (ha : i32 a) (hl : lo ≤ a) (hh : a ≤ hi) (hk : kc ≤ mk) (hs : ks ≤ ms) : cPost O G I c ρ es (.inl (some (.int (zI a))), es', kc, ks) := by
  obtain ⟨h1, h2⟩ := aNew_ok hE (l := lo) (r := hi) (v := a) ⟨hl, hh⟩
  exact ⟨hT, hI, hf, _, ho, [a], h1, (fun f h => by cases h), (fun t h => by cases h), hk, hs, _, rfl, zI a, rfl, by rw [zI_toInt ha]; exact h2⟩
theorem post_long {x : Int64} (hE : gE ρ c.2.2.1.1) (hT : hOK G.1 es') (hI : I es') (hf : fr c.2.2.2.2.2.1 es es') (ho : ((c.2.2.1.1 ++ [(lLO, lHI)], []), (1, (2, fV c.2.2.1.1.length)), [], mk, ms) ∈ c.2.2.2.2.2.2) (hk : kc ≤ mk) (hs : ks ≤ ms) : cPost O G I c ρ es (.inl (some (.long x)), es', kc, ks) := by
  obtain ⟨h1, h2⟩ := aNew_ok hE (l := lLO) (r := lHI) (v := x.toInt) (i64_rng x)
  exact ⟨hT, hI, hf, _, ho, [x.toInt], h1, (fun f h => by cases h), (fun t h => by cases h), hk, hs, _, rfl, x, rfl, h2⟩
theorem post_void {v : aV} (hE : gE ρ c.2.2.1.1) (hT : hOK G.1 es') (hI : I es') (hf : fr c.2.2.2.2.2.1 es es') (ho : ((c.2.2.1.1, []), (0, v), [], mk, ms) ∈ c.2.2.2.2.2.2) (hk : kc ≤ mk) (hs : ks ≤ ms) : cPost O G I c ρ es (.inl none, es', kc, ks) := by
  refine ⟨hT, hI, hf, _, ho, [], ?_, (fun f h => by cases h), (fun t h => by cases h), hk, hs, rfl⟩
  rw [List.append_nil]; exact hE
theorem post_thr {v : aV} {x : Nat} (hE : gE ρ c.2.2.1.1) (hT : hOK G.1 es') (hI : I es') (hf : fr c.2.2.2.2.2.1 es es') (ho : ((c.2.2.1.1, []), (x + 2, v), [], mk, ms) ∈ c.2.2.2.2.2.2) (hk : kc ≤ mk) (hs : ks ≤ ms) : cPost O G I c ρ es (.inr x, es', kc, ks) := by
  refine ⟨hT, hI, hf, _, ho, [], ?_, (fun f h => by cases h), (fun t h => by cases h), hk, hs, rfl⟩
  rw [List.append_nil]; exact hE
end
theorem gS2 {ρ : List Int} {a b : aV} {st : List Value} (h : gS ρ [a, b] st) : ∃ v w, st = [v, w] ∧ gV ρ a v ∧ gV ρ b w := by
  obtain ⟨v, s, rfl, h1, h2⟩ := gS_cons h
  obtain ⟨w, s', rfl, h3, h4⟩ := gS_cons h2
  cases gS_nil h4
  exact ⟨v, w, rfl, h1, h3⟩
theorem gS3 {ρ : List Int} {a b c : aV} {st : List Value} (h : gS ρ [a, b, c] st) : ∃ v w x, st = [v, w, x] ∧ gV ρ a v ∧ gV ρ b w ∧ gV ρ c x := by
  obtain ⟨v, s, rfl, h1, h2⟩ := gS_cons h
  obtain ⟨w, x, rfl, h3, h4⟩ := gS2 h2
  exact ⟨v, w, x, rfl, h1, h3, h4⟩
