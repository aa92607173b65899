/-! throws: the rows behind a 'new' of an exception, and the contract of a method that throws -/
def pThC (x x' is qs ic qi : Nat) : Bool := x == x' && (match pST[qs]?, pML[qi]? with
  | some t, some w => t.1 == RX11 && (t.2.1 == is && (w.1 == RX11 && (w.2.1 == ic && decide ((x, ic) ∈ [(0, 89), (1, 99), (2, 129), (3, 214)]))))
  | _, _ => false)
def pThN (e : pEnt) : Bool := match e.1 with
  | .new _ => e.2.2.2.2 == 1
  | _ => false
def pThK (e : pEnt) (r : List pEnt) : Bool := e.2.1 == 3 && (match r with
  | d :: t :: i :: a :: _ => decide (d.1 = .dup) && (d.2.1 == 1 && (decide (a.1 = .athrow) && (a.2.1 == 1 && (match i.1 with
    | .invokespecial ic => i.2.1 == 3 && (match t.1 with
      | .ldc is => t.2.1 == 2 && pThC e.2.2.2.1 i.2.2.2.1 is t.2.2.1 ic i.2.2.1
      | .ldc_w is => t.2.1 == 3 && (e.2.2.2.1 != 3 && pThC e.2.2.2.1 i.2.2.2.1 is t.2.2.1 ic i.2.2.1)
      | _ => false)
    | _ => false))))
  | _ => false)
def pThr : List pEnt → Bool
  | [] => true
  | e :: r => (!pThN e || pThK e r) && pThr r
theorem pM_thr : ∀ r ∈ pM, pThr r.2.2.2.2.2.2 = true ∧ (r.2.2.2.2.2.2.any pThN = true → r.1.cls = RX11) := by
  have h : pM.all (fun r => pThr r.2.2.2.2.2.2 && (!(r.2.2.2.2.2.2.any pThN) || r.1.cls == RX11)) = true := by decide +kernel
  intro r hr
  have h1 := List.all_eq_true.mp h r hr
  simp only [Bool.and_eq_true, Bool.or_eq_true, Bool.not_eq_true', beq_iff_eq] at h1
  refine ⟨h1.1, fun h2 => ?_⟩
  rcases h1.2 with h3 | h3
  · rw [h2] at h3; cases h3
  · exact h3
theorem pAt_drop : ∀ (l : List pEnt) (k : Nat) (e : pEnt), pAt l k = some e → ∃ r, (∀ j, pAt l (k + j) = pAt (e :: r) j) ∧ (pThr l = true → pThr (e :: r) = true) ∧ e ∈ l
  | [], _, _, h => by simp [pAt] at h
  | x :: r, k, e, h => by
    simp only [pAt] at h
    split at h
    · rename_i hk
      cases h
      subst hk
      exact ⟨r, fun j => by rw [Nat.zero_add], id, List.mem_cons_self⟩
    · split at h
      · cases h
      · rename_i hk hl
        obtain ⟨r', h1, h2, h3⟩ := pAt_drop r (k - x.2.1) e h
        refine ⟨r', fun j => ?_, fun ht => h2 ?_, List.mem_cons_of_mem _ h3⟩
        · rw [← h1 j]
          simp only [pAt]
          rw [if_neg (by omega), if_neg (by omega), show k + j - x.2.1 = k - x.2.1 + j by omega]
        · simp only [pThr, Bool.and_eq_true] at ht
          exact ht.2
theorem pThr_at {l : List pEnt} {pc ik len q x : Nat} (ht : pThr l = true) (h : pAt l pc = some (.new ik, len, q, x, 1)) : len = 3 ∧ ∃ (is ic : Nat) (u1 u2 u3 u4 : Nat × Nat × Nat), pThC x u3.2.1 is u2.1 ic u3.1 = true ∧ pAt l (pc + 3) = some (.dup, 1, u1) ∧
    ((pAt l (pc + 4) = some (.ldc is, 2, u2) ∧ pAt l (pc + 6) = some (.invokespecial ic, 3, u3) ∧ pAt l (pc + 9) = some (.athrow, 1, u4)) ∨ (¬ x = 3 ∧ pAt l (pc + 4) = some (.ldc_w is, 3, u2) ∧ pAt l (pc + 7) = some (.invokespecial ic, 3, u3) ∧ pAt l (pc + 10) = some (.athrow, 1, u4))) := by
  obtain ⟨r, h1, h2, -⟩ := pAt_drop l pc _ h
  have h3 := h2 ht
  simp only [pThr, pThN, Bool.and_eq_true, beq_self_eq_true, Bool.not_true, Bool.false_or] at h3
  obtain ⟨h4, -⟩ := h3
  simp only [pThK, Bool.and_eq_true, beq_iff_eq] at h4
  obtain ⟨h5, h6⟩ := h4
  subst h5
  refine ⟨rfl, ?_⟩
  split at h6
  · rename_i d t i a r4
    obtain ⟨di, dl, du⟩ := d
    obtain ⟨ti, tl, tu⟩ := t
    obtain ⟨ii, il, iu⟩ := i
    obtain ⟨ai, al, au⟩ := a
    simp only [Bool.and_eq_true, beq_iff_eq, decide_eq_true_eq] at h6
    obtain ⟨rfl, rfl, rfl, rfl, h7⟩ := h6
    split at h7
    · rename_i ic
      simp only [Bool.and_eq_true, beq_iff_eq] at h7
      obtain ⟨rfl, h8⟩ := h7
      split at h8
      · rename_i is
        simp only [Bool.and_eq_true, beq_iff_eq] at h8
        obtain ⟨rfl, h9⟩ := h8
        exact ⟨is, ic, du, tu, iu, au, h9, by rw [h1]; simp [pAt], Or.inl ⟨by rw [h1]; simp [pAt], by rw [h1]; simp [pAt], by rw [h1]; simp [pAt]⟩⟩
      · rename_i is
        simp only [Bool.and_eq_true, beq_iff_eq, bne_iff_ne, ne_eq] at h8
        obtain ⟨rfl, h8x, h9⟩ := h8
        exact ⟨is, ic, du, tu, iu, au, h9, by rw [h1]; simp [pAt], Or.inr ⟨h8x, by rw [h1]; simp [pAt], by rw [h1]; simp [pAt], by rw [h1]; simp [pAt]⟩⟩
      · cases h8
    · cases h7
  · cases h6
def pXsup : List String := ["java/lang/RuntimeException", "java/lang/Exception"]
theorem vAt : ∀ q ∈ [(0, 89), (1, 99), (2, 129)], ((vx_atS RX11 q.2 (pXN.getD q.1 "") pXsup).all (fun w => decide (w ∈ lw_tbl) && ((goodWord w || isBad w) && vx_ot w))) = true ∧ Bundle.fit (pXN.getD q.1 "") = true ∧ (decide (Cond.initialized (pXN.getD q.1 "") ∈ lw_tbl)) = true := by decide +kernel
theorem vSup : ∀ n ∈ pXsup, Bundle.fit n = true := by decide +kernel
set_option maxHeartbeats 4000000 in
/-- a body that throws, at its 'new' (the three classes whose constructors pass on by index 7) -/
theorem p_throw3 {p : Program} {l : Launch} {e : Env} {R : Room} {s : State} {m : MethodId} {args : Array Value} {below : List Frame} {meth : Method} {c : Code} {H : Heap} {locs : List Loc} {cells slots mc ms pc j ix len q x : Nat} {ls : Array Slot} {row : pMrow} {D : va_G} {cT : Nat → ClassId} {ad : Nat → Nat} {O : pOut} {A : Nat → Prop} {Qc : Array Value → State → Outcome → State → Prop} {XC : String → State → State → Prop} {free : Addr → Prop}
    (hx3 : ¬ x = 3) (hfl : l.stackTraces = false) (hj : pM[j]? = some row) (hat : pAt row.2.2.2.2.2.2 pc = some (.new ix, len, q, x, 1)) (hx : p.tables.exec = Jvm.exec) (hb : c.code = row.2.1) (hown : s.vm.findClass row.1.cls = some m.cls) (hts : ∀ w ∈ pW0, w.before args s = true) (hcy : pCy D cT ad O A s s.heap) (hS : va_S A s.heap H locs) (hsz : ls.size = c.maxLocals)
    (hex : ∀ z ∈ c.exceptionTable.toList, False) (hR : 12 ≤ R.frames ∧ 300 ≤ R.locals) (hcells : cells + 1 ≤ R.cells) (hslots : slots + 6 ≤ R.slots) (hlocks : meth.locks = false)
    (hXC : ∀ X, pXN[x]? = some X → ∀ t : State, s.vm.Alike t.vm → H.size ≤ t.heap.size → (∀ q : Nat, q < H.size → t.heap[q]? = H[q]?) → XC X s t) (hf : ∀ z ∈ locs, free z.base) (hc : cells + 1 ≤ mc) (hs : slots + 6 ≤ ms) :
    W p l e R s m args below meth c H locs cells slots (vx_MQ below Qc XC args s mc ms free) (F0 m pc ls []) := by
  obtain ⟨ht, hcls⟩ := pM_thr row (List.mem_of_getElem? hj)
  obtain ⟨rfl, is, ic, u1, u2, u3, u4, hC, a3, aR⟩ := pThr_at ht hat
  have hcl : row.1.cls = RX11 := by
    refine hcls ?_
    obtain ⟨r, -, -, hm⟩ := pAt_drop _ pc _ hat
    exact List.any_eq_true.mpr ⟨_, hm, rfl⟩
  rw [hcl] at hown
  have hok := pM_okAt hj hat
  simp only [pOKe] at hok
  split at hok
  · rename_i w X hw hX
    simp only [Bool.and_eq_true, beq_iff_eq] at hok
    obtain ⟨o1, o2, o3⟩ := hok
    have hcl2 := (pM_tab row (List.mem_of_getElem? hj)).2.1
    rw [hcl2, hcl] at o1
    unfold pThC at hC
    simp only [Bool.and_eq_true, beq_iff_eq] at hC
    obtain ⟨-, hC⟩ := hC
    split at hC
    · rename_i t wm hst hml
      simp only [Bool.and_eq_true, beq_iff_eq, decide_eq_true_eq] at hC
      obtain ⟨c1, c2, c3, c4, c5⟩ := hC
      have c6 : (x, ic) ∈ [(0, 89), (1, 99), (2, 129)] := by
        simp only [List.mem_cons, Prod.mk.injEq, List.not_mem_nil, or_false] at c5 ⊢
        rcases c5 with h | h | h | h
        · exact Or.inl h
        · exact Or.inr (Or.inl h)
        · exact Or.inr (Or.inr h)
        · exact absurd h.1 hx3
      obtain ⟨v1, v2, v3⟩ := vAt (x, ic) c6
      have hXd : pXN.getD x "" = X := by rw [List.getD_eq_getElem?_getD, hX]; rfl
      rw [hXd] at v1 v2 v3
      have hw1 := hts _ (wCK_in hw)
      rw [o1, o2, o3] at hw1
      have hi1 := hts _ (pW0_of (of_decide_eq_true v3) rfl)
      have hs1 := hcy.1.2.2.2.2.2 u2.1 t hst
      rw [c1, c2] at hs1
      have hat1 : ∀ w ∈ vx_atS RX11 ic X pXsup, w.before args s = true := fun w hw => by
        have h1 := List.all_eq_true.mp v1 w hw
        simp only [Bool.and_eq_true, Bool.or_eq_true, decide_eq_true_eq] at h1
        obtain ⟨h1, h2, h3⟩ := h1
        rcases h2 with h2 | h2
        · exact hts _ (pW0_of h1 h2)
        · have h4 := hcy.2.1.2.2.2 w (List.mem_filter.mpr ⟨h1, h2⟩)
          refine va_Nw.use ?_ h4
          unfold isBad at h2
          split at h2
          · rfl
          · rfl
          · cases h2
      have hgood : ∀ w ∈ Cond.classLink RX11 ix X :: Cond.initialized X :: vx_atS RX11 ic X pXsup, vx_ot w = true := fun w hw => by
        rcases List.mem_cons.mp hw with rfl | hw
        · rfl
        · rcases List.mem_cons.mp hw with rfl | hw
          · rfl
          · have h1 := List.all_eq_true.mp v1 w hw
            simp only [Bool.and_eq_true] at h1
            exact h1.2.2
      have d0 := (pM_at hj hat).1
      have d3 := (pM_at hj a3).1
      rcases aR with ⟨a4, a6, a9⟩ | ⟨-, a4, a7, a10⟩
      · exact vx_throwS hx hb hfl hown v2 vSup hw1 hi1 hs1 hat1 hgood hcy.2.1.1 hcy.2.1.2.1 hS hsz d0 d3 (pM_at hj a4).1 (pM_at hj a6).1 (pM_at hj a9).1 (fun z hz => (hex z hz).elim) (by show 2 + 3 < R.frames; omega) (by show 0 + (13 * (2 + 1) + 43) ≤ R.locals; omega) hcells hslots hlocks (hXC X hX) hf hc hs
      · exact vx_throwSW hx hb hfl hown v2 vSup hw1 hi1 hs1 hat1 hgood hcy.2.1.1 hcy.2.1.2.1 hS hsz d0 d3 (pM_at hj a4).1 (pM_at hj a7).1 (pM_at hj a10).1 (fun z hz => (hex z hz).elim) (by show 2 + 3 < R.frames; omega) (by show 0 + (13 * (2 + 1) + 43) ≤ R.locals; omega) hcells hslots hlocks (hXC X hX) hf hc hs
    · cases hC
  · cases hok
