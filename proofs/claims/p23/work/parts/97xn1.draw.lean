/-! printed by wip/rel/notes.py -/
theorem i_275_0 : iRow 275 0 = some (.aload_n 0, 0, 0, 0, (some (Jvm.ClassFile.FieldType.int))) := rfl
theorem i_275_1 : iRow 275 1 = some (.ldc_w 458, 2, 0, 0, (some (Jvm.ClassFile.FieldType.int))) := rfl
theorem i_275_4 : iRow 275 4 = some (.aload_n 0, 0, 0, 0, (some (Jvm.ClassFile.FieldType.int))) := rfl
theorem i_275_5 : iRow 275 5 = some (.getfield 459, 214, 12, 51, (some (Jvm.ClassFile.FieldType.int))) := rfl
theorem i_275_8 : iRow 275 8 = some (.imul, 0, 0, 0, (some (Jvm.ClassFile.FieldType.int))) := rfl
theorem i_275_9 : iRow 275 9 = some (.sipush 12345, 0, 0, 0, (some (Jvm.ClassFile.FieldType.int))) := rfl
theorem i_275_12 : iRow 275 12 = some (.iadd, 0, 0, 0, (some (Jvm.ClassFile.FieldType.int))) := rfl
theorem i_275_13 : iRow 275 13 = some (.putfield 459, 214, 12, 51, (some (Jvm.ClassFile.FieldType.int))) := rfl
theorem i_275_16 : iRow 275 16 = some (.aload_n 0, 0, 0, 0, (some (Jvm.ClassFile.FieldType.int))) := rfl
theorem i_275_17 : iRow 275 17 = some (.getfield 459, 214, 12, 51, (some (Jvm.ClassFile.FieldType.int))) := rfl
theorem i_275_20 : iRow 275 20 = some (.bipush 16, 0, 0, 0, (some (Jvm.ClassFile.FieldType.int))) := rfl
theorem i_275_22 : iRow 275 22 = some (.ishr, 0, 0, 0, (some (Jvm.ClassFile.FieldType.int))) := rfl
theorem i_275_23 : iRow 275 23 = some (.sipush 32767, 0, 0, 0, (some (Jvm.ClassFile.FieldType.int))) := rfl
theorem i_275_26 : iRow 275 26 = some (.iand, 0, 0, 0, (some (Jvm.ClassFile.FieldType.int))) := rfl
theorem i_275_27 : iRow 275 27 = some (.ireturn, 0, 0, 0, (some (Jvm.ClassFile.FieldType.int))) := rfl
/-! WRITE's loop, of the reference -/
section
variable {O : pOut} {d kc ks : Nat} {Q : pRes → Prop} {es : PH} {P : Nat → Bool}
theorem drawR (hT : hOK tT es) (K : ∀ es', es' = sI es 79 51 (.int (zDs (gI es 79 51))) → Q (.inl (some (.int (zI (zDv (gI es 79 51))))), es', kc, ks)) : aW O d 275 kc ks Q (0, [some (.ref 143)], [], es) := by
  have hs := sh_of hT
  obtain ⟨v, hv⟩ : ∃ v : Int, v = (gI es 79 51).toInt := ⟨_, rfl⟩
  have hz : zI v = gI es 79 51 := by rw [hv]; exact zI_id _
  have hd : zI (1103515245 * v + 12345) = zDs (gI es 79 51) := by rw [zDs_i, hz]
  have e2 : (gI (sI es 79 51 (.int (zI (1103515245 * v + 12345)))) 79 51) = zDs (gI es 79 51) := by rw [gI_sI hs (p := 79) (b := 51) rfl (by decide), hd]
  refine x0 (r := (1, [some (.ref 143)], [.ref 143], es)) i_275_0 rfl ?_
  refine x1 (r := (4, [some (.ref 143)], [.int (zI 1103515245), .ref 143], es)) i_275_1 rfl (fun _ => rfl) rfl ?_
  refine x0 (r := (5, [some (.ref 143)], [.ref 143, .int (zI 1103515245), .ref 143], es)) i_275_4 rfl ?_
  refine x_geti (p := 79) i_275_5 hs rfl rfl ?_
  rw [← hv]
  refine x_imul i_275_8 ?_
  refine x0 (r := (12, [some (.ref 143)], [.int (zI 12345), .int (zI (1103515245 * v)), .ref 143], es)) i_275_9 (by rfl) ?_
  refine x_iadd i_275_12 ?_
  refine x_puti (p := 79) (ty := .int) i_275_13 hs rfl rfl rfl (Or.inl rfl) ?_
  obtain ⟨es1, he1⟩ : ∃ z : PH, z = sI es 79 51 (.int (zI (1103515245 * v + 12345))) := ⟨_, rfl⟩
  have hs1 : sh es1 := by rw [he1]; exact sh_sI hs (p := 79) (b := 51) rfl rfl
  rw [← he1] at e2 ⊢
  refine x0 (r := (17, [some (.ref 143)], [.ref 143], es1)) i_275_16 rfl ?_
  refine x_geti (p := 79) i_275_17 hs1 rfl rfl ?_
  rw [e2]
  refine x0 (r := (22, [some (.ref 143)], [.int (zI 16), .int (zI (zDs (gI es 79 51)).toInt)], es1)) i_275_20 (by rfl) ?_
  refine x_op i_275_22 (w := (zI (zDs (gI es 79 51)).toInt >>> (zI 16 &&& 31))) rfl rfl ?_
  refine x0 (r := (26, [some (.ref 143)], [.int (zI 32767), .int (zI (zI (zDs (gI es 79 51)).toInt >>> (zI 16 &&& 31)).toInt)], es1)) i_275_23 (by rfl) ?_
  refine x_op i_275_26 (w := (zI (zI (zDs (gI es 79 51)).toInt >>> (zI 16 &&& 31)).toInt &&& zI 32767)) rfl rfl ?_
  rw [zI_id (zDs (gI es 79 51)), zI_id (zDs (gI es 79 51) >>> (zI 16 &&& 31))]
  refine x_ret (v := some (.int (zI (zDv (gI es 79 51))))) i_275_27 rfl (fun _ => rfl) rfl rfl rfl ?_
  exact K es1 (by rw [he1, hd])
theorem mnD_loop {D : Nat} (hD : D ≤ 30) (hs : sh es) (hc : ∀ c, c < 1296 → (gA es 88 (1296 * D + c)).toInt = if P c = true then 1 else 0) (K : Q (.inl (some (.int (zI (zCnt P 1296 0)))), es, kc, ks)) : ∀ (m c : Nat), c + m = 1296 → aW O d 227 kc ks Q (4, [some (.ref 143), some (.int (zI (D : Int))), some (.int (zI (zCnt P c 0))), some (.int (zI (c : Int)))], [], es) := by
  intro m
  induction m with
  | zero =>
    intro c hcm
    have hn := zCnt_nn (P := P) c 0
    rw [Nat.add_zero] at hcm
    subst hcm
    exact s_many4 (dp := (D : Int)) (n := zCnt P 1296 0) (c := ((1296 : Nat) : Int)) hs ⟨by omega, by omega⟩ ⟨by omega, by omega⟩ ⟨by omega, by omega⟩ (fun _ => K) (fun h => absurd (by omega) h) (fun h => absurd (by omega) h)
  | succ m ih =>
    intro c hcm
    have hn := zCnt_nn (P := P) c 0
    have hv := hc c (by omega)
    have e1 : ((c + 1 : Nat) : Int) = (c : Int) + 1 := by omega
    have h9 := ih (c + 1) (by omega)
    rw [e1, zCnt_r, Nat.zero_add] at h9
    refine s_many4 (dp := (D : Int)) (n := zCnt P c 0) (c := (c : Int)) hs ⟨by omega, by omega⟩ ⟨by omega, by omega⟩ ⟨by omega, by omega⟩ (fun h => absurd h (by omega)) (fun _ v2 e2 h2 => ?_) (fun _ v2 e2 h2 => ?_)
    · rw [show ((1296 * (D : Int)) + (c : Int)).toNat = 1296 * D + c by omega, hv] at e2
      by_cases hp : P c = true
      · rw [if_pos hp] at e2; omega
      · rw [if_neg hp] at h9
        exact h9
    · rw [show ((1296 * (D : Int)) + (c : Int)).toNat = 1296 * D + c by omega, hv] at e2
      by_cases hp : P c = true
      · rw [if_pos hp] at h9
        exact h9
      · rw [if_neg hp] at e2; omega
theorem mvD_loop {D : Nat} {i X : Int} (hD : D ≤ 30) (hs : sh es) (hc : ∀ c, c < 1296 → (gA es 88 (1296 * D + c)).toInt = if P c = true then 1 else 0) (K : Q (.inl (some (.int (zI X))), es, kc, ks)) : ∀ (m c : Nat) (le : Int), c + m = 1296 → 0 ≤ le → le ≤ 2147483647 → zNth P m c le = X → aW O d 228 kc ks Q (5, [some (.ref 143), some (.int (zI (D : Int))), some (.int (zI i)), some (.int (zI le)), some (.int (zI (c : Int)))], [], es) := by
  intro m
  induction m with
  | zero =>
    intro c le hcm h0 h1 hx
    have hx' : (-1 : Int) = X := hx
    refine s_mva5 (dp := (D : Int)) (le := le) (c := (c : Int)) hs ⟨by omega, by omega⟩ ⟨by omega, by omega⟩ ⟨h0, h1⟩ (fun _ => by rw [hx']; exact K) (fun h => absurd (by omega) h) (fun h => absurd (by omega) h) (fun h => absurd (by omega) h)
  | succ m ih =>
    intro c le hcm h0 h1 hx
    have hv := hc c (by omega)
    have e1 : ((c + 1 : Nat) : Int) = (c : Int) + 1 := by omega
    have hx' : (if P c = true then (if le = 0 then (c : Int) else zNth P m (c + 1) (le - 1)) else zNth P m (c + 1) le) = X := hx
    refine s_mva5 (dp := (D : Int)) (le := le) (c := (c : Int)) hs ⟨by omega, by omega⟩ ⟨by omega, by omega⟩ ⟨h0, h1⟩ (fun h => absurd h (by omega)) (fun _ v2 e2 h2 h3 => ?_) (fun _ v2 e2 h2 h3 => ?_) (fun _ v2 e2 h2 => ?_)
    · rw [show ((1296 * (D : Int)) + (c : Int)).toNat = 1296 * D + c by omega, hv] at e2
      by_cases hp : P c = true
      · rw [if_pos hp, if_neg h3] at hx'
        have h9 := ih (c + 1) (le - 1) (by omega) (by omega) (by omega) hx'
        rw [e1] at h9
        exact h9
      · rw [if_neg hp] at e2; exact absurd e2 h2
    · rw [show ((1296 * (D : Int)) + (c : Int)).toNat = 1296 * D + c by omega, hv] at e2
      by_cases hp : P c = true
      · rw [if_pos hp, if_pos (by omega)] at hx'
        rw [hx']
        exact K
      · rw [if_neg hp] at e2; exact absurd e2 h2
    · rw [show ((1296 * (D : Int)) + (c : Int)).toNat = 1296 * D + c by omega, hv] at e2
      by_cases hp : P c = true
      · rw [if_pos hp] at e2; omega
      · rw [if_neg hp] at hx'
        have h9 := ih (c + 1) le (by omega) (by omega) (by omega) hx'
        rw [e1] at h9
        exact h9
end
