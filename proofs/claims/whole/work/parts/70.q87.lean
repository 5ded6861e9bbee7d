/-! the bits of a mean -/
theorem bm_15 (K : Mem → UInt32 → Int32 → Option (Mem × Int32)) {σ : Mem} {t : Nat} (ht : t < 8388608) : ∀ (j s fu : Nat), s + j ≤ 3 → j < fu → X6_bitsOfMean_15 K fu σ (UInt32.ofNat (n32 (127 + j) t)) (nI (127 + s)) (nI s) = K σ (UInt32.ofNat (n32 127 t)) (nI (127 + s + j))
  | j, s, 0, _, h => absurd h (by omega)
  | 0, s, fu + 1, h1, _ => by
    rw [X6_bitsOfMean_15]
    by_cases c : (3 : Int32) ≤ nI s
    · rw [if_pos c]; rfl
    · rw [if_neg c, if_pos ((f_lt2 (by omega) (by omega) ht).mpr rfl)]; rfl
  | j + 1, s, fu + 1, h1, h2 => by
    rw [X6_bitsOfMean_15, if_neg (show ¬ (3 : Int32) ≤ nI s from nI_ge (b := 3) (by omega) (by omega)), if_neg (fun x => by have := (f_lt2 (by omega) (by omega) ht).mp x; omega), f_half (by omega) (by omega) ht, if_pos (nn32 (by omega) ht), nI_1, nI_1, show 127 + (j + 1) - 1 = 127 + j by omega]
    have ih := bm_15 K (σ := σ) ht j (s + 1) fu (by omega) (by omega)
    rw [show 127 + s + 1 = 127 + (s + 1) by omega, ih]
    congr 2
    omega
theorem shf23 : ∀ j, j < 4 → nI (127 + j) <<< ((23 : Int32) &&& 31) = nI ((127 + j) * 8388608) := by decide +kernel
theorem x6_bitsOfMean {σ : Mem} {E t : Nat} (h1 : 127 ≤ E) (h2 : E ≤ 130) (ht : t < 8388608) : X6_bitsOfMean σ (UInt32.ofNat (n32 E t)) = some (σ, nI (n32 E t)) := by
  obtain ⟨j, rfl⟩ : ∃ j, E = 127 + j := ⟨E - 127, by omega⟩
  obtain ⟨u, g1, g2, g3, g4⟩ := f_frac ht
  unfold X6_bitsOfMean
  rw [if_pos (f_gt0 h1 h2 ht)]
  have := bm_15 (fun (σ : Mem) (v1 : UInt32) (v2 : Int32) => (if ((FP.fsub v1 FP.fconst1) &&& 0x7fffffff ≤ 0x7f800000) then (if ((FP.fmul (FP.fsub v1 FP.fconst1) (1258291200 : UInt32)) &&& 0x7fffffff ≤ 0x7f800000) then some (σ, ((v2 <<< ((23 : Int32) &&& 31)) + (FP.f2i (FP.fmul (FP.fsub v1 FP.fconst1) (1258291200 : UInt32))))) else none) else none)) (σ := σ) ht j 0 FU (by omega) (by unfold FU; omega)
  refine this.trans ?_
  rw [g1, if_pos g2, if_pos g3, g4, Nat.add_zero, shf23 j (by omega), nI_add]
  rfl
theorem x6_bitsOfMean0 (σ : Mem) : X6_bitsOfMean σ FP.fconst0 = some (σ, 0) := by
  unfold X6_bitsOfMean
  rw [if_neg (by decide +kernel)]
theorem b_15 (K : Mem → Int64 → UInt64 → Int64 → Option (Mem × Int64)) {σ : Mem} {t : Nat} (ht : t < 4503599627370496) : ∀ (j s fu : Nat), s + j ≤ 3 → j < fu → X7_bits_15 K fu σ (lN 8388608) (UInt64.ofNat (n64 (1023 + j) t)) (lN (127 + s)) = K σ (lN 8388608) (UInt64.ofNat (n64 1023 t)) (lN (127 + s + j))
  | j, s, 0, _, h => absurd h (by omega)
  | 0, s, fu + 1, h1, _ => by
    rw [X7_bits_15, if_pos ((d_lt2 (by omega) (by omega) ht).mpr rfl)]; rfl
  | j + 1, s, fu + 1, h1, h2 => by
    rw [X7_bits_15, if_neg (fun x => by have := (d_lt2 (by omega) (by omega) ht).mp x; omega), d_half (by omega) (by omega) ht, if_pos (nn64 (by omega) ht), lN_1, show 1023 + (j + 1) - 1 = 1023 + j by omega]
    have ih := b_15 K (σ := σ) ht j (s + 1) fu (by omega) (by omega)
    rw [show 127 + s + 1 = 127 + (s + 1) by omega, ih]
    congr 2
    omega
theorem x7_bits_mean {σ : Mem} {E t : Nat} (h1 : 127 ≤ E) (h2 : E ≤ 130) (ht : t < 8388608) : X7_bits σ (FP.f2d (UInt32.ofNat (n32 E t))) (8388608 : Int64) (127 : Int64) = some (σ, lN (n32 E t)) := by
  obtain ⟨j, rfl⟩ : ∃ j, E = 127 + j := ⟨E - 127, by omega⟩
  obtain ⟨u, g1, g2, g3, g4⟩ := d_frac ht
  unfold X7_bits
  rw [f2d_n (by omega) (by omega) ht, show 127 + j + 896 = 1023 + j by omega, if_neg (d_ne0 (by omega) (by omega) (by omega))]
  refine (b_15 _ (σ := σ) (t := t * 536870912) (by omega) j 0 FU (by omega) (by unfold FU; omega)).trans ?_
  rw [show FU = 999 + 1 from rfl, X7_bits_41, if_pos (d_ge1 (by omega)), show lN 8388608 = (8388608 : Int64) from rfl, g1, if_pos g2, if_pos g3, g4, show (8388608 : Int64) = lN 8388608 from rfl, lN_mul, lN_add]
  rfl
theorem x7_bits_0 (σ : Mem) : X7_bits σ (FP.f2d FP.fconst0) (8388608 : Int64) (127 : Int64) = some (σ, 0) := by
  unfold X7_bits
  rw [if_pos (by decide +kernel)]
theorem f2d_nn {E t : Nat} (h1 : 127 ≤ E) (h2 : E ≤ 130) (ht : t < 8388608) : (FP.f2d (UInt32.ofNat (n32 E t))) &&& 0x7fffffffffffffff ≤ 0x7ff0000000000000 := by
  rw [f2d_n (by omega) (by omega) ht]
  exact nn64 (by omega) (by omega)
theorem f2d_nn0 : (FP.f2d FP.fconst0) &&& 0x7fffffffffffffff ≤ 0x7ff0000000000000 := by decide +kernel
/-! the bits of a share: all shares there are -/
def shV (n r : Nat) : UInt64 := FP.ddiv (FP.i2d (nI (n - r))) (FP.i2d (nI n))
def bs18 (K : UInt64 → Int64 → Option Int64) : Nat → UInt64 → Int64 → Nat → Option Int64
  | 0, _, _, _ => none
  | fu + 1, v2, v4, v6 => (if 6 ≤ v6 then K v2 v4 else (if 0 ≤ (Op.cmpValue (FP.dcmp v2 FP.dconst1) CmpOp.g) then K v2 v4 else (if ((FP.dmul v2 (4611686018427387904 : UInt64)) &&& 0x7fffffffffffffff ≤ 0x7ff0000000000000) then bs18 K fu (FP.dmul v2 (4611686018427387904 : UInt64)) (v4 - (1 : Int64)) (v6 + 1) else none)))
theorem bs18_e (K0 : UInt64 → Int64 → Option Int64) (K : Mem → UInt64 → Int64 → Option (Mem × Int64)) (σ : Mem) (hK : ∀ a b, K σ a b = (K0 a b).map (fun x => (σ, x))) : ∀ (fu : Nat) (v2 : UInt64) (v4 : Int64) (v6 : Nat), v6 ≤ 6 → X6_bitsOfShare_18 K fu σ v2 v4 (nI v6) = (bs18 K0 fu v2 v4 v6).map (fun x => (σ, x))
  | 0, _, _, _, _ => rfl
  | fu + 1, v2, v4, v6, h => by
    rw [X6_bitsOfShare_18, bs18]
    by_cases c : 6 ≤ v6
    · rw [if_pos c, if_pos (show (6 : Int32) ≤ nI v6 from nI_le (a := 6) c (by omega)), hK]
    · rw [if_neg c, if_neg (show ¬ (6 : Int32) ≤ nI v6 from nI_ge (b := 6) (by omega) (by omega))]
      split
      · exact hK _ _
      · split
        · rw [nI_1]; exact bs18_e K0 K σ hK fu _ _ _ (by omega)
        · rfl
def bsK (v2 : UInt64) (v4 : Int64) : Option Int64 := (if ((FP.dsub v2 FP.dconst1) &&& 0x7fffffffffffffff ≤ 0x7ff0000000000000) then (if ((FP.dmul (FP.dsub v2 FP.dconst1) (4841369599423283200 : UInt64)) &&& 0x7fffffffffffffff ≤ 0x7ff0000000000000) then some ((v4 <<< ((52 : Int32).toInt64 &&& 63)) + (FP.d2l (FP.dmul (FP.dsub v2 FP.dconst1) (4841369599423283200 : UInt64)))) else none) else none)
def bsh (v : UInt64) : Option Int64 := if 0 < (Op.cmpValue (FP.dcmp v FP.dconst0) CmpOp.g) then bs18 bsK 8 v 1023 0 else some 0
theorem bs18_mono (K0 : UInt64 → Int64 → Option Int64) : ∀ (fu v6 : Nat) (v2 : UInt64) (v4 : Int64), 7 - v6 ≤ fu → v6 ≤ 6 → bs18 K0 (fu + 1) v2 v4 v6 = bs18 K0 fu v2 v4 v6
  | 0, v6, _, _, h, h2 => absurd h (by omega)
  | fu + 1, v6, v2, v4, h, h2 => by
    conv => lhs; rw [bs18]
    conv => rhs; rw [bs18]
    split
    · rfl
    · split
      · rfl
      · split
        · exact bs18_mono K0 fu (v6 + 1) _ _ (by omega) (by omega)
        · rfl
theorem bs18_big (K0 : UInt64 → Int64 → Option Int64) (v2 : UInt64) (v4 : Int64) : ∀ d, bs18 K0 (8 + d) v2 v4 0 = bs18 K0 8 v2 v4 0
  | 0 => rfl
  | d + 1 => by rw [← bs18_big K0 v2 v4 d, ← Nat.add_assoc]; exact bs18_mono K0 (8 + d) 0 v2 v4 (by omega) (by omega)
theorem x6_bitsOfShare (σ : Mem) (v : UInt64) : X6_bitsOfShare σ v = (bsh v).map (fun x => (σ, x)) := by
  unfold X6_bitsOfShare bsh
  split
  · have := bs18_e bsK (fun (σ : Mem) (v2 : UInt64) (v4 : Int64) => (if ((FP.dsub v2 FP.dconst1) &&& 0x7fffffffffffffff ≤ 0x7ff0000000000000) then (if ((FP.dmul (FP.dsub v2 FP.dconst1) (4841369599423283200 : UInt64)) &&& 0x7fffffffffffffff ≤ 0x7ff0000000000000) then some (σ, ((v4 <<< ((52 : Int32).toInt64 &&& 63)) + (FP.d2l (FP.dmul (FP.dsub v2 FP.dconst1) (4841369599423283200 : UInt64))))) else none) else none)) σ (fun a b => by
      unfold bsK
      split
      · split
        · rfl
        · rfl
      · rfl) FU v 1023 0 (by omega)
    rw [show FU = 8 + 992 from rfl, bs18_big] at this
    exact this
  · rfl
def b7a (K : UInt64 → Int64 → Option Int64) : Nat → UInt64 → Int64 → Option Int64
  | 0, _, _ => none
  | fu + 1, v6, v8 => (if (Op.cmpValue (FP.dcmp v6 (4611686018427387904 : UInt64)) CmpOp.l) < 0 then K v6 v8 else (if ((FP.ddiv v6 (4611686018427387904 : UInt64)) &&& 0x7fffffffffffffff ≤ 0x7ff0000000000000) then b7a K fu (FP.ddiv v6 (4611686018427387904 : UInt64)) (v8 + (1 : Int64)) else none))
def b7b (K : UInt64 → Int64 → Option Int64) : Nat → UInt64 → Int64 → Option Int64
  | 0, _, _ => none
  | fu + 1, v6, v8 => (if 0 ≤ (Op.cmpValue (FP.dcmp v6 FP.dconst1) CmpOp.g) then K v6 v8 else (if ((FP.dmul v6 (4611686018427387904 : UInt64)) &&& 0x7fffffffffffffff ≤ 0x7ff0000000000000) then b7b K fu (FP.dmul v6 (4611686018427387904 : UInt64)) (v8 - (1 : Int64)) else none))
theorem b7a_e (K0 : UInt64 → Int64 → Option Int64) (K : Mem → Int64 → UInt64 → Int64 → Option (Mem × Int64)) (σ : Mem) (v2 : Int64) (hK : ∀ a b, (K0 a b).isSome → K σ v2 a b = (K0 a b).map (fun x => (σ, x))) : ∀ (fu d : Nat) (v6 : UInt64) (v8 : Int64), (b7a K0 fu v6 v8).isSome → X7_bits_15 K (fu + d) σ v2 v6 v8 = (b7a K0 fu v6 v8).map (fun x => (σ, x))
  | 0, _, _, _, h => by cases h
  | fu + 1, d, v6, v8, h => by
    rw [show fu + 1 + d = (fu + d) + 1 by omega, X7_bits_15]
    rw [b7a] at h ⊢
    by_cases c1 : (Op.cmpValue (FP.dcmp v6 (4611686018427387904 : UInt64)) CmpOp.l) < 0
    · rw [if_pos c1] at h ⊢; rw [if_pos c1]; exact hK _ _ h
    · rw [if_neg c1] at h ⊢; rw [if_neg c1]
      by_cases c2 : ((FP.ddiv v6 (4611686018427387904 : UInt64)) &&& 0x7fffffffffffffff ≤ 0x7ff0000000000000)
      · rw [if_pos c2] at h ⊢; rw [if_pos c2]; exact b7a_e K0 K σ v2 hK fu d _ _ h
      · rw [if_neg c2] at h; cases h
theorem b7b_e (K0 : UInt64 → Int64 → Option Int64) (K : Mem → Int64 → UInt64 → Int64 → Option (Mem × Int64)) (σ : Mem) (v2 : Int64) (hK : ∀ a b, (K0 a b).isSome → K σ v2 a b = (K0 a b).map (fun x => (σ, x))) : ∀ (fu d : Nat) (v6 : UInt64) (v8 : Int64), (b7b K0 fu v6 v8).isSome → X7_bits_41 K (fu + d) σ v2 v6 v8 = (b7b K0 fu v6 v8).map (fun x => (σ, x))
  | 0, _, _, _, h => by cases h
  | fu + 1, d, v6, v8, h => by
    rw [show fu + 1 + d = (fu + d) + 1 by omega, X7_bits_41]
    rw [b7b] at h ⊢
    by_cases c1 : 0 ≤ (Op.cmpValue (FP.dcmp v6 FP.dconst1) CmpOp.g)
    · rw [if_pos c1] at h ⊢; rw [if_pos c1]; exact hK _ _ h
    · rw [if_neg c1] at h ⊢; rw [if_neg c1]
      by_cases c2 : ((FP.dmul v6 (4611686018427387904 : UInt64)) &&& 0x7fffffffffffffff ≤ 0x7ff0000000000000)
      · rw [if_pos c2] at h ⊢; rw [if_pos c2]; exact b7b_e K0 K σ v2 hK fu d _ _ h
      · rw [if_neg c2] at h; cases h
def b7K (v6 : UInt64) (v8 : Int64) : Option Int64 := (if ((FP.dsub v6 FP.dconst1) &&& 0x7fffffffffffffff ≤ 0x7ff0000000000000) then (if ((FP.dmul (FP.dsub v6 FP.dconst1) (FP.l2d 4503599627370496)) &&& 0x7fffffffffffffff ≤ 0x7ff0000000000000) then some ((v8 * 4503599627370496) + (FP.d2l (FP.dmul (FP.dsub v6 FP.dconst1) (FP.l2d 4503599627370496)))) else none) else none)
def b7 (v : UInt64) : Option Int64 := if (Op.cmpValue (FP.dcmp v FP.dconst0) CmpOp.l) = 0 then some 0 else b7a (b7b b7K 8) 8 v 1023
theorem x7_bitsS (σ : Mem) (v : UInt64) (h : (b7 v).isSome) : X7_bits σ v (4503599627370496 : Int64) (1023 : Int64) = (b7 v).map (fun x => (σ, x)) := by
  unfold X7_bits
  unfold b7 at h ⊢
  by_cases c : (Op.cmpValue (FP.dcmp v FP.dconst0) CmpOp.l) = 0
  · rw [if_pos c, if_pos c]; rfl
  · rw [if_neg c] at h ⊢
    rw [if_neg c, show FU = 8 + 992 from rfl]
    refine b7a_e (b7b b7K 8) _ σ 4503599627370496 (fun a b hab => ?_) 8 992 v 1023 h
    refine b7b_e b7K _ σ 4503599627370496 (fun a b hab2 => ?_) 8 992 a b hab
    unfold b7K
    split
    · split
      · rfl
      · rfl
    · rfl
def shC (v : UInt64) : Bool := match b7 v, bsh v with
  | some a, some b => decide (a = b) && decide (v &&& 0x7fffffffffffffff ≤ 0x7ff0000000000000)
  | _, _ => false
theorem shC_t {v : UInt64} (h : shC v = true) : (v &&& 0x7fffffffffffffff ≤ 0x7ff0000000000000) ∧ ∃ x, b7 v = some x ∧ bsh v = some x := by
  unfold shC at h
  cases h1 : b7 v with
  | none => rw [h1] at h; cases h
  | some a =>
    cases h2 : bsh v with
    | none => rw [h1, h2] at h; cases h
    | some b =>
      rw [h1, h2] at h
      have h : (decide (a = b) && decide (v &&& 0x7fffffffffffffff ≤ 0x7ff0000000000000)) = true := h
      rw [Bool.and_eq_true] at h
      have e := of_decide_eq_true h.1
      subst e
      exact ⟨of_decide_eq_true h.2, a, rfl, rfl⟩
theorem sh_all : ∀ n, n < 61 → ∀ r, r < 61 → 0 < n → r ≤ n → shC (shV n r) = true := by decide +kernel
theorem sh_1 : shC FP.dconst1 = true := by decide +kernel
