/-! TEXTS: a text is read character by character -/
def keyF (c : Nat) : Option Nat := if c = 115 then some 0 else if c = 116 then some 1 else if c = 107 then some 2 else if c = 112 then some 3 else if c = 97 then some 4 else if c = 111 then some 5 else if c = 101 then some 6 else if c = 114 then some 7 else if c = 108 then some 8 else if c = 100 then some 9 else none
theorem keyF_lt {c k : Nat} (h : keyF c = some k) : k < 10 := by
  unfold keyF at h
  repeat (first | (split at h; · cases h; omega) | cases h)
def stp (s c : Nat) : Option Nat := if c = 47 then (if s = 0 then none else some 0) else if c = 42 then (if s = 0 then some 11 else none) else match keyF c with
  | none => none
  | some k => if s ≤ k then some (k + 1) else none
theorem stp_le {s c s' : Nat} (h : stp s c = some s') : s' ≤ 11 := by
  unfold stp at h
  split at h
  · split at h <;> cases h; omega
  · split at h
    · split at h <;> cases h; omega
    · cases hk : keyF c with
      | none => rw [hk] at h; cases h
      | some k =>
        have := keyF_lt hk
        rw [hk] at h
        have h : (if s ≤ k then some (k + 1) else none) = some s' := h
        split at h <;> cases h; omega
/-- where a text stands, as the class tells it -/
def sI (s : Nat) : Int32 := if s = 0 then -1 else nI (s - 1)
def oS : Option Nat → Int32
  | none => -2
  | some s => sI s
def idx (x : Int32) : Nat → Nat → Int32
  | 0, _ => -1
  | r + 1, v => if ltr v = x then nI v else idx x r (v + 1)
theorem j1_loop {x : Int32} (K : Mem → Option (Mem × Int32)) (hK : ∀ σ, K σ = some (σ, -1)) {σ : Mem} : ∀ (r v fu : Nat), v + r = 10 → r < fu → J1_indexOfChar_4cfef_7 K fu σ (nI 10) x (nI v) = some (σ, idx x r v)
  | r, v, 0, _, h => absurd h (by omega)
  | 0, v, fu + 1, h, _ => by
    rw [J1_indexOfChar_4cfef_7, if_pos (nI_le (by omega) (by omega)), hK]; rfl
  | r + 1, v, fu + 1, h, hf => by
    rw [J1_indexOfChar_4cfef_7, if_neg (nI_ge (by omega) (by omega)), if_pos (nI_inA (by omega) (by omega)), nI_clamp (by omega), idx]
    split
    · rfl
    · rw [nI_1]; exact j1_loop K hK r (v + 1) fu (by omega) (by omega)
theorem j0_idx (σ : Mem) {x : Int32} (h1 : ¬ x < 0) (h2 : ¬ (255 : Int32) < x) : J0_indexOf_0f7a4 σ x = some (σ, idx x.toInt8.toInt32 10 0) := by
  have hl : J0_length_8abf5 σ = some (σ, 10) := by
    unfold J0_length_8abf5 J0_coder_7d493
    rw [if_neg one_ne, uB]
    dsimp only
    rw [show (10 : Int32) >>> ((0 : Int32) &&& 31) = 10 by decide]
  have hc : J1_canEncode_9a6ad σ x = some (σ, 1) := by
    unfold J1_canEncode_9a6ad
    rw [if_neg h1, if_neg h2]
  have hf : J1_indexOfChar_4cfef σ x 0 10 = some (σ, idx x.toInt8.toInt32 10 0) := j1_loop (x := x.toInt8.toInt32) (fun σ => some (σ, -1)) (fun _ => rfl) 10 0 FU (by omega) (by unfold FU; omega)
  have hi : J1_indexOf_4cfef σ x 0 10 = some (σ, idx x.toInt8.toInt32 10 0) := by
    unfold J1_indexOf_4cfef
    rw [hc, uB, if_neg one_ne]
    rw [show (if (0 : Int32) < (0 : Int32) then (0 : Int32) else 0) = 0 by decide, show (if (10 : Int32) < (10 : Int32) then (10 : Int32) else 10) = 10 by decide, if_pos (by decide), hf, uB]
  have hj : J0_indexOf_7cf53 σ x 0 = some (σ, idx x.toInt8.toInt32 10 0) := by
    have h0 : J0_isLatin1_aae02 σ = some (σ, 1) := by
      unfold J0_isLatin1_aae02
      rw [if_neg one_ne, if_pos rfl]
    unfold J0_indexOf_7cf53
    rw [h0, uB, if_neg one_ne, hl, uB, hi, uB]
  unfold J0_indexOf_0f7a4
  rw [hj, uB]
theorem idx_all : ∀ c, c < 128 → (¬ ((nI c).toUInt32 % 65536).toInt32 < 0) ∧ (¬ (255 : Int32) < ((nI c).toUInt32 % 65536).toInt32) ∧ idx (((nI c).toUInt32 % 65536).toInt32).toInt8.toInt32 10 0 = oN (keyF c) := by decide +kernel
theorem x1_stand {σ : Mem} {s c : Nat} (hs : s ≤ 11) (hc : c < 128) : X1_standBehind σ (sI s) (nI c) = some (σ, oS (stp s c)) := by
  have h0 : sI s = (-1 : Int32) ↔ s = 0 := by
    unfold sI
    by_cases c1 : s = 0
    · rw [if_pos c1]; exact ⟨fun _ => c1, fun _ => rfl⟩
    · rw [if_neg c1]; exact ⟨fun x => absurd x (nI_nem1 (by omega)), fun x => absurd x c1⟩
  unfold X1_standBehind stp
  by_cases c1 : c = 47
  · rw [if_pos (show nI c = 47 by rw [c1]; rfl), if_pos c1]
    by_cases c2 : s = 0
    · rw [if_pos (h0.mpr c2), if_pos c2]; rfl
    · rw [if_neg (fun x => c2 (h0.mp x)), if_neg c2]; rfl
  · rw [if_neg (show ¬ nI c = 47 from fun x => c1 ((nI_eq (b := 47) (by omega) (by omega)).mp x)), if_neg c1]
    by_cases c3 : c = 42
    · rw [if_pos (show nI c = 42 by rw [c3]; rfl), if_pos c3]
      by_cases c2 : s = 0
      · rw [if_pos (h0.mpr c2), if_pos c2]; rfl
      · rw [if_neg (fun x => c2 (h0.mp x)), if_neg c2]; rfl
    · rw [if_neg (show ¬ nI c = 42 from fun x => c3 ((nI_eq (b := 42) (by omega) (by omega)).mp x)), if_neg c3]
      obtain ⟨i1, i2, i3⟩ := idx_all c hc
      rw [j0_idx σ i1 i2, uB, i3]
      dsimp only
      cases hk : keyF c with
      | none =>
        rw [if_pos (show oN none ≤ sI s by
          unfold sI
          show (-1 : Int32) ≤ _
          split
          · decide
          · exact of_eq_true (c_m1_le (by omega)))]
        rfl
      | some k =>
        have := keyF_lt hk
        by_cases c4 : s ≤ k
        · rw [if_neg (show ¬ oN (some k) ≤ sI s by
            unfold sI
            show ¬ nI k ≤ _
            split
            · exact of_eq_false (c_m1_nle (by omega))
            · exact nI_ge (by omega) (by omega))]
          show some (σ, nI k) = some (σ, oS (if s ≤ k then some (k + 1) else none))
          rw [if_pos c4]; rfl
        · rw [if_pos (show oN (some k) ≤ sI s by
            unfold sI
            show nI k ≤ _
            rw [if_neg (by omega)]
            exact nI_le (by omega) (by omega))]
          show some (σ, -2) = some (σ, oS (if s ≤ k then some (k + 1) else none))
          rw [if_neg c4]; rfl
/-- a text read to its end or its first error: whether it is complete, where it ends, the strokes told -/
abbrev Tr : Type := Bool × Nat × Nat × (Nat → Nat)
def cpr (n : Nat) (t : Nat → Nat) : Nat → Nat → Nat → Nat → Nat → (Nat → Nat) → Tr
  | 0, _, s, m, k, tl => (decide (s ≠ 0), n, k + 1, updn tl k m)
  | r + 1, i, s, m, k, tl => match stp s (t i) with
    | none => (false, i, k, tl)
    | some s' => if s' = 0 then cpr n t r (i + 1) 0 0 (k + 1) (updn tl k m) else if s' = 11 then cpr n t r (i + 1) 11 m k tl else cpr n t r (i + 1) s' (m + 2 ^ (s' - 1)) k tl
def tRead (n : Nat) (t : Nat → Nat) : Tr := cpr n t n 0 0 0 0 (fun _ => 0)
theorem oS_m2 (o : Option Nat) (h : ∀ s, o = some s → s ≤ 11) : (oS o = (-2 : Int32)) ↔ o = none := by
  cases o with
  | none => exact ⟨fun _ => rfl, fun _ => rfl⟩
  | some s =>
    have hs := h s rfl
    refine ⟨fun x => ?_, fun x => by cases x⟩
    have x : sI s = (-2 : Int32) := x
    have x2 := congrArg Int32.toInt x
    rw [m2_toInt] at x2
    unfold sI at x2
    split at x2
    · rw [m1_toInt] at x2; omega
    · rw [nI_toInt (by omega)] at x2; omega