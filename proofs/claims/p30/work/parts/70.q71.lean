/-! STATES -/
abbrev As : Type := (Nat × (Nat → Nat)) × En × (Nat × Nat) × (Nat × Int32 × Int32 × Nat)
abbrev as_N (a : As) : Nat := a.1.1
abbrev as_p (a : As) : Nat → Nat := a.1.2
abbrev as_E (a : As) : En := a.2.1
abbrev as_s (a : As) : Nat := a.2.2.1.1
abbrev as_g (a : As) : Nat := a.2.2.1.2
abbrev as_k (a : As) : Nat := a.2.2.2.1
abbrev as_e (a : As) : Int32 := a.2.2.2.2.1
abbrev as_a (a : As) : Int32 := a.2.2.2.2.2.1
abbrev as_y (a : As) : Nat := a.2.2.2.2.2.2
def AsOk (T : Nat) (a : As) : Prop := as_N a ≤ 60 ∧ ShOk (as_N a) (as_p a) ∧ EnOk (as_E a) ∧ as_s a ≤ 1 ∧ (1 ≤ as_g a ∧ as_g a ≤ 4) ∧ as_k a ≤ 30 * T ∧ as_k a ≤ as_y a ∧ as_y a ≤ 10 * as_k a ∧ ∀ e, e < en_m (as_E a) → en_p (as_E a) e ≤ T
theorem AsOk.mono {T U : Nat} {a : As} (h : AsOk T a) (hT : T ≤ U) : AsOk U a := by
  obtain ⟨h1, h2, h3, h4, h5, h6, h7, h8, h9⟩ := h
  exact ⟨h1, h2, h3, h4, h5, by omega, h7, h8, fun e he => Nat.le_trans (h9 e he) hT⟩
def StC (σ : Mem) (k : Nat) (a : As) : Prop := RowIs σ (k + 1) (as_N a) (fun j => nI (as_p a j)) ∧ EnC σ (k + 3) (as_E a) ∧ σ.1 k 2 = nI (as_s a) ∧ σ.1 k 3 = nI (as_g a) ∧ σ.1 k 4 = nI (as_k a) ∧ σ.1 k 5 = as_e a ∧ σ.1 k 6 = as_a a ∧ σ.1 k 7 = nI (as_y a)
theorem StC.off {σ σ' : Mem} {k lo hi : Nat} {a : As} (h : StC σ k a) (o : Off lo hi σ σ') (hd : k + 6 < lo ∨ hi ≤ k) : StC σ' k a := by
  obtain ⟨h1, h2, h3⟩ := h
  refine ⟨h1.off o (by omega), h2.off o (by omega), ?_⟩
  rw [(o k (by omega)).1]
  exact h3
theorem capS : ∀ t, t < 8 → cap (7 * t + 1) = 60 := by decide +kernel
theorem x5_become {σ : Mem} {i j T : Nat} {a : As} (hi : i < 8) (hj : j < 8) (hd : i ≠ j) (ok : AsOk T a) (h : StC σ (7 * j) a) : ∃ σ', X5_become (7 * i) (7 * j) σ = some (σ', ()) ∧ StC σ' (7 * i) a ∧ Off (7 * i) (7 * i + 7) σ σ' := by
  obtain ⟨h1, h2, h3⟩ := h
  have hci := capS i hi
  have hcj := capS j hj
  have hN := ok.1
  obtain ⟨σ1, e1, g1, o1⟩ := x3_become (i := 7 * i + 1) (j := 7 * j + 1) (by omega) (by omega) (by omega) (by omega) (by omega) h1
  obtain ⟨σ2, e2, g2, o2⟩ := x0_become (i := 7 * i + 3) (j := 7 * j + 3) (by omega) ok.2.2.1 (h2.off o1 (by omega))
  have p1 : Off (7 * i) (7 * i + 7) σ σ2 := (o1.mono (by omega) (by omega)).trans (o2.mono (by omega) (by omega))
  have h4 : σ2.1 (7 * j) = σ.1 (7 * j) := (p1 (7 * j) (by omega)).1
  have h5 : RowIs σ2 (7 * i + 1) (as_N a) (fun j => nI (as_p a j)) := g1.off o2 (by omega)
  refine ⟨setI (setI (setI (setI (setI (setI σ2 (7 * i) 2 (nI (as_s a))) (7 * i) 3 (nI (as_g a))) (7 * i) 4 (nI (as_k a))) (7 * i) 5 (as_e a)) (7 * i) 6 (as_a a)) (7 * i) 7 (nI (as_y a)), ?_, ?_, ?_⟩
  · obtain ⟨a1, a2, a3, a4, a5, a6⟩ := h3
    rw [← h4] at a1 a2 a3 a4 a5 a6
    unfold X5_become
    rw [e1, uB, e2, uB, uB]
    dsimp only
    rw [uB, a1, si_o _ _ (by omega), a2, uB, si_o _ _ (by omega), si_o _ _ (by omega), a3, uB, si_o _ _ (by omega), si_o _ _ (by omega), si_o _ _ (by omega), a4, uB, si_o _ _ (by omega), si_o _ _ (by omega), si_o _ _ (by omega), si_o _ _ (by omega), a5, uB, si_o _ _ (by omega), si_o _ _ (by omega), si_o _ _ (by omega), si_o _ _ (by omega), si_o _ _ (by omega), a6]
  · refine ⟨⟨?_, fun t ht => ?_⟩, ⟨?_, fun t ht => ?_⟩, ?_, ?_, ?_, ?_, ?_, ?_⟩
    · rw [si_o _ _ (by omega), si_o _ _ (by omega), si_o _ _ (by omega), si_o _ _ (by omega), si_o _ _ (by omega), si_o _ _ (by omega)]; exact h5.1
    · rw [si_o _ _ (by omega), si_o _ _ (by omega), si_o _ _ (by omega), si_o _ _ (by omega), si_o _ _ (by omega), si_o _ _ (by omega)]; exact h5.2 t ht
    · rw [si_o _ _ (by omega), si_o _ _ (by omega), si_o _ _ (by omega), si_o _ _ (by omega), si_o _ _ (by omega), si_o _ _ (by omega)]; exact g2.1
    · rw [si_o _ _ (by omega), si_o _ _ (by omega), si_o _ _ (by omega), si_o _ _ (by omega), si_o _ _ (by omega), si_o _ _ (by omega), si_o _ _ (by omega), si_o _ _ (by omega), si_o _ _ (by omega), si_o _ _ (by omega), si_o _ _ (by omega), si_o _ _ (by omega)]; exact g2.2 t ht
    · rw [si_o _ _ (by omega), si_o _ _ (by omega), si_o _ _ (by omega), si_o _ _ (by omega), si_o _ _ (by omega), si_1]
    · rw [si_o _ _ (by omega), si_o _ _ (by omega), si_o _ _ (by omega), si_o _ _ (by omega), si_1]
    · rw [si_o _ _ (by omega), si_o _ _ (by omega), si_o _ _ (by omega), si_1]
    · rw [si_o _ _ (by omega), si_o _ _ (by omega), si_1]
    · rw [si_o _ _ (by omega), si_1]
    · rw [si_1]
  · exact ((((((p1.trans (Off.setI (by omega) (by omega))).trans (Off.setI (by omega) (by omega))).trans (Off.setI (by omega) (by omega))).trans (Off.setI (by omega) (by omega))).trans (Off.setI (by omega) (by omega))).trans (Off.setI (by omega) (by omega)))
theorem fm_x : ∀ x, x < 20 → (0 : Int32) ≤ nI x ^^^ 6 := by decide +kernel
theorem j9_mod {σ : Mem} {x : Nat} (hx : x < 20) : J9_floorMod_7cf53 σ (nI x) 6 = some (σ, nI (x % 6)) := by
  unfold J9_floorMod_7cf53
  rw [if_pos (by decide), if_pos (fm_x x hx), k_6, pk_rem (by omega) (by omega) (by omega)]
def RingC (σ : Mem) (old ns : Nat) (sv : Nat → As) : Prop := old < 6 ∧ ns ≤ 6 ∧ σ.1 56 1 = nI old ∧ σ.1 56 2 = nI ns ∧ ∀ j, j < ns → StC σ (14 + 7 * ((old + j) % 6)) (sv j)
theorem x4_slot {σ : Mem} {old d : Nat} (h : σ.1 56 1 = nI old) (ho : old < 6) (hd : d ≤ 6) : X4_slotBehindOldest σ (nI d) = some (σ, some (14 + 7 * ((old + d) % 6))) := by
  unfold X4_slotBehindOldest
  have := Nat.mod_lt (old + d) (show 0 < 6 by omega)
  rw [h, nI_add, j9_mod (by omega), uB]
  simp (disch := omega) only [uB, ofn, k_0, k_1, k_2, k_3, k_4, k_5, k_6, k_7, k_8, k_9, k_10, k_24, k_60, k_68, k_236, c_le_t, c_le_f, c_lt_t, c_lt_f, c_eq_t, c_eq_f, c_m1_f, c_m1_f', c_m1_lt, c_m1_nlt, c_m1_le, c_m1_nle, c_inA, c_cl, c_sub, c_add, if_false, if_true]
abbrev Sv : Type := Nat × (Nat → As)
def svPush (v : Sv) (a : As) : Sv := if v.1 < 6 then (v.1 + 1, updn v.2 v.1 a) else (6, fun j => if j = 5 then a else v.2 (j + 1))
theorem RingC.off {σ σ' : Mem} {old ns lo hi : Nat} {sv : Nat → As} (h : RingC σ old ns sv) (o : Off lo hi σ σ') (hd : (hi ≤ 14 ∨ 57 ≤ lo)) : RingC σ' old ns sv := by
  obtain ⟨h1, h2, h3, h4, h5⟩ := h
  refine ⟨h1, h2, ?_, ?_, fun j hj => (h5 j hj).off o ?_⟩
  · rw [(o 56 (by omega)).1]; exact h3
  · rw [(o 56 (by omega)).1]; exact h4
  · have := Nat.mod_lt (old + j) (show 0 < 6 by omega)
    omega
theorem x4_push {σ : Mem} {old T : Nat} {v : Sv} {a : As} (ok : AsOk T a) (h : RingC σ old v.1 v.2) (ha : StC σ 0 a) : ∃ σ' old', X4_push 0 σ = some (σ', ()) ∧ RingC σ' old' (svPush v a).1 (svPush v a).2 ∧ Off 14 57 σ σ' := by
  obtain ⟨h1, h2, h3, h4, h5⟩ := h
  have hm := Nat.mod_lt (old + v.1) (show 0 < 6 by omega)
  obtain ⟨σ1, e1, g1, o1⟩ := x5_become (i := 2 + (old + v.1) % 6) (j := 0) (by omega) (by omega) (by omega) ok ha
  have hcell : 14 + 7 * ((old + v.1) % 6) = 7 * (2 + (old + v.1) % 6) := by omega
  have e0 : X4_push 0 σ = X4_push_18 0 σ1 := by
    unfold X4_push
    rw [h4, x4_slot h3 h1 h2, uB]
    show (if _ then _ else _) = _
    rw [if_pos (by omega), hcell]
    rw [show X5_become (7 * (2 + (old + v.1) % 6)) 0 σ = _ from e1, uB]
  have k1 : σ1.1 56 1 = nI old := by rw [(o1 56 (by omega)).1]; exact h3
  have k2 : σ1.1 56 2 = nI v.1 := by rw [(o1 56 (by omega)).1]; exact h4
  by_cases c : v.1 < 6
  · have hsv : svPush v a = (v.1 + 1, updn v.2 v.1 a) := if_pos c
    rw [hsv]
    refine ⟨setI σ1 56 2 (nI (v.1 + 1)), old, ?_, ⟨h1, by show v.1 + 1 ≤ 6; omega, ?_, ?_, fun j hj => ?_⟩, (o1.mono (by omega) (by omega)).trans (Off.setI (by omega) (by omega))⟩
    · rw [e0]
      unfold X4_push_18
      rw [k2, if_neg (show ¬ (6 : Int32) ≤ nI v.1 from nI_ge (b := 6) (by omega) (by omega)), uB, nI_1]
    · rw [si_o _ _ (by omega)]; exact k1
    · rw [si_1]
    · have hj : j < v.1 + 1 := hj
      have hmj := Nat.mod_lt (old + j) (show 0 < 6 by omega)
      have o2 : Off 56 57 σ1 (setI σ1 56 2 (nI (v.1 + 1))) := Off.setI (by omega) (by omega)
      by_cases c2 : j = v.1
      · subst c2
        show StC _ _ (updn v.2 v.1 a v.1)
        rw [updn_1, hcell]
        exact g1.off o2 (by omega)
      · show StC _ _ (updn v.2 v.1 a j)
        rw [updn_o _ _ c2]
        exact ((h5 j (by omega)).off o1 (by omega)).off o2 (by omega)
  · have hsv : svPush v a = (6, fun j => if j = 5 then a else v.2 (j + 1)) := if_neg c
    have c6 : v.1 = 6 := by omega
    rw [hsv]
    refine ⟨setI σ1 56 1 (nI ((old + 1) % 6)), (old + 1) % 6, ?_, ⟨Nat.mod_lt _ (by omega), Nat.le_refl _, ?_, ?_, fun j hj => ?_⟩, (o1.mono (by omega) (by omega)).trans (Off.setI (by omega) (by omega))⟩
    · rw [e0]
      unfold X4_push_18
      rw [k2, k1, if_pos (show (6 : Int32) ≤ nI v.1 from nI_le (a := 6) (by omega) (by omega)), nI_1, j9_mod (by omega), uB, uB]
    · rw [si_1]
    · rw [si_o _ _ (by omega), k2, c6]
    · have hj : j < 6 := hj
      have hmj := Nat.mod_lt ((old + 1) % 6 + j) (show 0 < 6 by omega)
      have o2 : Off 56 57 σ1 (setI σ1 56 1 (nI ((old + 1) % 6))) := Off.setI (by omega) (by omega)
      by_cases c2 : j = 5
      · subst c2
        show StC _ _ (if 5 = 5 then a else _)
        rw [if_pos rfl, show 14 + 7 * (((old + 1) % 6 + 5) % 6) = 7 * (2 + (old + v.1) % 6) by omega]
        exact g1.off o2 (by omega)
      · show StC _ _ (if j = 5 then a else v.2 (j + 1))
        rw [if_neg c2, show 14 + 7 * (((old + 1) % 6 + j) % 6) = 14 + 7 * ((old + (j + 1)) % 6) by omega]
        exact ((h5 (j + 1) (by omega)).off o1 (by omega)).off o2 (by omega)
theorem x4_pop {σ : Mem} {old T n : Nat} {sv : Nat → As} (h : RingC σ old (n + 1) sv) (ok : AsOk T (sv n)) : ∃ σ', X4_popInto 0 σ = some (σ', ()) ∧ RingC σ' old n sv ∧ StC σ' 0 (sv n) ∧ (∀ c, 7 ≤ c → c ≠ 56 → σ'.1 c = σ.1 c ∧ σ'.2 c = σ.2 c) := by
  obtain ⟨h1, h2, h3, h4, h5⟩ := h
  have hm := Nat.mod_lt (old + n) (show 0 < 6 by omega)
  have o1 : Off 56 57 σ (setI σ 56 2 (nI n)) := Off.setI (by omega) (by omega)
  have hcell : 14 + 7 * ((old + n) % 6) = 7 * (2 + (old + n) % 6) := by omega
  have h6 := (h5 n (by omega)).off o1 (by omega)
  rw [hcell] at h6
  obtain ⟨σ2, e2, g2, o2⟩ := x5_become (i := 0) (j := 2 + (old + n) % 6) (by omega) (by omega) (by omega) ok h6
  refine ⟨σ2, ?_, ⟨h1, by omega, ?_, ?_, fun j hj => ?_⟩, g2, fun c hc hc2 => ?_⟩
  · unfold X4_popInto
    rw [h4, if_neg (nI_nle (by omega) (by omega)), nI_pred, uB, si_1, x4_slot (by rw [si_o _ _ (by omega)]; exact h3) h1 (by omega), uB]
    show (if _ then _ else _) = _
    rw [if_pos (by omega), hcell]
    rw [show X5_become 0 (7 * (2 + (old + n) % 6)) (setI σ 56 2 (nI n)) = _ from e2, uB]
  · rw [(o2 56 (by omega)).1, si_o _ _ (by omega)]; exact h3
  · rw [(o2 56 (by omega)).1, si_1]
  · have hmj := Nat.mod_lt (old + j) (show 0 < 6 by omega)
    exact ((h5 j (by omega)).off o1 (by omega)).off o2 (by omega)
  · have a1 := o2 c (by omega)
    have a2 := o1 c (by omega)
    exact ⟨a1.1.trans a2.1, a1.2.trans a2.2⟩
