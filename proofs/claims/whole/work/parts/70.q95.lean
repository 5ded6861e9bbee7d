/-! saving -/
theorem x7_copies_2 {f t : Nat} (hf : f ≤ 7) (ht : t ≤ 7) (hne : f ≠ t) {src : Nat → Int32} (K : Mem → Option (Mem × Unit)) : ∀ (r v fu : Nat) (σ : Mem), v + r = 236 → r < fu → (∀ k, k < 236 → σ.1 83 (236 * f + k) = src k) → (∀ k, k < v → σ.1 83 (236 * t + k) = src k) → ∃ σ', X7_copies_2 K fu σ (nI f) (nI t) (nI v) = K σ' ∧ (∀ k, k < 236 → σ'.1 83 (236 * t + k) = src k) ∧ Fr (fun c j => c = 83 ∧ 236 * t ≤ j ∧ j < 236 * t + 236) σ σ'
  | r, v, 0, _, _, h, _, _ => absurd h (by omega)
  | 0, v, fu + 1, σ, h1, _, hs, hd => by
    have hv : v = 236 := by omega
    subst hv
    exact ⟨σ, by rw [X7_copies_2, if_pos (by decide)], hd, Fr.rfl'⟩
  | r + 1, v, fu + 1, σ, h1, hfu, hs, hd => by
    have e1 : (236 : Int32) * nI f + nI v = nI (236 * f + v) := by rw [k_236, pk_mul, nI_add]
    have e2 : (236 : Int32) * nI t + nI v = nI (236 * t + v) := by rw [k_236, pk_mul, nI_add]
    obtain ⟨σ', e, g, fr⟩ := x7_copies_2 (src := src) hf ht hne K r (v + 1) fu (setI σ 83 (236 * t + v) (src v)) (by omega) (by omega) (fun k hk => by rw [si_o _ _ (by omega)]; exact hs k hk) (fun k hk => by
      by_cases c : k = v
      · subst c; rw [si_1]
      · rw [si_o _ _ (by omega)]; exact hd k (by omega))
    refine ⟨σ', ?_, g, (Fr.setI (P := fun c j => c = 83 ∧ 236 * t ≤ j ∧ j < 236 * t + 236) (by omega)).trans fr⟩
    rw [X7_copies_2, if_neg (show ¬ (236 : Int32) ≤ nI v from nI_ge (b := 236) (by omega) (by omega)), e1, e2, if_pos (nI_inA (by omega) (by omega)), if_pos (nI_inA (by omega) (by omega)), nI_clamp (by omega), nI_clamp (by omega), hs v (by omega), uB, nI_1, e]
def pB (t : Nat) (c j : Nat) : Prop := c = 83 ∧ 236 * t ≤ j ∧ j < 236 * t + 236
theorem x7_copies {f t : Nat} (hf : f ≤ 7) (ht : t ≤ 7) (hne : f ≠ t) (σ : Mem) : ∃ σ', X7_copies σ (nI f) (nI t) = some (σ', ()) ∧ (∀ k, k < 236 → σ'.1 83 (236 * t + k) = σ.1 83 (236 * f + k)) ∧ Fr (pB t) σ σ' :=
  x7_copies_2 (src := fun k => σ.1 83 (236 * f + k)) hf ht hne (fun σ => some (σ, ())) 236 0 FU σ (by omega) (by unfold FU; omega) (fun k hk => rfl) (fun k hk => absurd hk (by omega))
def RfP (σ : Mem) (w : Wd) : Prop := RS (σ.1 83) 0 (w_a w) ∧ (w_k w = true → RS (σ.1 83) 1652 (w_s w)) ∧ σ.1 82 3 = bI (w_k w) ∧ σ.1 82 2 = nI (w_v w).1 ∧ (∀ j, j < (w_v w).1 → RS (σ.1 83) (236 * (1 + j)) ((w_v w).2 j)) ∧ σ.1 82 5 = nI (w_n w) ∧ ∀ j, j < w_n w → σ.1 84 j = nI (w_t w j)
theorem RfP.fr {σ σ' : Mem} {w : Wd} {P : Nat → Nat → Prop} (h : RfP σ w) (f : Fr P σ σ') (h1 : ∀ j, ¬ P 83 j) (h2 : ∀ j, ¬ P 84 j) (h3 : ¬ P 82 2 ∧ ¬ P 82 3 ∧ ¬ P 82 5) : RfP σ' w := by
  obtain ⟨g1, g2, g3, g4, g5, g6, g7⟩ := h
  have e83 := f.s83 h1
  refine ⟨by rw [e83]; exact g1, by rw [e83]; exact g2, by rw [f.1 _ _ h3.2.1]; exact g3, by rw [f.1 _ _ h3.1]; exact g4, by rw [e83]; exact g5, by rw [f.1 _ _ h3.2.2]; exact g6, fun j hj => by rw [f.1 _ _ (h2 j)]; exact g7 j hj⟩
theorem RfP.S {σ σ' : Mem} {w : Wd} (h : RfP σ w) (f : Fr pS σ σ') : RfP σ' w := h.fr f n83S (fun j => by unfold pS; omega) ⟨by unfold pS; omega, by unfold pS; omega, by unfold pS; omega⟩
theorem RfP.p {σ σ' : Mem} {w : Wd} (h : RfP σ w) (f : Fr pRp σ σ') : RfP σ' w := h.S (f.mono fun c j => pRp_S)
/-- shifting the saved states -/
theorem x7_save_2 (K : Mem → Option (Mem × Unit)) : ∀ (r v fu : Nat) (σ : Mem), v + r = 6 → 1 ≤ v → r < fu → σ.1 82 2 = nI 6 → ∃ σ', X7_save_2 K fu σ (nI v) = K σ' ∧ (∀ b k, v ≤ b → b < 6 → k < 236 → σ'.1 83 (236 * b + k) = σ.1 83 (236 * (b + 1) + k)) ∧ Fr (fun c j => c = 83 ∧ 236 * v ≤ j ∧ j < 1416) σ σ'
  | r, v, 0, _, _, _, h, _ => absurd h (by omega)
  | 0, v, fu + 1, σ, h1, _, _, _ => by
    have hv : v = 6 := by omega
    subst hv
    exact ⟨σ, by rw [X7_save_2, if_pos (by decide)], fun b k h1 h2 => absurd h2 (by omega), Fr.rfl'⟩
  | r + 1, v, fu + 1, σ, h1, hv, hf, h2 => by
    obtain ⟨σ1, e1, g1, f1⟩ := x7_copies (f := v + 1) (t := v) (by omega) (by omega) (by omega) σ
    obtain ⟨σ2, e2, g2, f2⟩ := x7_save_2 K r (v + 1) fu σ1 (by omega) (by omega) (by omega) (by rw [f1.1 82 2 (by unfold pB; omega)]; exact h2)
    refine ⟨σ2, ?_, fun b k hb1 hb2 hk => ?_, (f1.mono (fun c j hc => by unfold pB at hc; omega)).trans (f2.mono (fun c j hc => by omega))⟩
    · rw [X7_save_2, if_neg (show ¬ (6 : Int32) ≤ nI v from nI_ge (b := 6) (by omega) (by omega)), h2, if_pos (show nI 6 = (6 : Int32) from rfl), nI_1, e1, uB, e2]
    · by_cases c : b = v
      · subst c
        rw [f2.1 83 _ (by omega)]
        exact g1 k hk
      · rw [g2 b k (by omega) hb2 hk, f1.1 83 _ (by unfold pB; omega)]
def pV (c j : Nat) : Prop := (c = 83 ∧ 236 ≤ j ∧ j < 1652) ∨ (c = 82 ∧ j = 2)
theorem x7_save {σ : Mem} {w : Wd} {T : Nat} (ok : WdOk T w) (h : RfP σ w) : ∃ σ', X7_save σ = some (σ', ()) ∧ RfP σ' (wPush w) ∧ Fr pV σ σ' := by
  obtain ⟨ok1, ok2, ok3, ok4, ok5⟩ := ok
  obtain ⟨g1, g2, g3, g4, g5, g6, g7⟩ := h
  have hN := ok1.1
  have hm := ok1.2.2.1.1
  by_cases c : (w_v w).1 < 6
  · have f1 : Fr pV σ (setI σ 82 2 (nI ((w_v w).1 + 1))) := Fr.setI (by unfold pV; omega)
    obtain ⟨σ2, e2, h2, f2⟩ := x7_copies (f := 0) (t := (w_v w).1 + 1) (by omega) (by omega) (by omega) (setI σ 82 2 (nI ((w_v w).1 + 1)))
    have f2' : Fr pV (setI σ 82 2 (nI ((w_v w).1 + 1))) σ2 := f2.mono (fun c j hc => by unfold pB at hc; unfold pV; omega)
    have hsv : svPush (w_v w) (w_a w) = ((w_v w).1 + 1, updn (w_v w).2 (w_v w).1 (w_a w)) := if_pos c
    have hkeep : ∀ i, (i < 236 ∨ 1652 ≤ i) → σ2.1 83 i = σ.1 83 i := fun i hi => by rw [f2'.1 83 i (by unfold pV; omega), si_o _ _ (by omega)]
    refine ⟨σ2, ?_, ⟨g1.cong hN hm (fun k hk => hkeep _ (by omega)), fun hk => (g2 hk).cong (ok2 hk).1 (ok2 hk).2.2.1.1 (fun k hk => hkeep _ (by omega)), ?_, ?_, fun j hj => ?_, ?_, fun j hj => ?_⟩, f1.trans f2'⟩
    · unfold X7_save
      rw [show FU = 999 + 1 from rfl, X7_save_2, if_neg (by decide), g4, if_neg (fun x => by have := (nI_eq (b := 6) (by omega) (by omega)).mp x; omega)]
      unfold X7_save_31
      rw [g4, if_neg (show ¬ (6 : Int32) ≤ nI (w_v w).1 from nI_ge (b := 6) c (by omega)), uB, nI_1, si_1, show (0 : Int32) = nI 0 from rfl, e2, uB]
    · rw [f2.1 82 3 (by unfold pB; omega), si_o _ _ (by omega)]; exact g3
    · rw [f2.1 82 2 (by unfold pB; omega), si_1]
      show nI _ = nI (svPush (w_v w) (w_a w)).1
      rw [hsv]
    · have hj : j < (svPush (w_v w) (w_a w)).1 := hj
      rw [hsv] at hj
      have hj : j < (w_v w).1 + 1 := hj
      show RS _ _ ((svPush (w_v w) (w_a w)).2 j)
      rw [hsv]
      show RS _ _ (updn (w_v w).2 (w_v w).1 (w_a w) j)
      by_cases c2 : j = (w_v w).1
      · subst c2
        rw [updn_1, Nat.add_comm 1]
        refine g1.cong hN hm (fun k hk => ?_)
        rw [h2 k hk, si_o _ _ (by omega)]
      · rw [updn_o _ _ c2]
        have hjo := ok4 j (by omega)
        refine (g5 j (by omega)).cong hjo.1 hjo.2.2.1.1 (fun k hk => ?_)
        rw [f2.1 83 _ (by unfold pB; omega), si_o _ _ (by omega)]
    · rw [f2.1 82 5 (by unfold pB; omega), si_o _ _ (by omega)]; exact g6
    · rw [f2.1 84 _ (by unfold pB; omega), si_o _ _ (by omega)]; exact g7 j hj
  · have c6 : (w_v w).1 = 6 := by omega
    rw [c6] at g4
    obtain ⟨σ1, e1, h1, f1⟩ := x7_save_2 (fun (σ : Mem)  => X7_save_31 σ) 5 1 FU σ (by omega) (by omega) (by unfold FU; omega) g4
    have q4 : σ1.1 82 2 = nI 6 := by rw [f1.1 82 2 (by omega)]; exact g4
    obtain ⟨σ2, e2, h2, f2⟩ := x7_copies (f := 0) (t := 6) (by omega) (by omega) (by omega) (setI σ1 82 2 (nI 6))
    have f1' : Fr pV σ σ1 := f1.mono (fun c j hc => by unfold pV; omega)
    have f12 : Fr pV σ1 (setI σ1 82 2 (nI 6)) := Fr.setI (by unfold pV; omega)
    have f2' : Fr pV (setI σ1 82 2 (nI 6)) σ2 := f2.mono (fun c j hc => by unfold pB at hc; unfold pV; omega)
    have ff := (f1'.trans f12).trans f2'
    have hsv : svPush (w_v w) (w_a w) = (6, fun j => if j = 5 then (w_a w) else (w_v w).2 (j + 1)) := if_neg c
    have hkeep : ∀ i, (i < 236 ∨ 1652 ≤ i) → σ2.1 83 i = σ.1 83 i := fun i hi => ff.1 83 i (by unfold pV; omega)
    refine ⟨σ2, ?_, ⟨g1.cong hN hm (fun k hk => hkeep _ (by omega)), fun hk => (g2 hk).cong (ok2 hk).1 (ok2 hk).2.2.1.1 (fun k hk => hkeep _ (by omega)), ?_, ?_, fun j hj => ?_, ?_, fun j hj => ?_⟩, ff⟩
    · unfold X7_save
      refine e1.trans ?_
      unfold X7_save_31
      rw [q4, if_pos (by decide), uB, show nI 6 + (0 : Int32) = nI 6 from rfl, si_1, show (0 : Int32) = nI 0 from rfl, e2, uB]
    · rw [ff.1 82 3 (by unfold pV; omega)]; exact g3
    · rw [f2.1 82 2 (by unfold pB; omega), si_1]
      show nI 6 = nI (svPush (w_v w) (w_a w)).1
      rw [hsv]
    · have hj : j < (svPush (w_v w) (w_a w)).1 := hj
      rw [hsv] at hj
      have hj : j < 6 := hj
      show RS _ _ ((svPush (w_v w) (w_a w)).2 j)
      rw [hsv]
      show RS _ _ (if j = 5 then (w_a w) else (w_v w).2 (j + 1))
      by_cases c2 : j = 5
      · subst c2
        rw [if_pos rfl]
        refine g1.cong hN hm (fun k hk => ?_)
        rw [show 236 * (1 + 5) + k = 236 * 6 + k from rfl, h2 k hk, si_o _ _ (by omega), f1.1 83 _ (by omega)]
      · rw [if_neg c2]
        have hjo := ok4 (j + 1) (by omega)
        refine (g5 (j + 1) (by omega)).cong hjo.1 hjo.2.2.1.1 (fun k hk => ?_)
        rw [f2.1 83 _ (by unfold pB; omega), si_o _ _ (by omega), h1 (1 + j) k (by omega) (by omega) hk, show 1 + j + 1 = 1 + (j + 1) by omega]
    · rw [ff.1 82 5 (by unfold pV; omega)]; exact g6
    · rw [ff.1 84 _ (by unfold pV; omega)]; exact g7 j hj
