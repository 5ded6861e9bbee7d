theorem Ans.ex {m : Option (Mem × (Int32 ⊕ Nat))} {σ : Mem} {w : Wd} {r : Int32 ⊕ Nat} (hP : ClP σ w) (hS : ClS σ) (e : m = some (σ, r)) : Ans m σ w r := ⟨σ, e, hP, hS, Off.rfl'⟩
theorem bad_if {α : Type} {x : Int32} {lo hi : Nat} {A B : α} (h : bad x lo hi) (hh : lo ≤ hi) (hi2 : hi < 2147483648) : (if x < nI lo then A else (if x ≤ nI hi then B else A)) = A := by
  by_cases c : x < nI lo
  · rw [if_pos c]
  · rcases h with h | h
    · exact absurd h c
    · rw [if_neg c, if_neg (by rw [Int32.lt_iff_toInt_lt] at h; rw [Int32.le_iff_toInt_le]; omega)]
theorem good_if {α : Type} {j lo hi : Nat} {A B : α} (h1 : lo ≤ j) (h2 : j ≤ hi) (hi2 : hi < 2147483648) : (if nI j < nI lo then A else (if nI j ≤ nI hi then B else A)) = B := by
  rw [if_neg (nI_nlt h1 (by omega)), if_pos (nI_le h2 (by omega))]
theorem bad_iflt {α : Type} {x : Int32} {lo hi : Nat} {A B : α} (h : bad x lo hi) (hh : lo ≤ hi) (hi2 : hi < 2147483647) : (if x < nI lo then A else (if x < nI (hi + 1) then B else A)) = A := by
  by_cases c : x < nI lo
  · rw [if_pos c]
  · rcases h with h | h
    · exact absurd h c
    · rw [if_neg c, if_neg (by
        have h1 := nI_toInt (n := hi) (by omega)
        have h2 := nI_toInt (n := hi + 1) (by omega)
        rw [Int32.lt_iff_toInt_lt] at h ⊢; omega)]
theorem good_iflt {α : Type} {j lo hi : Nat} {A B : α} (h1 : lo ≤ j) (h2 : j ≤ hi) (hi2 : hi < 2147483647) : (if nI j < nI lo then A else (if nI j < nI (hi + 1) then B else A)) = B := by
  rw [if_neg (nI_nlt h1 (by omega)), if_pos (nI_lt (by omega) (by omega))]
theorem k_1023 : (1023 : Int32) = nI 1023 := rfl
theorem k_99 : (99 : Int32) = nI 99 := rfl
theorem k_33 : (33 : Int32) = nI 33 := rfl
theorem k_126 : (126 : Int32) = nI 126 := rfl
theorem k_1888 : (1888 : Int32) = nI 1888 := rfl
theorem k_61 : (61 : Int32) = nI 61 := rfl
theorem k_62 : (62 : Int32) = nI 62 := rfl
theorem k_31 : (31 : Int32) = nI 31 := rfl
theorem bI_0 {b : Bool} : (bI b = (0 : Int32)) ↔ b = false := by cases b <;> decide
/-! strike -/
theorem q_strike_bad {σ : Mem} {x : Int32} (h : bad x 0 1023) : X6_strike σ x = some (σ, Sum.inr 0) := by
  unfold X6_strike
  exact bad_if (lo := 0) (hi := 1023) h (by omega) (by omega)
theorem q_strike_no {σ : Mem} {w : Wd} {T s : Nat} (hP : ClP σ w) (ok : AsOk T (w_a w)) (hs : s < 1024) (hc : canS (w_a w) s = false) : X6_strike σ (nI s) = some (σ, Sum.inr 1) := by
  unfold X6_strike
  refine (good_if (lo := 0) (hi := 1023) (by omega) (by omega) (by omega)).trans ?_
  rw [x6_canStrike ok hP.1 hs, uB, if_pos (bI_0.mpr hc)]
theorem q_strike {σ : Mem} {w : Wd} {T s : Nat} (hP : ClP σ w) (hS : ClS σ) (ok : AsOk T (w_a w)) (hs : s < 1024) (hc : canS (w_a w) s = true) (hk : as_k (w_a w) + 1 ≤ 30 * T) : Ans (X6_strike σ (nI s)) σ (wA (wPush w) (asStk (w_a w) s)) (Sum.inl (nI (as_t (asStk (w_a w) s)))) := by
  obtain ⟨σ1, e1, h1, s1, o1⟩ := x6_push hP hS ok
  obtain ⟨σ2, e2, h2, s2, o2⟩ := x6_putOrEat h1 s1 ok hs hc
  have ok2 : AsOk T (asStk (w_a w) s) := asStk_ok hs ok hc hk
  obtain ⟨σ3, e3, h3, o3⟩ := x6_readPaper ok2 h2.1 s2.1
  refine ⟨σ3, ?_, h2.off o3 (by omega) (by omega), s2.read ok2 h3 o3, ((o1.mono (by omega) (by omega)).trans (o2.mono (by omega) (by omega))).trans (o3.mono (by omega) (by omega))⟩
  unfold X6_strike
  refine (good_if (lo := 0) (hi := 1023) (by omega) (by omega) (by omega)).trans ?_
  rw [x6_canStrike ok hP.1 hs, uB, if_neg (fun x => by rw [bI_0.mp x] at hc; cases hc), e1, uB, e2, uB, e3, uB, x6_size, uB]
  dsimp only
  rw [h3.1.1]
/-! tear -/
def asTear (a : As) : As := ((0, as_p a), a.2)
theorem q_tear {σ : Mem} {w : Wd} {T : Nat} (hP : ClP σ w) (hS : ClS σ) (ok : AsOk T (w_a w)) : Ans1 (X6_tear σ) σ (wA (wPush w) (asTear (w_a w))) (nI (as_N (w_a w))) := by
  obtain ⟨σ1, e1, h1, s1, o1⟩ := x6_push hP hS ok
  have hN := ok.1
  obtain ⟨σ2, e2, g2, o2⟩ := x3_shorten0 (i := 1) h1.1.1 (by show as_N (w_a w) ≤ 62; omega)
  refine ⟨σ2, ?_, h1.upd0 (o2.mono (by omega) (by omega)) ⟨g2, h1.1.2.1.off o2 (by omega), ?_⟩, s1.off o2 (by omega), (o1.mono (by omega) (by omega)).trans (o2.mono (by omega) (by omega))⟩
  · unfold X6_tear X3_length
    rw [e1, uB, uB]
    dsimp only
    rw [e2, uB, h1.1.1.1]; rfl
  · rw [(o2 0 (by omega)).1]; exact h1.1.2.2
/-! remove, set -/
def asE (a : As) (E : En) : As := (a.1, E, a.2.2)
theorem StC.ent {σ σ' : Mem} {a : As} {E : En} (h : StC σ 0 a) (o : Off 3 7 σ σ') (hE : EnC σ' 3 E) : StC σ' 0 (asE a E) := by
  obtain ⟨h1, h2, h3⟩ := h
  refine ⟨h1.off o (by omega), hE, ?_⟩
  rw [(o 0 (by omega)).1]; exact h3
theorem q_remove_bad {σ : Mem} {w : Wd} (hP : ClP σ w) {x : Int32} (hx : x < 0 ∨ nI (en_m (as_E (w_a w))) ≤ x) : X6_remove σ x = some (σ, Sum.inr 2) := by
  unfold X6_remove
  rw [x0_has_f hP.1.2.1 hx, uB, if_pos rfl]
theorem q_remove {σ : Mem} {w : Wd} {T e : Nat} (hP : ClP σ w) (hS : ClS σ) (ok : AsOk T (w_a w)) (he : e < en_m (as_E (w_a w))) : Ans (X6_remove σ (nI e)) σ (wA (wPush w) (asE (w_a w) (enTake (as_E (w_a w)) e))) (Sum.inl (nI (en_m (as_E (w_a w)) - 1))) := by
  obtain ⟨σ1, e1, h1, s1, o1⟩ := x6_push hP hS ok
  obtain ⟨σ2, e2, g2, o2⟩ := x0_takeAway (i := 3) h1.1.2.1 ok.2.2.1 he
  refine ⟨σ2, ?_, h1.upd0 (o2.mono (by omega) (by omega)) (h1.1.ent (o2.mono (by omega) (by omega)) g2), s1.off o2 (by omega), (o1.mono (by omega) (by omega)).trans (o2.mono (by omega) (by omega))⟩
  unfold X6_remove X0_size
  rw [x0_has_t hP.1.2.1 ok.2.2.1 he, uB, if_neg one_ne, e1, uB, e2, uB, uB]
  dsimp only
  rw [g2.1]; rfl
def asSet (a : As) (i v : Nat) : As := (a.1, a.2.1, (if i = 0 then (v, as_g a) else (as_s a, v)), a.2.2.2)
def asGet (a : As) (i : Nat) : Nat := if i = 0 then as_s a else as_g a
theorem q_set_bad {σ : Mem} {x y : Int32} (h : bad x 0 1) : X6_set σ x y = some (σ, Sum.inr 2) := by
  unfold X6_set
  exact bad_iflt (lo := 0) (hi := 1) h (by omega) (by omega)
theorem q_canBeSet {σ : Mem} {i : Nat} (hi : i ≤ 1) {y : Int32} : (bad y i (if i = 0 then 1 else 4) → X6_canBeSet σ (nI i) y = some (σ, 0)) ∧ (∀ v, i ≤ v → v ≤ (if i = 0 then 1 else 4) → y = nI v → X6_canBeSet σ (nI i) y = some (σ, 1)) := by
  rcases (show i = 0 ∨ i = 1 by omega) with c | c
  · subst c
    refine ⟨fun h => ?_, fun v h1 h2 h3 => ?_⟩
    · unfold X6_canBeSet
      have h0 : ¬ y = 0 ∧ ¬ y = 1 := by
        rcases h with h | h
        · have h : y < (0 : Int32) := h
          refine ⟨fun e => ?_, fun e => ?_⟩ <;> subst e <;> exact absurd h (by decide)
        · have h : (1 : Int32) < y := h
          refine ⟨fun e => ?_, fun e => ?_⟩ <;> subst e <;> exact absurd h (by decide)
      rw [if_pos (show nI 0 = 0 from rfl), if_neg h0.1, if_neg h0.2]
    · rw [if_pos rfl] at h2
      subst h3
      unfold X6_canBeSet
      rw [if_pos (show nI 0 = 0 from rfl)]
      rcases (show v = 0 ∨ v = 1 by omega) with c | c <;> subst c <;> rfl
  · subst c
    refine ⟨fun h => ?_, fun v h1 h2 h3 => ?_⟩
    · unfold X6_canBeSet
      rw [if_neg (show ¬ nI 1 = 0 by decide)]
      rw [if_neg (by omega)] at h
      rcases h with h | h
      · rw [if_pos (show y < 1 from h)]
      · by_cases c : y < 1
        · rw [if_pos c]
        · rw [if_neg c, if_pos (show (4 : Int32) < y from h)]
    · rw [if_neg (by omega)] at h2
      subst h3
      unfold X6_canBeSet
      rw [if_neg (show ¬ nI 1 = 0 by decide), if_neg (show ¬ nI v < (1 : Int32) from nI_nlt (a := v) (b := 1) (by omega) (by omega)), if_neg (show ¬ (4 : Int32) < nI v from nI_nlt (a := 4) (by omega) (by omega))]
