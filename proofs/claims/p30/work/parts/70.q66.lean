/-! ENTRIES: how many, how long the row of each is, its strokes, its word, how often it was picked -/
abbrev En : Type := Nat × (Nat → Nat) × (Nat → Nat → Nat) × (Nat → Nat) × (Nat → Nat)
abbrev en_m (E : En) : Nat := E.1
abbrev en_l (E : En) : Nat → Nat := E.2.1
abbrev en_r (E : En) : Nat → Nat → Nat := E.2.2.1
abbrev en_w (E : En) : Nat → Nat := E.2.2.2.1
abbrev en_p (E : En) : Nat → Nat := E.2.2.2.2
def en_k (E : En) (e : Nat) : Nat := pac (en_r E e) (en_l E e)
def EnOk (E : En) : Prop := en_m E ≤ 24 ∧ ∀ e, e < en_m E → (1 ≤ en_l E e ∧ en_l E e ≤ 4) ∧ (∀ k, k < en_l E e → 1 ≤ en_r E e k ∧ en_r E e k < 1024) ∧ en_w E e < 100 ∧ en_p E e ≤ 512
def EnC (σ : Mem) (i : Nat) (E : En) : Prop := σ.1 i 3 = nI (en_m E) ∧ ∀ e, e < en_m E → σ.2 (i + 1) e = lN (en_k E e) ∧ σ.1 (i + 2) e = nI (en_w E e) ∧ σ.1 (i + 3) e = nI (en_p E e)
theorem EnC.off {σ σ' : Mem} {i lo hi : Nat} {E : En} (h : EnC σ i E) (o : Off lo hi σ σ') (hi' : i + 3 < lo ∨ hi ≤ i) : EnC σ' i E := by
  refine ⟨?_, fun e he => ?_⟩
  · rw [(o i (by omega)).1]; exact h.1
  · rw [(o (i + 1) (by omega)).2, (o (i + 2) (by omega)).1, (o (i + 3) (by omega)).1]; exact h.2 e he
theorem p_1024_le {k : Nat} (h : k ≤ 4) : 1024 ^ k ≤ 1099511627776 := by
  have := Nat.pow_le_pow_right (n := 1024) (by decide) h
  exact Nat.le_trans this (by decide)
theorem EnOk.klt {E : En} (h : EnOk E) {e : Nat} (he : e < en_m E) : en_k E e < 1099511627776 := Nat.lt_of_lt_of_le (pac_lt (fun t ht => ((h.2 e he).2.1 t ht).2)) (p_1024_le (h.2 e he).1.2)
theorem pac_lt4 {q : Nat → Nat} {L : Nat} (hL : L ≤ 4) (hq : ∀ t, t < L → q t < 1024) : pac q L < 1099511627776 := Nat.lt_of_lt_of_le (pac_lt hq) (p_1024_le hL)
theorem c_cmp_t {a b : Nat} (h : a = b) : (lg_cmp (lN a) (lN b) = nI 0) = True := eq_true ((lg_cmp_eq _ _).mpr (by rw [h]))
theorem c_cmp_f {a b : Nat} (h : a ≠ b ∧ a < 9223372036854775808 ∧ b < 9223372036854775808) : (lg_cmp (lN a) (lN b) = nI 0) = False := eq_false (fun e => h.1 ((pk_lEQ h.2.1 h.2.2).mp ((lg_cmp_eq _ _).mp e)))
theorem x0_has_t {σ : Mem} {i e : Nat} {E : En} (h : EnC σ i E) (ok : EnOk E) (he : e < en_m E) : X0_has i σ (nI e) = some (σ, 1) := by
  have := ok.1
  simp (disch := omega) only [X0_has, h.1, uB, ofn, k_0, k_1, k_2, k_3, k_4, k_5, k_6, k_7, k_8, k_9, k_10, k_24, k_60, k_68, k_236, c_le_t, c_le_f, c_lt_t, c_lt_f, c_eq_t, c_eq_f, c_m1_f, c_m1_f', c_m1_lt, c_m1_nlt, c_m1_le, c_m1_nle, c_inA, c_cl, c_sub, c_add, if_false, if_true]
theorem x0_has_f {σ : Mem} {i : Nat} {E : En} (h : EnC σ i E) {x : Int32} (hx : x < 0 ∨ nI (en_m E) ≤ x) : X0_has i σ x = some (σ, 0) := by
  unfold X0_has
  rw [h.1]
  rcases hx with hx | hx
  · rw [if_pos hx]
  · by_cases h0 : x < 0
    · rw [if_pos h0]
    · rw [if_neg h0, if_pos hx]
theorem x0_rowOf {σ : Mem} {i e : Nat} {E : En} (h : EnC σ i E) (ok : EnOk E) (he : e < en_m E) : X0_rowOf i σ (nI e) = some (σ, lN (en_k E e)) := by
  have := ok.1
  unfold X0_rowOf
  rw [x0_has_t h ok he, uB, if_neg one_ne]
  simp (disch := omega) only [uB, ofn, k_0, k_1, k_2, k_3, k_4, k_5, k_6, k_7, k_8, k_9, k_10, k_24, k_60, k_68, k_236, c_le_t, c_le_f, c_lt_t, c_lt_f, c_eq_t, c_eq_f, c_m1_f, c_m1_f', c_m1_lt, c_m1_nlt, c_m1_le, c_m1_nle, c_inA, c_cl, c_sub, c_add, if_false, if_true, (h.2 e he).1]
theorem x0_wordOf {σ : Mem} {i e : Nat} {E : En} (h : EnC σ i E) (ok : EnOk E) (he : e < en_m E) : X0_wordOf i σ (nI e) = some (σ, nI (en_w E e)) := by
  have := ok.1
  unfold X0_wordOf
  rw [x0_has_t h ok he, uB, if_neg one_ne]
  simp (disch := omega) only [uB, ofn, k_0, k_1, k_2, k_3, k_4, k_5, k_6, k_7, k_8, k_9, k_10, k_24, k_60, k_68, k_236, c_le_t, c_le_f, c_lt_t, c_lt_f, c_eq_t, c_eq_f, c_m1_f, c_m1_f', c_m1_lt, c_m1_nlt, c_m1_le, c_m1_nle, c_inA, c_cl, c_sub, c_add, if_false, if_true, (h.2 e he).2.1]
theorem x0_picksOf {σ : Mem} {i e : Nat} {E : En} (h : EnC σ i E) (ok : EnOk E) (he : e < en_m E) : X0_picksOf i σ (nI e) = some (σ, nI (en_p E e)) := by
  have := ok.1
  unfold X0_picksOf
  rw [x0_has_t h ok he, uB, if_neg one_ne]
  simp (disch := omega) only [uB, ofn, k_0, k_1, k_2, k_3, k_4, k_5, k_6, k_7, k_8, k_9, k_10, k_24, k_60, k_68, k_236, c_le_t, c_le_f, c_lt_t, c_lt_f, c_eq_t, c_eq_f, c_m1_f, c_m1_f', c_m1_lt, c_m1_nlt, c_m1_le, c_m1_nle, c_inA, c_cl, c_sub, c_add, if_false, if_true, (h.2 e he).2.2]
def oN : Option Nat → Int32
  | none => -1
  | some e => nI e
theorem x0_wordOf_o {σ : Mem} {i : Nat} {E : En} (h : EnC σ i E) (ok : EnOk E) {o : Option Nat} (ho : ∀ e, o = some e → e < en_m E) : X0_wordOf i σ (oN o) = some (σ, oN (o.map (en_w E))) := by
  cases o with
  | none =>
    unfold X0_wordOf
    rw [x0_has_f h (Or.inl (by decide)), uB, if_pos rfl]
    rfl
  | some e => exact x0_wordOf h ok (ho e rfl)
/-- the leading one of the first entries with a row -/
def ldr (E : En) (R : Nat) : Nat → Option Nat
  | 0 => none
  | e + 1 => match ldr E R e with
    | none => if en_k E e = R then some e else none
    | some e0 => if en_k E e = R ∧ en_p E e0 < en_p E e then some e else some e0
theorem ldr_none {E : En} {R : Nat} : ∀ {n : Nat}, ldr E R n = none ↔ ∀ e, e < n → en_k E e ≠ R
  | 0 => ⟨fun _ e he => absurd he (by omega), fun _ => rfl⟩
  | n + 1 => by
    rw [ldr]
    cases hl : ldr E R n with
    | none =>
      have ih := ldr_none.mp hl
      show (if en_k E n = R then some n else none) = none ↔ _
      by_cases c : en_k E n = R
      · rw [if_pos c]
        exact ⟨fun h => (by cases h), fun h => absurd c (h n (by omega))⟩
      · rw [if_neg c]
        refine ⟨fun _ e he => ?_, fun _ => rfl⟩
        by_cases e1 : e = n
        · rw [e1]; exact c
        · exact ih e (by omega)
    | some e0 =>
      show (if en_k E n = R ∧ en_p E e0 < en_p E n then some n else some e0) = none ↔ _
      refine ⟨fun h => ?_, fun h => ?_⟩
      · split at h <;> cases h
      · have : ldr E R n = none := ldr_none.mpr (fun e he => h e (by omega))
        rw [this] at hl; cases hl
theorem ldr_some {E : En} {R : Nat} : ∀ {n e : Nat}, ldr E R n = some e → e < n ∧ en_k E e = R ∧ ∀ e', e' < n → en_k E e' = R → en_p E e' < en_p E e ∨ (en_p E e' = en_p E e ∧ e ≤ e')
  | 0, e, h => by cases h
  | n + 1, e, h => by
    rw [ldr] at h
    cases hl : ldr E R n with
    | none =>
      rw [hl] at h
      have h : (if en_k E n = R then some n else none) = some e := h
      have ih := ldr_none.mp hl
      by_cases c : en_k E n = R
      · rw [if_pos c] at h
        cases h
        refine ⟨by omega, c, fun e' he' hk => ?_⟩
        by_cases e1 : e' = n
        · subst e1; exact Or.inr ⟨rfl, Nat.le_refl _⟩
        · exact absurd hk (ih e' (by omega))
      · rw [if_neg c] at h; cases h
    | some e0 =>
      rw [hl] at h
      have h : (if en_k E n = R ∧ en_p E e0 < en_p E n then some n else some e0) = some e := h
      obtain ⟨h1, h2, h3⟩ := ldr_some hl
      by_cases c : en_k E n = R ∧ en_p E e0 < en_p E n
      · rw [if_pos c] at h
        cases h
        refine ⟨by omega, c.1, fun e' he' hk => ?_⟩
        by_cases e1 : e' = n
        · subst e1; exact Or.inr ⟨rfl, Nat.le_refl _⟩
        · have := h3 e' (by omega) hk
          have := c.2
          omega
      · rw [if_neg c] at h
        cases h
        refine ⟨by omega, h2, fun e' he' hk => ?_⟩
        by_cases e1 : e' = n
        · subst e1
          have : ¬ en_p E e < en_p E e' := fun x => c ⟨hk, x⟩
          omega
        · exact h3 e' (by omega) hk
/-- how often the leading one so far was picked -/
def lmost (E : En) : Option Nat → Int32
  | none => -1
  | some e => nI (en_p E e)
theorem x0_leaderOf_8 {i R : Nat} {E : En} (K : Mem → Int32 → Option (Mem × Int32)) {σ : Mem} (h : EnC σ i E) (ok : EnOk E) (hR : R < 9223372036854775808) : ∀ (r e fu : Nat), e + r = en_m E → r < fu → X0_leaderOf_8 i K fu σ (lN R) (oN (ldr E R e)) (lmost E (ldr E R e)) (nI e) = K σ (oN (ldr E R (en_m E)))
  | 0, e, 0, _, h => absurd h (by omega)
  | r + 1, e, 0, _, h => absurd h (by omega)
  | 0, e, fu + 1, h1, _ => by
    have : e = en_m E := by omega
    subst this
    have := ok.1
    rw [X0_leaderOf_8, h.1, if_pos (nI_le (by omega) (by omega))]
  | r + 1, e, fu + 1, h1, h2 => by
    have hm := ok.1
    have he : e < en_m E := by omega
    have hk := ok.klt he
    have hp := (ok.2 e he).2.2.2
    have ih := x0_leaderOf_8 K h ok hR r (e + 1) fu (by omega) (by omega)
    rw [X0_leaderOf_8, h.1]
    simp (disch := omega) only [uB, ofn, k_0, k_1, k_2, k_3, k_4, k_5, k_6, k_7, k_8, k_9, k_10, k_24, k_60, k_68, k_236, c_le_t, c_le_f, c_lt_t, c_lt_f, c_eq_t, c_eq_f, c_m1_f, c_m1_f', c_m1_lt, c_m1_nlt, c_m1_le, c_m1_nle, c_inA, c_cl, c_sub, c_add, if_false, if_true, (h.2 e he).1, (h.2 e he).2.2]
    by_cases c : en_k E e = R
    · simp (disch := omega) only [c_cmp_t c, if_true]
      cases hl : ldr E R e with
      | none =>
        have e1 : ldr E R (e + 1) = some e := by rw [ldr, hl]; exact if_pos c
        rw [e1] at ih
        show (if nI (en_p E e) ≤ (-1 : Int32) then _ else _) = _
        simp (disch := omega) only [c_m1_nle, if_false]
        exact ih
      | some e0 =>
        have he0 := (ldr_some hl).1
        have hp0 := (ok.2 e0 (by omega)).2.2.2
        show (if nI (en_p E e) ≤ nI (en_p E e0) then _ else _) = _
        by_cases c2 : en_p E e0 < en_p E e
        · have e1 : ldr E R (e + 1) = some e := by rw [ldr, hl]; exact if_pos ⟨c, c2⟩
          rw [e1] at ih
          simp (disch := omega) only [c_le_f, if_false]
          exact ih
        · have e1 : ldr E R (e + 1) = some e0 := by rw [ldr, hl]; exact if_neg (fun x => c2 x.2)
          rw [e1] at ih
          simp (disch := omega) only [c_le_t, if_true]
          exact ih
    · simp (disch := omega) only [c_cmp_f, if_false]
      have e1 : ldr E R (e + 1) = ldr E R e := by
        rw [ldr]
        cases hl : ldr E R e with
        | none => exact if_neg c
        | some e0 => exact if_neg (fun x => c x.1)
      rw [e1] at ih
      exact ih
theorem x0_leaderOf {i R : Nat} {E : En} {σ : Mem} (h : EnC σ i E) (ok : EnOk E) (hR : R < 9223372036854775808) : X0_leaderOf i σ (lN R) = some (σ, oN (ldr E R (en_m E))) :=
  x0_leaderOf_8 _ h ok hR (en_m E) 0 FU (by omega) (by have := ok.1; unfold FU; omega)
