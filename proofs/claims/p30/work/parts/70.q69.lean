/-! READING: what the class takes at a place, what the document asks, the places of the items -/
abbrev shf (q : Nat → Nat) (pl : Nat) : Nat → Nat := fun t => q (pl + t)
def atE (E : En) (lg N : Nat) (q : Nat → Nat) (pl e : Nat) : Prop := e < en_m E ∧ en_l E e ≤ lg ∧ pl + en_l E e ≤ N ∧ ∀ k, k < en_l E e → q (pl + k) = en_r E e k
def leadP (E : En) (e : Nat) : Prop := ∀ e', e' < en_m E → en_k E e' = en_k E e → en_p E e' < en_p E e ∨ (en_p E e' = en_p E e ∧ e ≤ e')
def szf (E : En) (lg N : Nat) (q : Nat → Nat) (pl : Nat) : Nat := max 1 (lgst E q pl (min lg (N - pl)))
def stf (E : En) (lg N : Nat) (q : Nat → Nat) (pl : Nat) : Option Nat := ldr E (pac (shf q pl) (szf E lg N q pl)) (en_m E)
/-- what a paper holds -/
def ShOk (N : Nat) (q : Nat → Nat) : Prop := ∀ t, t < N → 1 ≤ q t ∧ q t < 1024
theorem szf_1 (E : En) (lg N : Nat) (q : Nat → Nat) (pl : Nat) : 1 ≤ szf E lg N q pl := Nat.le_max_left _ _
theorem szf_N {E : En} {lg N : Nat} {q : Nat → Nat} {pl : Nat} (h : pl < N) : pl + szf E lg N q pl ≤ N := by
  have := lgst_le E q pl (min lg (N - pl))
  unfold szf
  omega
theorem szf_4 {E : En} {lg N : Nat} {q : Nat → Nat} {pl : Nat} (h : lg ≤ 4) : szf E lg N q pl ≤ 4 := by
  have := lgst_le E q pl (min lg (N - pl))
  unfold szf
  omega
theorem lgst_no {E : En} {q : Nat → Nat} {pl : Nat} : ∀ {L k : Nat}, lgst E q pl L < k → k ≤ L → ldr E (pac (shf q pl) k) (en_m E) = none
  | 0, k, h, h2 => by omega
  | L + 1, k, h, h2 => by
    rw [lgst] at h
    cases hl : ldr E (pac (fun t => q (pl + t)) (L + 1)) (en_m E) with
    | none =>
      rw [hl] at h
      by_cases c : k = L + 1
      · subst c; exact hl
      · exact lgst_no h (by omega)
    | some e =>
      rw [hl] at h
      have h : L + 1 < k := h
      omega
theorem lgst_yes {E : En} {q : Nat → Nat} {pl : Nat} : ∀ {L : Nat}, lgst E q pl L = 0 ∨ ∃ e, ldr E (pac (shf q pl) (lgst E q pl L)) (en_m E) = some e
  | 0 => Or.inl rfl
  | L + 1 => by
    rw [lgst]
    cases hl : ldr E (pac (fun t => q (pl + t)) (L + 1)) (en_m E) with
    | none => exact lgst_yes
    | some e => exact Or.inr ⟨e, hl⟩
theorem k_at {E : En} (ok : EnOk E) {N pl L e : Nat} {q : Nat → Nat} (hq : ShOk N q) (hp : pl + L ≤ N) (he : e < en_m E) : en_k E e = pac (shf q pl) L ↔ (en_l E e = L ∧ ∀ k, k < en_l E e → q (pl + k) = en_r E e k) := by
  unfold en_k
  rw [pac_inj (fun t ht => (ok.2 e he).2.1 t ht) (fun t ht => hq (pl + t) (by omega))]
  exact ⟨fun h => ⟨h.1, fun k hk => (h.2 k hk).symm⟩, fun h => ⟨h.1, fun k hk => (h.2 k hk).symm⟩⟩
theorem at_le {E : En} (ok : EnOk E) {lg N pl e : Nat} {q : Nat → Nat} (hq : ShOk N q) (h : atE E lg N q pl e) : en_l E e ≤ lgst E q pl (min lg (N - pl)) := by
  obtain ⟨h1, h2, h3, h4⟩ := h
  rcases Nat.lt_or_ge (lgst E q pl (min lg (N - pl))) (en_l E e) with c | c
  · have h5 := lgst_no c (by omega)
    exact absurd ((k_at ok hq h3 h1).mpr ⟨rfl, h4⟩) (ldr_none.mp h5 e h1)
  · exact c
theorem at_szf {E : En} (ok : EnOk E) {lg N pl e : Nat} {q : Nat → Nat} (hq : ShOk N q) (h : atE E lg N q pl e) : en_l E e ≤ szf E lg N q pl := Nat.le_trans (at_le ok hq h) (Nat.le_max_right _ _)
theorem stf_some {E : En} (ok : EnOk E) {lg N pl e : Nat} {q : Nat → Nat} (hq : ShOk N q) (hp : pl < N) (hl : 1 ≤ lg) (h : stf E lg N q pl = some e) : atE E lg N q pl e ∧ en_l E e = szf E lg N q pl ∧ leadP E e := by
  obtain ⟨h1, h2, h3⟩ := ldr_some h
  have h4 := szf_N (E := E) (lg := lg) (q := q) hp
  obtain ⟨h5, h6⟩ := (k_at ok hq h4 h1).mp h2
  refine ⟨⟨h1, ?_, by omega, h6⟩, h5, fun e' he' hk => h3 e' he' (hk.trans h2)⟩
  have := lgst_le E q pl (min lg (N - pl))
  rw [h5]
  unfold szf
  omega
theorem stf_none {E : En} (ok : EnOk E) {lg N pl : Nat} {q : Nat → Nat} (hq : ShOk N q) (hp : pl < N) (hl : 1 ≤ lg) (h : stf E lg N q pl = none) : szf E lg N q pl = 1 ∧ ∀ e, ¬ atE E lg N q pl e := by
  have h0 : lgst E q pl (min lg (N - pl)) = 0 := by
    rcases lgst_yes (E := E) (q := q) (pl := pl) (L := min lg (N - pl)) with c | ⟨e, c⟩
    · exact c
    · rcases Nat.eq_zero_or_pos (lgst E q pl (min lg (N - pl))) with c2 | c2
      · exact c2
      · have h1 : szf E lg N q pl = lgst E q pl (min lg (N - pl)) := by unfold szf; omega
        unfold stf at h
        rw [h1, c] at h
        cases h
  refine ⟨by unfold szf; rw [h0]; rfl, fun e he => ?_⟩
  have := at_le ok hq he
  have := (ok.2 e he.1).1
  omega
theorem lead_ldr {E : En} {e : Nat} (he : e < en_m E) : ldr E (en_k E e) (en_m E) = some e ↔ leadP E e := by
  refine ⟨fun h => ?_, fun h => ?_⟩
  · exact (ldr_some h).2.2
  · cases hl : ldr E (en_k E e) (en_m E) with
    | none => exact absurd rfl (ldr_none.mp hl e he)
    | some e0 =>
      obtain ⟨h1, h2, h3⟩ := ldr_some hl
      have a1 := h3 e he rfl
      have a2 := h e0 h1 h2
      have : e0 = e := by omega
      rw [this]
/-- one lead only -/
theorem lead_one {E : En} {e e' : Nat} (he : e < en_m E) (he' : e' < en_m E) (h : leadP E e) (h' : leadP E e') (hk : en_k E e = en_k E e') : e = e' := by
  have a1 := h e' he' hk.symm
  have a2 := h' e he hk
  omega
/-- places of items -/
def posf (E : En) (lg N : Nat) (q : Nat → Nat) : Nat → Nat
  | 0 => 0
  | i + 1 => posf E lg N q i + szf E lg N q (posf E lg N q i)
def Items (E : En) (lg N : Nat) (q : Nat → Nat) (t : Nat) : Prop := posf E lg N q t = N ∧ ∀ i, i < t → posf E lg N q i < N
theorem posf_le (E : En) (lg N : Nat) (q : Nat → Nat) : ∀ i, i ≤ posf E lg N q i
  | 0 => Nat.le_refl _
  | i + 1 => by
    have := posf_le E lg N q i
    have := szf_1 E lg N q (posf E lg N q i)
    rw [posf]; omega
theorem posf_lt (E : En) (lg N : Nat) (q : Nat → Nat) {i : Nat} : ∀ {j : Nat}, i < j → posf E lg N q i < posf E lg N q j
  | 0, h => absurd h (by omega)
  | j + 1, h => by
    have := szf_1 E lg N q (posf E lg N q j)
    rw [posf]
    by_cases c : i = j
    · rw [c]; omega
    · have := posf_lt E lg N q (i := i) (j := j) (by omega)
      omega
theorem items_from (E : En) (lg N : Nat) (q : Nat → Nat) : ∀ (r i : Nat), N - posf E lg N q i ≤ r → posf E lg N q i ≤ N → (∀ k, k < i → posf E lg N q k < N) → ∃ t, Items E lg N q t
  | 0, i, h, h2, h3 => ⟨i, by omega, h3⟩
  | r + 1, i, h, h2, h3 => by
    by_cases c : posf E lg N q i = N
    · exact ⟨i, c, h3⟩
    · have h4 := szf_N (E := E) (lg := lg) (q := q) (pl := posf E lg N q i) (N := N) (by omega)
      have h5 := szf_1 E lg N q (posf E lg N q i)
      refine items_from E lg N q r (i + 1) (by rw [posf]; omega) (by rw [posf]; omega) (fun k hk => ?_)
      by_cases c2 : k = i
      · rw [c2]; omega
      · exact h3 k (by omega)
theorem items_ex (E : En) (lg N : Nat) (q : Nat → Nat) : ∃ t, Items E lg N q t := items_from E lg N q N 0 (by omega) (Nat.zero_le _) (fun k hk => absurd hk (by omega))
theorem items_one {E : En} {lg N : Nat} {q : Nat → Nat} {t u : Nat} (h : Items E lg N q t) (h2 : Items E lg N q u) : t = u := by
  rcases Nat.lt_trichotomy t u with c | c | c
  · have := h2.2 t c; have := h.1; omega
  · exact c
  · have := h.2 u c; have := h2.1; omega
theorem items_le {E : En} {lg N : Nat} {q : Nat → Nat} {t : Nat} (h : Items E lg N q t) : t ≤ N := by
  have := posf_le E lg N q t
  have := h.1
  omega
theorem items_pos {E : En} {lg N : Nat} {q : Nat → Nat} {t : Nat} (h : Items E lg N q t) (hN : 0 < N) : 0 < t := by
  rcases Nat.eq_zero_or_pos t with c | c
  · subst c; have := h.1; rw [posf] at this; omega
  · exact c
/-- the reference's own choice -/
def rAt (E : En) (lg N : Nat) (q : Nat → Nat) (pl : Nat) (B : Nat → Bool) : Nat → Option Nat
  | 0 => none
  | e + 1 => match rAt E lg N q pl B e with
    | none => if B e = true then some e else none
    | some f => if en_l E f < en_l E e ∧ B e = true then some e else some f
theorem rAt_none {E : En} {lg N : Nat} {q : Nat → Nat} {pl : Nat} {B : Nat → Bool} : ∀ {n : Nat}, rAt E lg N q pl B n = none → ∀ e, e < n → B e = false
  | 0, _, e, h => absurd h (by omega)
  | n + 1, h, e, he => by
    rw [rAt] at h
    cases hr : rAt E lg N q pl B n with
    | none =>
      rw [hr] at h
      have h : (if B n = true then some n else none) = none := h
      by_cases c : B n = true
      · rw [if_pos c] at h; cases h
      · by_cases c2 : e = n
        · rw [c2]; exact Bool.eq_false_iff.mpr c
        · exact rAt_none hr e (by omega)
    | some f =>
      rw [hr] at h
      have h : (if en_l E f < en_l E n ∧ B n = true then some n else some f) = none := h
      split at h <;> cases h
theorem rAt_some {E : En} {lg N : Nat} {q : Nat → Nat} {pl : Nat} {B : Nat → Bool} : ∀ {n e : Nat}, rAt E lg N q pl B n = some e → e < n ∧ B e = true ∧ ∀ e', e' < n → B e' = true → en_l E e' ≤ en_l E e
  | 0, e, h => by cases h
  | n + 1, e, h => by
    rw [rAt] at h
    cases hr : rAt E lg N q pl B n with
    | none =>
      rw [hr] at h
      have h : (if B n = true then some n else none) = some e := h
      have h0 := rAt_none hr
      by_cases c : B n = true
      · rw [if_pos c] at h
        cases h
        refine ⟨by omega, c, fun e' he' hb => ?_⟩
        by_cases c2 : e' = n
        · rw [c2]; exact Nat.le_refl _
        · have := h0 e' (by omega); rw [hb] at this; cases this
      · rw [if_neg c] at h; cases h
    | some f =>
      rw [hr] at h
      have h : (if en_l E f < en_l E n ∧ B n = true then some n else some f) = some e := h
      obtain ⟨h1, h2, h3⟩ := rAt_some hr
      by_cases c : en_l E f < en_l E n ∧ B n = true
      · rw [if_pos c] at h
        cases h
        refine ⟨by omega, c.2, fun e' he' hb => ?_⟩
        by_cases c2 : e' = n
        · rw [c2]; exact Nat.le_refl _
        · have := h3 e' (by omega) hb; have := c.1; omega
      · rw [if_neg c] at h
        cases h
        refine ⟨by omega, h2, fun e' he' hb => ?_⟩
        by_cases c2 : e' = n
        · subst c2
          have : ¬ en_l E e < en_l E e' := fun x => c ⟨x, hb⟩
          omega
        · exact h3 e' (by omega) hb
theorem rAt_stf {E : En} (ok : EnOk E) {lg N pl : Nat} {q : Nat → Nat} (hq : ShOk N q) (hp : pl < N) (hl : 1 ≤ lg) {B : Nat → Bool} (hB : ∀ e, e < en_m E → (B e = true ↔ atE E lg N q pl e ∧ leadP E e)) : rAt E lg N q pl B (en_m E) = stf E lg N q pl := by
  cases hs : stf E lg N q pl with
  | none =>
    cases hr : rAt E lg N q pl B (en_m E) with
    | none => rfl
    | some e =>
      obtain ⟨h1, h2, h3⟩ := rAt_some hr
      exact absurd ((hB e h1).mp h2).1 ((stf_none ok hq hp hl hs).2 e)
  | some e =>
    obtain ⟨h1, h2, h3⟩ := stf_some ok hq hp hl hs
    have hb := (hB e h1.1).mpr ⟨h1, h3⟩
    cases hr : rAt E lg N q pl B (en_m E) with
    | none => have := rAt_none hr e h1.1; rw [hb] at this; cases this
    | some f =>
      obtain ⟨g1, g2, g3⟩ := rAt_some hr
      obtain ⟨g4, g5⟩ := (hB f g1).mp g2
      have a1 := g3 e h1.1 hb
      have a2 := at_szf ok hq g4
      have hlen : en_l E f = en_l E e := by omega
      have hk : en_k E e = en_k E f := by
        have b1 := (k_at ok hq h1.2.2.1 h1.1).mpr ⟨rfl, h1.2.2.2⟩
        have b2 := (k_at ok hq h1.2.2.1 g1).mpr ⟨hlen, g4.2.2.2⟩
        rw [b1, b2]
      rw [lead_one h1.1 g1 h3 g5 hk]
theorem szf_stf {E : En} (ok : EnOk E) {lg N pl : Nat} {q : Nat → Nat} (hq : ShOk N q) (hp : pl < N) (hl : 1 ≤ lg) : szf E lg N q pl = (match stf E lg N q pl with | none => 1 | some e => en_l E e) := by
  cases hs : stf E lg N q pl with
  | none => exact (stf_none ok hq hp hl hs).1
  | some e => exact (stf_some ok hq hp hl hs).2.1.symm
