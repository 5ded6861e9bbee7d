/-! THE REFERENCE: what it holds -/
def RE (s : Nat → Int32) (B : Nat) (E : En) : Prop := s (B + 1) = nI (en_m E) ∧ ∀ e, e < en_m E → s (B + 68 + 7 * e) = nI (en_l E e) ∧ (∀ k, k < 4 → s (B + 68 + 7 * e + 1 + k) = en_s E e k) ∧ s (B + 68 + 7 * e + 5) = nI (en_w E e) ∧ s (B + 68 + 7 * e + 6) = nI (en_p E e)
def RS (s : Nat → Int32) (B : Nat) (a : As) : Prop := s B = nI (as_N a) ∧ (∀ j, j < as_N a → s (B + 8 + j) = nI (as_p a j)) ∧ RE s B (as_E a) ∧ s (B + 2) = nI (as_s a) ∧ s (B + 3) = nI (as_g a) ∧ s (B + 4) = nI (as_k a) ∧ s (B + 5) = as_e a ∧ s (B + 6) = as_a a ∧ s (B + 7) = nI (as_y a)
theorem RE.cong {s s' : Nat → Int32} {B B' : Nat} {E : En} (h : RE s B E) (hm : en_m E ≤ 24) (hs : ∀ k, k < 236 → s' (B' + k) = s (B + k)) : RE s' B' E := by
  refine ⟨(hs 1 (by omega)).trans h.1, fun e he => ?_⟩
  obtain ⟨h1, h2, h3, h4⟩ := h.2 e he
  refine ⟨?_, fun k hk => ?_, ?_, ?_⟩
  · rw [← h1, Nat.add_assoc, Nat.add_assoc]; exact hs (68 + 7 * e) (by omega)
  · rw [← h2 k hk, show B' + 68 + 7 * e + 1 + k = B' + (68 + 7 * e + 1 + k) by omega, show B + 68 + 7 * e + 1 + k = B + (68 + 7 * e + 1 + k) by omega]; exact hs _ (by omega)
  · rw [← h3, show B' + 68 + 7 * e + 5 = B' + (68 + 7 * e + 5) by omega, show B + 68 + 7 * e + 5 = B + (68 + 7 * e + 5) by omega]; exact hs _ (by omega)
  · rw [← h4, show B' + 68 + 7 * e + 6 = B' + (68 + 7 * e + 6) by omega, show B + 68 + 7 * e + 6 = B + (68 + 7 * e + 6) by omega]; exact hs _ (by omega)
theorem RS.cong {s s' : Nat → Int32} {B B' : Nat} {a : As} (h : RS s B a) (hN : as_N a ≤ 60) (hm : en_m (as_E a) ≤ 24) (hs : ∀ k, k < 236 → s' (B' + k) = s (B + k)) : RS s' B' a := by
  obtain ⟨h1, h2, h3, h4, h5, h6, h7, h8, h9⟩ := h
  refine ⟨(hs 0 (by omega)).trans h1, fun j hj => ?_, h3.cong hm hs, (hs 2 (by omega)).trans h4, (hs 3 (by omega)).trans h5, (hs 4 (by omega)).trans h6, (hs 5 (by omega)).trans h7, (hs 6 (by omega)).trans h8, (hs 7 (by omega)).trans h9⟩
  rw [← h2 j hj, Nat.add_assoc, Nat.add_assoc]
  exact hs (8 + j) (by omega)
theorem x7_of (σ : Mem) {e x : Nat} (h : 68 + 7 * e + x < 1888) : X7_of σ (nI e) (nI x) = some (σ, σ.1 83 (68 + 7 * e + x)) := by
  unfold X7_of
  rw [k_68, k_7, pk_mul, nI_add, nI_add, if_pos (nI_inA h (by omega)), nI_clamp (by omega)]
theorem of_l {σ : Mem} {E : En} {e : Nat} (h : RE (σ.1 83) 0 E) (ok : EnOk E) (he : e < en_m E) : X7_of σ (nI e) (0 : Int32) = some (σ, nI (en_l E e)) := by
  have := ok.1
  rw [show (0 : Int32) = nI 0 from rfl, x7_of σ (by omega)]
  have := (h.2 e he).1
  rw [Nat.zero_add] at this
  rw [Nat.add_zero, this]
theorem of_s {σ : Mem} {E : En} {e k : Nat} (h : RE (σ.1 83) 0 E) (ok : EnOk E) (he : e < en_m E) (hk : k < 4) : X7_of σ (nI e) ((1 : Int32) + nI k) = some (σ, en_s E e k) := by
  have := ok.1
  rw [show (1 : Int32) + nI k = nI (1 + k) by rw [k_1, nI_add], x7_of σ (by omega)]
  have := (h.2 e he).2.1 k hk
  rw [Nat.zero_add] at this
  rw [← Nat.add_assoc, this]
theorem of_r {σ : Mem} {E : En} {e k : Nat} (h : RE (σ.1 83) 0 E) (ok : EnOk E) (he : e < en_m E) (hk : k < en_l E e) : X7_of σ (nI e) ((1 : Int32) + nI k) = some (σ, nI (en_r E e k)) := by
  have := (ok.2 e he).1
  rw [of_s h ok he (by omega)]
  unfold en_s
  rw [if_pos hk]
theorem of_w {σ : Mem} {E : En} {e : Nat} (h : RE (σ.1 83) 0 E) (ok : EnOk E) (he : e < en_m E) : X7_of σ (nI e) (5 : Int32) = some (σ, nI (en_w E e)) := by
  have := ok.1
  rw [show (5 : Int32) = nI 5 from rfl, x7_of σ (by omega)]
  have := (h.2 e he).2.2.1
  rw [Nat.zero_add] at this
  rw [this]
theorem of_p {σ : Mem} {E : En} {e : Nat} (h : RE (σ.1 83) 0 E) (ok : EnOk E) (he : e < en_m E) : X7_of σ (nI e) (6 : Int32) = some (σ, nI (en_p E e)) := by
  have := ok.1
  rw [show (6 : Int32) = nI 6 from rfl, x7_of σ (by omega)]
  have := (h.2 e he).2.2.2
  rw [Nat.zero_add] at this
  rw [this]
theorem RE.m {s : Nat → Int32} {E : En} (h : RE s 0 E) : s 1 = nI (en_m E) := h.1
theorem bI_and1 (b : Bool) : bI b &&& 1 = bI b := by cases b <;> decide
/-! rivals -/
theorem x7_riv_24 {σ : Mem} {E : En} (h : RE (σ.1 83) 0 E) (ok : EnOk E) {e d : Nat} (he : e < en_m E) (hd : d < en_m E) (hl : en_l E e = en_l E d) (K : Mem → Int32 → Option (Mem × Int32)) : ∀ (r v fu : Nat), v + r = en_l E e → r < fu → (∀ k, k < v → en_r E e k = en_r E d k) → X7_areRivals_24 K fu σ (nI e) (nI d) (1 : Int32) (nI v) = K σ (bI (decide (en_k E e = en_k E d)))
  | r, v, 0, _, h, _ => absurd h (by omega)
  | 0, v, fu + 1, h1, _, hk => by
    have hv : v = en_l E e := by omega
    have hle := (ok.2 e he).1
    have hke : en_k E e = en_k E d := (pac_inj (fun t ht => (ok.2 e he).2.1 t ht) (fun t ht => (ok.2 d hd).2.1 t ht)).mpr ⟨hl, fun t ht => hk t (by omega)⟩
    rw [X7_areRivals_24, of_l h ok he, uB, if_pos (nI_le (by omega) (by omega)), decide_eq_true hke]
    rfl
  | r + 1, v, fu + 1, h1, hf, hk => by
    have hle := (ok.2 e he).1
    have r1 := (ok.2 e he).2.1 v (by omega)
    have r2 := (ok.2 d hd).2.1 v (by omega)
    rw [X7_areRivals_24, of_l h ok he, uB, if_neg (nI_ge (by omega) (by omega)), if_neg one_ne, of_r h ok he (by omega), uB, of_r h ok hd (by omega), uB]
    dsimp only
    by_cases c : en_r E e v = en_r E d v
    · rw [if_pos (by rw [c]), nI_1]
      exact x7_riv_24 h ok he hd hl K r (v + 1) fu (by omega) (by omega) (fun k hk2 => by
        by_cases c2 : k = v
        · rw [c2]; exact c
        · exact hk k (by omega))
    · rw [if_neg (fun x => c ((nI_eq (by omega) (by omega)).mp x)), nI_1]
      have hne : ¬ en_k E e = en_k E d := fun x => by
        have := ((pac_inj (fun t ht => (ok.2 e he).2.1 t ht) (fun t ht => (ok.2 d hd).2.1 t ht)).mp x).2 v (by omega)
        exact c this
      rw [decide_eq_false hne]
      cases fu with
      | zero => omega
      | succ fu =>
        rw [X7_areRivals_24, of_l h ok he, uB]
        split
        · rfl
        · rw [if_pos rfl]; rfl
theorem x7_riv {σ : Mem} {E : En} (h : RE (σ.1 83) 0 E) (ok : EnOk E) {e d : Nat} (he : e < en_m E) (hd : d < en_m E) : X7_areRivals σ (nI e) (nI d) = some (σ, bI (decide (en_k E e = en_k E d))) := by
  have l1 := (ok.2 e he).1
  have l2 := (ok.2 d hd).1
  unfold X7_areRivals
  rw [of_l h ok he, uB, of_l h ok hd, uB]
  dsimp only
  by_cases c : en_l E e = en_l E d
  · rw [if_pos (by rw [c])]
    refine (x7_riv_24 h ok he hd c _ (en_l E e) 0 FU (by omega) (by unfold FU; omega) (fun k hk => absurd hk (by omega))).trans ?_
    rw [bI_and1, if_pos rfl]
  · rw [if_neg (fun x => c ((nI_eq (by omega) (by omega)).mp x))]
    have hne : ¬ en_k E e = en_k E d := fun x => c ((pac_inj (fun t ht => (ok.2 e he).2.1 t ht) (fun t ht => (ok.2 d hd).2.1 t ht)).mp x).1
    rw [show FU = 999 + 1 from rfl, X7_areRivals_24, of_l h ok he, uB, decide_eq_false hne, if_neg (show ¬ nI (en_l E e) ≤ (0 : Int32) from nI_nle (by omega) (by omega)), if_pos rfl]
    exact if_pos and1_0
/-! the leading one -/
def beatB (E : En) (e n : Nat) : Bool := decide ((en_p E e < en_p E n ∨ (en_p E n = en_p E e ∧ n < e)) ∧ en_k E n = en_k E e)
def leB (E : En) (e : Nat) : Nat → Bool
  | 0 => true
  | n + 1 => leB E e n && !beatB E e n
theorem leB_iff {E : En} {e : Nat} : ∀ {n : Nat}, leB E e n = true ↔ ∀ d, d < n → en_k E d = en_k E e → en_p E d < en_p E e ∨ (en_p E d = en_p E e ∧ e ≤ d)
  | 0 => ⟨fun _ d hd => absurd hd (by omega), fun _ => rfl⟩
  | n + 1 => by
    rw [leB, Bool.and_eq_true, leB_iff (n := n)]
    unfold beatB
    rw [Bool.not_eq_true', decide_eq_false_iff_not]
    refine ⟨fun ⟨h1, h2⟩ d hd hk => ?_, fun h => ⟨fun d hd hk => h d (by omega) hk, fun ⟨x, hk⟩ => ?_⟩⟩
    · by_cases c : d = n
      · subst c
        have : ¬ (en_p E e < en_p E d ∨ (en_p E d = en_p E e ∧ d < e)) := fun x => h2 ⟨x, hk⟩
        omega
      · exact h1 d (by omega) hk
    · have := h n (by omega) hk
      omega
theorem leB_lead {E : En} {e : Nat} : leB E e (en_m E) = true ↔ leadP E e := leB_iff
theorem x7_leads_4 {σ : Mem} {E : En} (h : RE (σ.1 83) 0 E) (ok : EnOk E) {e : Nat} (he : e < en_m E) (K : Mem → Int32 → Option (Mem × Int32)) : ∀ (r n fu : Nat), n + r = en_m E → r < fu → X7_leads_4 K fu σ (nI e) (bI (leB E e n)) (nI n) = K σ (bI (leB E e (en_m E)))
  | r, n, 0, _, h => absurd h (by omega)
  | 0, n, fu + 1, h1, _ => by
    have hm := ok.1
    have : n = en_m E := by omega
    subst this
    rw [X7_leads_4, h.m, if_pos (nI_le (by omega) (by omega))]
  | r + 1, n, fu + 1, h1, hf => by
    have hm := ok.1
    have hn : n < en_m E := by omega
    have p1 := (ok.2 e he).2.2.2
    have p2 := (ok.2 n hn).2.2.2
    have ih := x7_leads_4 h ok he K r (n + 1) fu (by omega) (by omega)
    have z0 : (0 : Int32).toInt = 0 := by decide
    have hd := pk_sub_toInt (a := en_p E n) (b := en_p E e) (by omega) (by omega)
    rw [X7_leads_4, h.m, if_neg (nI_ge (by omega) (by omega)), of_p h ok hn, uB, of_p h ok he, uB]
    dsimp only
    rw [nI_1]
    cases hl : leB E e n with
    | false =>
      have e1 : leB E e (n + 1) = false := by rw [leB, hl]; rfl
      rw [e1] at ih
      rw [if_pos (show bI false = 0 from rfl)]
      exact ih
    | true =>
      have e1 : leB E e (n + 1) = !beatB E e n := by rw [leB, hl]; rfl
      rw [e1] at ih
      rw [if_neg (show ¬ bI true = 0 by decide)]
      by_cases c1 : en_p E e < en_p E n
      · rw [if_pos (by rw [Int32.lt_iff_toInt_lt, hd, z0]; omega), x7_riv h ok hn he, uB]
        dsimp only
        by_cases c2 : en_k E n = en_k E e
        · rw [show beatB E e n = true from decide_eq_true ⟨Or.inl c1, c2⟩] at ih
          rw [decide_eq_true c2, if_neg (show ¬ bI true = 0 by decide)]
          exact ih
        · rw [show beatB E e n = false from decide_eq_false (fun x => c2 x.2)] at ih
          rw [decide_eq_false c2, if_pos (show bI false = 0 from rfl)]
          exact ih
      · rw [if_neg (by rw [Int32.lt_iff_toInt_lt, hd, z0]; omega)]
        by_cases c3 : en_p E n = en_p E e
        · rw [if_pos (by apply Int32.toInt_inj.mp; rw [hd, z0]; omega)]
          by_cases c4 : n < e
          · rw [if_neg (nI_ge c4 (by omega)), x7_riv h ok hn he, uB]
            dsimp only
            by_cases c2 : en_k E n = en_k E e
            · rw [show beatB E e n = true from decide_eq_true ⟨Or.inr ⟨c3, c4⟩, c2⟩] at ih
              rw [decide_eq_true c2, if_neg (show ¬ bI true = 0 by decide)]
              exact ih
            · rw [show beatB E e n = false from decide_eq_false (fun x => c2 x.2)] at ih
              rw [decide_eq_false c2, if_pos (show bI false = 0 from rfl)]
              exact ih
          · rw [show beatB E e n = false from decide_eq_false (by omega)] at ih
            rw [if_pos (nI_le (by omega) (by omega))]
            exact ih
        · rw [show beatB E e n = false from decide_eq_false (by omega)] at ih
          rw [if_neg (fun x => by have := congrArg Int32.toInt x; rw [hd, z0] at this; omega)]
          exact ih
theorem x7_leads {σ : Mem} {E : En} (h : RE (σ.1 83) 0 E) (ok : EnOk E) {e : Nat} (he : e < en_m E) : X7_leads σ (nI e) = some (σ, bI (leB E e (en_m E))) := by
  refine (x7_leads_4 h ok he _ (en_m E) 0 FU (by omega) (by have := ok.1; unfold FU; omega)).trans ?_
  rw [bI_and1, if_pos rfl]
