/-! ROWS: writing -/
def Off (lo hi : Nat) (σ σ' : Mem) : Prop := ∀ c, c < lo ∨ hi ≤ c → σ'.1 c = σ.1 c ∧ σ'.2 c = σ.2 c
theorem Off.rfl' {lo hi : Nat} {σ : Mem} : Off lo hi σ σ := fun _ _ => ⟨rfl, rfl⟩
theorem Off.trans {lo hi : Nat} {σ σ' σ'' : Mem} (h : Off lo hi σ σ') (h2 : Off lo hi σ' σ'') : Off lo hi σ σ'' := fun c hc => ⟨(h2 c hc).1.trans (h c hc).1, (h2 c hc).2.trans (h c hc).2⟩
theorem Off.mono {lo hi lo' hi' : Nat} {σ σ' : Mem} (h : Off lo hi σ σ') (h1 : lo' ≤ lo) (h2 : hi ≤ hi') : Off lo' hi' σ σ' := fun c hc => h c (by omega)
theorem Off.setI {lo hi a b : Nat} {σ : Mem} {v : Int32} (h : lo ≤ a) (h2 : a < hi) : Off lo hi σ (setI σ a b v) := fun c hc => ⟨funext fun j => if_neg (by omega), rfl⟩
theorem Off.setL {lo hi a b : Nat} {σ : Mem} {v : Int64} (h : lo ≤ a) (h2 : a < hi) : Off lo hi σ (setL σ a b v) := fun c hc => ⟨rfl, funext fun j => if_neg (by omega)⟩
theorem RowIs.off {σ σ' : Mem} {i n lo hi : Nat} {f : Nat → Int32} (h : RowIs σ i n f) (o : Off lo hi σ σ') (hi' : i + 1 < lo ∨ hi ≤ i) : RowIs σ' i n f := by
  refine ⟨?_, fun j hj => ?_⟩
  · rw [(o i (by omega)).1]; exact h.1
  · rw [(o (i + 1) (by omega)).1]; exact h.2 j hj
theorem RowIs.le {σ : Mem} {i n : Nat} {f g : Nat → Int32} (h : RowIs σ i n f) (hg : ∀ j, j < n → f j = g j) : RowIs σ i n g := ⟨h.1, fun j hj => (h.2 j hj).trans (hg j hj)⟩
theorem si_1 (σ : Mem) (a b : Nat) (v : Int32) : (setI σ a b v).1 a b = v := by show (if a = a then (if b = b then v else _) else _) = v; rw [if_pos rfl, if_pos rfl]
theorem si_o (σ : Mem) {a b c d : Nat} (v : Int32) (h : c ≠ a ∨ d ≠ b) : (setI σ a b v).1 c d = σ.1 c d := by
  show (if c = a then (if d = b then v else _) else _) = _
  by_cases h1 : c = a
  · rw [if_pos h1, if_neg (by omega)]
  · rw [if_neg h1]
theorem sl_1 (σ : Mem) (a b : Nat) (v : Int64) : (setL σ a b v).2 a b = v := by show (if a = a then (if b = b then v else _) else _) = v; rw [if_pos rfl, if_pos rfl]
theorem sl_o (σ : Mem) {a b c d : Nat} (v : Int64) (h : c ≠ a ∨ d ≠ b) : (setL σ a b v).2 c d = σ.2 c d := by
  show (if c = a then (if d = b then v else _) else _) = _
  by_cases h1 : c = a
  · rw [if_pos h1, if_neg (by omega)]
  · rw [if_neg h1]
theorem sl_i (σ : Mem) (a b : Nat) (v : Int64) : (setL σ a b v).1 = σ.1 := rfl
theorem si_l (σ : Mem) (a b : Nat) (v : Int32) : (setI σ a b v).2 = σ.2 := rfl
theorem x3_put {σ : Mem} {i n : Nat} {f : Nat → Int32} (h : RowIs σ i n f) (hn : n < cap i) (hc : cap i ≤ 62) (v : Int32) : ∃ σ', X3_put i σ v = some (σ', ()) ∧ RowIs σ' i (n + 1) (upd f n v) ∧ Off i (i + 2) σ σ' := by
  refine ⟨setI (setI σ (i + 1) n v) i 1 (nI (n + 1)), ?_, ⟨si_1 _ _ _ _, fun j hj => ?_⟩, (Off.setI (by omega) (by omega)).trans (Off.setI (by omega) (by omega))⟩
  · unfold X3_put
    rw [h.1]
    simp (disch := omega) only [uB, ofn, k_0, k_1, k_2, k_3, k_4, k_5, k_6, k_7, k_8, k_9, k_10, k_24, k_60, k_68, k_236, c_le_t, c_le_f, c_lt_t, c_lt_f, c_eq_t, c_eq_f, c_m1_f, c_m1_f', c_m1_lt, c_m1_nlt, c_m1_le, c_m1_nle, c_inA, c_cl, c_sub, c_add, if_false, if_true, si_o, h.1]
  · rw [si_o _ _ (by omega)]
    by_cases e : j = n
    · subst e; rw [si_1, upd, if_pos rfl]
    · rw [si_o _ _ (by omega), upd, if_neg e]; exact h.2 j (by omega)
theorem x3_shorten {σ : Mem} {i n k : Nat} {f : Nat → Int32} (h : RowIs σ i n f) (hn : n ≤ 62) (hk : k ≤ n) : ∃ σ', X3_shorten i σ (nI k) = some (σ', ()) ∧ RowIs σ' i k f ∧ Off i (i + 1) σ σ' := by
  by_cases e : k = n
  · subst e
    refine ⟨σ, ?_, h, Off.rfl'⟩
    unfold X3_shorten
    rw [h.1]
    simp (disch := omega) only [uB, ofn, k_0, k_1, k_2, k_3, k_4, k_5, k_6, k_7, k_8, k_9, k_10, k_24, k_60, k_68, k_236, c_le_t, c_le_f, c_lt_t, c_lt_f, c_eq_t, c_eq_f, c_m1_f, c_m1_f', c_m1_lt, c_m1_nlt, c_m1_le, c_m1_nle, c_inA, c_cl, c_sub, c_add, if_false, if_true]
  · refine ⟨setI σ i 1 (nI k), ?_, ⟨si_1 _ _ _ _, fun j hj => ?_⟩, Off.setI (by omega) (by omega)⟩
    · unfold X3_shorten
      rw [h.1]
      simp (disch := omega) only [uB, ofn, k_0, k_1, k_2, k_3, k_4, k_5, k_6, k_7, k_8, k_9, k_10, k_24, k_60, k_68, k_236, c_le_t, c_le_f, c_lt_t, c_lt_f, c_eq_t, c_eq_f, c_m1_f, c_m1_f', c_m1_lt, c_m1_nlt, c_m1_le, c_m1_nle, c_inA, c_cl, c_sub, c_add, if_false, if_true]
    · rw [si_o _ _ (by omega)]; exact h.2 j (by omega)
theorem x3_shorten0 {σ : Mem} {i n : Nat} {f : Nat → Int32} (h : RowIs σ i n f) (hn : n ≤ 62) : ∃ σ', X3_shorten i σ 0 = some (σ', ()) ∧ RowIs σ' i 0 f ∧ Off i (i + 1) σ σ' := x3_shorten h hn (Nat.zero_le _)
theorem x3_become_7 {i j n : Nat} {f : Nat → Int32} (K : Mem → Option (Mem × Unit)) (hd : i + 1 < j ∨ j + 1 < i) (hi : n ≤ cap i) (hci : cap i ≤ 62) (hj : n ≤ cap j) (hcj : cap j ≤ 62) : ∀ (r k fu : Nat) (σ : Mem) (g : Nat → Int32), k + r = n → r < fu → RowIs σ j n f → RowIs σ i k g → (∀ t, t < k → g t = f t) → ∃ σ', X3_become_7 i j K fu σ (nI k) = K σ' ∧ RowIs σ' i n f ∧ Off i (i + 2) σ σ'
  | 0, k, 0, _, _, _, h, _, _, _ => absurd h (by omega)
  | r + 1, k, 0, _, _, _, h, _, _, _ => absurd h (by omega)
  | 0, k, fu + 1, σ, g, h, _, hj', hi', hg => by
    have hk : k = n := by omega
    subst hk
    refine ⟨σ, ?_, hi'.le hg, Off.rfl'⟩
    rw [X3_become_7, hj'.1, if_pos (nI_le (by omega) (by omega))]
  | r + 1, k, fu + 1, σ, g, h, hf, hj', hi', hg => by
    obtain ⟨σ1, e1, h1, o1⟩ := x3_put hi' (by omega) hci (f k)
    have h2 := hj'.off o1 (by omega)
    obtain ⟨σ', e2, h3, o2⟩ := x3_become_7 K hd hi hci hj hcj r (k + 1) fu σ1 (upd g k (f k)) (by omega) (by omega) h2 h1 (fun t ht => by
      unfold upd
      by_cases e : t = k
      · rw [if_pos e, e]
      · rw [if_neg e]; exact hg t (by omega))
    refine ⟨σ', ?_, h3, o1.trans o2⟩
    rw [X3_become_7, hj'.1, if_neg (nI_ge (by omega) (by omega)), x3_at hj' hj hcj (by omega), uB, e1, uB, nI_1, e2]
theorem x3_become {σ : Mem} {i j n : Nat} {f : Nat → Int32} (hd : i + 1 < j ∨ j + 1 < i) (hi : n ≤ cap i) (hci : cap i ≤ 62) (hj : n ≤ cap j) (hcj : cap j ≤ 62) (h : RowIs σ j n f) : ∃ σ', X3_become i j σ = some (σ', ()) ∧ RowIs σ' i n f ∧ Off i (i + 2) σ σ' := by
  have o1 : Off i (i + 2) σ (setI σ i 1 0) := Off.setI (by omega) (by omega)
  obtain ⟨σ', e, h2, o2⟩ := x3_become_7 (fun σ => some (σ, ())) hd hi hci hj hcj n 0 FU (setI σ i 1 0) f (by omega) (by unfold FU; omega) (h.off o1 (by omega)) ⟨si_1 _ _ _ _, fun j hj => absurd hj (by omega)⟩ (fun t ht => absurd ht (by omega))
  exact ⟨σ', by unfold X3_become; rw [uB]; exact e, h2, o1.trans o2⟩
/-- strokes in one long -/
def pac (r : Nat → Nat) : Nat → Nat
  | 0 => 0
  | k + 1 => pac r k + r k * 1024 ^ k
theorem pac_lt {r : Nat → Nat} : ∀ {k : Nat}, (∀ t, t < k → r t < 1024) → pac r k < 1024 ^ k
  | 0, _ => Nat.lt_of_sub_ne_zero (Nat.succ_ne_zero 0)
  | k + 1, h => by
    have h1 := pac_lt (k := k) (fun t ht => h t (by omega))
    have h2 := h k (by omega)
    show pac r k + r k * 1024 ^ k < 1024 ^ (k + 1)
    rw [Nat.pow_succ]
    calc pac r k + r k * 1024 ^ k < 1024 ^ k + r k * 1024 ^ k := by omega
      _ = (r k + 1) * 1024 ^ k := by rw [Nat.add_mul, Nat.one_mul, Nat.add_comm]
      _ ≤ 1024 * 1024 ^ k := Nat.mul_le_mul_right _ (by omega)
      _ = 1024 ^ k * 1024 := Nat.mul_comm _ _
theorem pac_cong {r q : Nat → Nat} : ∀ {k : Nat}, (∀ t, t < k → r t = q t) → pac r k = pac q k
  | 0, _ => rfl
  | k + 1, h => by rw [pac, pac, pac_cong (k := k) (fun t ht => h t (by omega)), h k (by omega)]
theorem pac_mod {r : Nat → Nat} {k l : Nat} (h : ∀ t, t < l → r t < 1024) (hk : k ≤ l) : pac r l % 1024 ^ k = pac r k := by
  induction l with
  | zero => have : k = 0 := by omega
            subst this; rfl
  | succ l ih =>
    by_cases e : k = l + 1
    · subst e; exact Nat.mod_eq_of_lt (pac_lt h)
    · rw [pac]
      have : 1024 ^ l = 1024 ^ k * 1024 ^ (l - k) := by rw [← Nat.pow_add]; congr 1; omega
      rw [this, Nat.mul_left_comm, Nat.add_mul_mod_self_left]
      exact ih (fun t ht => h t (by omega)) (by omega)
theorem pac_div {r : Nat → Nat} {k l : Nat} (h : ∀ t, t < l → r t < 1024) (hk : k < l) : pac r l / 1024 ^ k % 1024 = r k := by
  have h1 : pac r l / 1024 ^ k % 1024 = pac r l % 1024 ^ (k + 1) / 1024 ^ k := by
    rw [Nat.pow_succ, Nat.mod_mul_right_div_self]
  rw [h1, pac_mod h (by omega), pac, Nat.add_mul_div_right _ _ (Nat.pow_pos (by decide)), Nat.div_eq_of_lt (pac_lt (fun t ht => h t (by omega))), Nat.zero_add]
theorem pac_out {r : Nat → Nat} {k l : Nat} (h : ∀ t, t < l → r t < 1024) (hk : l ≤ k) : pac r l / 1024 ^ k = 0 := Nat.div_eq_of_lt (Nat.lt_of_lt_of_le (pac_lt h) (Nat.pow_le_pow_right (by decide) hk))
/-- no stroke is 0: rows are told apart by their longs -/
theorem pac_inj {r q : Nat → Nat} {k l : Nat} (hr : ∀ t, t < k → 1 ≤ r t ∧ r t < 1024) (hq : ∀ t, t < l → 1 ≤ q t ∧ q t < 1024) : pac r k = pac q l ↔ (k = l ∧ ∀ t, t < k → r t = q t) := by
  refine ⟨fun e => ?_, fun e => ?_⟩
  · have hr' : ∀ t, t < k → r t < 1024 := fun t ht => (hr t ht).2
    have hq' : ∀ t, t < l → q t < 1024 := fun t ht => (hq t ht).2
    have hkl : k = l := by
      rcases Nat.lt_trichotomy k l with c | c | c
      · have h1 := pac_div hq' c
        rw [← e, pac_out hr' (Nat.le_refl _)] at h1
        have := hq k c
        omega
      · exact c
      · have h1 := pac_div hr' c
        rw [e, pac_out hq' (Nat.le_refl _)] at h1
        have := hr l c
        omega
    subst hkl
    refine ⟨rfl, fun t ht => ?_⟩
    rw [← pac_div hr' ht, ← pac_div hq' ht, e]
  · obtain ⟨rfl, h⟩ := e
    exact pac_cong h
