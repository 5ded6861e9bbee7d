def cnt (p : Nat → Bool) : Nat → Nat
  | 0 => 0
  | n + 1 => cnt p n + if p n then 1 else 0
theorem cnt_le (p : Nat → Bool) : ∀ n, cnt p n ≤ n
  | 0 => Nat.le_refl _
  | n + 1 => by
    have := cnt_le p n
    rw [cnt]
    split <;> omega
theorem cnt_t {p : Nat → Bool} {n : Nat} (h : p n = true) : cnt p (n + 1) = cnt p n + 1 := by rw [cnt, if_pos h]
theorem cnt_f {p : Nat → Bool} {n : Nat} (h : p n = false) : cnt p (n + 1) = cnt p n := by rw [cnt, if_neg (by rw [h]; decide), Nat.add_zero]
theorem cnt_cong {p q : Nat → Bool} : ∀ {n : Nat}, (∀ k, k < n → p k = q k) → cnt p n = cnt q n
  | 0, _ => rfl
  | n + 1, h => by rw [cnt, cnt, cnt_cong (n := n) (fun k hk => h k (by omega)), h n (by omega)]
theorem x0_hasBoth_3 {i R w : Nat} {E : En} (K : Mem → Option (Mem × Int32)) {σ : Mem} (h : EnC σ i E) (ok : EnOk E) (hR : R < 9223372036854775808) (hw : w < 100) : ∀ (r e fu : Nat), e + r = en_m E → r < fu → X0_hasBoth_3 i K fu σ (lN R) (nI w) (nI e) = if (∃ t, t < en_m E ∧ e ≤ t ∧ en_k E t = R ∧ en_w E t = w) then some (σ, 1) else K σ
  | 0, e, 0, _, h => absurd h (by omega)
  | r + 1, e, 0, _, h => absurd h (by omega)
  | 0, e, fu + 1, h1, _ => by
    have hm := ok.1
    rw [X0_hasBoth_3, h.1, if_pos (nI_le (by omega) (by omega)), if_neg (by intro ⟨t, ht⟩; omega)]
  | r + 1, e, fu + 1, h1, h2 => by
    have hm := ok.1
    have he : e < en_m E := by omega
    have hk := ok.klt he
    have hp := (ok.2 e he).2.2.1
    have ih := x0_hasBoth_3 K h ok hR hw r (e + 1) fu (by omega) (by omega)
    rw [X0_hasBoth_3, h.1, x0_rowOf h ok he]
    by_cases c : en_k E e = R
    · by_cases c2 : en_w E e = w
      · rw [if_pos (c := ∃ t, _) ⟨e, he, Nat.le_refl _, c, c2⟩]
        simp (disch := omega) only [uB, ofn, k_0, k_1, k_2, k_3, k_4, k_5, k_6, k_7, k_8, k_9, k_10, k_24, k_60, k_68, k_236, c_le_t, c_le_f, c_lt_t, c_lt_f, c_eq_t, c_eq_f, c_m1_f, c_m1_f', c_m1_lt, c_m1_nlt, c_m1_le, c_m1_nle, c_inA, c_cl, c_sub, c_add, if_false, if_true, c_cmp_t, c_cmp_f, x0_wordOf h ok he]
      · simp (disch := omega) only [uB, ofn, k_0, k_1, k_2, k_3, k_4, k_5, k_6, k_7, k_8, k_9, k_10, k_24, k_60, k_68, k_236, c_le_t, c_le_f, c_lt_t, c_lt_f, c_eq_t, c_eq_f, c_m1_f, c_m1_f', c_m1_lt, c_m1_nlt, c_m1_le, c_m1_nle, c_inA, c_cl, c_sub, c_add, if_false, if_true, c_cmp_t, c_cmp_f, x0_wordOf h ok he]
        rw [ih]
        congr 1
        refine propext ⟨fun ⟨t, h1, h2, h3⟩ => ⟨t, h1, by omega, h3⟩, fun ⟨t, h1, h2, h3⟩ => ⟨t, h1, ?_, h3⟩⟩
        by_cases e1 : t = e
        · subst e1; exact absurd h3.2 c2
        · omega
    · simp (disch := omega) only [uB, ofn, k_0, k_1, k_2, k_3, k_4, k_5, k_6, k_7, k_8, k_9, k_10, k_24, k_60, k_68, k_236, c_le_t, c_le_f, c_lt_t, c_lt_f, c_eq_t, c_eq_f, c_m1_f, c_m1_f', c_m1_lt, c_m1_nlt, c_m1_le, c_m1_nle, c_inA, c_cl, c_sub, c_add, if_false, if_true, c_cmp_t, c_cmp_f, x0_wordOf h ok he]
      rw [ih]
      congr 1
      refine propext ⟨fun ⟨t, h1, h2, h3⟩ => ⟨t, h1, by omega, h3⟩, fun ⟨t, h1, h2, h3⟩ => ⟨t, h1, ?_, h3⟩⟩
      by_cases e1 : t = e
      · subst e1; exact absurd h3.1 c
      · omega
theorem x0_hasBoth {i R w : Nat} {E : En} {σ : Mem} (h : EnC σ i E) (ok : EnOk E) (hR : R < 9223372036854775808) (hw : w < 100) : X0_hasBoth i σ (lN R) (nI w) = if (∃ t, t < en_m E ∧ en_k E t = R ∧ en_w E t = w) then some (σ, 1) else some (σ, 0) := by
  have := x0_hasBoth_3 (fun σ => some (σ, 0)) h ok hR hw (en_m E) 0 FU (by omega) (by have := ok.1; unfold FU; omega)
  refine this.trans ?_
  congr 1
  exact propext ⟨fun ⟨t, h1, h2, h3⟩ => ⟨t, h1, h3⟩, fun ⟨t, h1, h3⟩ => ⟨t, h1, by omega, h3⟩⟩
theorem x0_rivals_5 {i R : Nat} {E : En} (K : Mem → Int32 → Option (Mem × Int32)) {σ : Mem} (h : EnC σ i E) (ok : EnOk E) (hR : R < 9223372036854775808) : ∀ (r e fu : Nat), e + r = en_m E → r < fu → X0_rivals_5 i K fu σ (lN R) (nI (cnt (fun t => decide (en_k E t = R)) e)) (nI e) = K σ (nI (cnt (fun t => decide (en_k E t = R)) (en_m E)))
  | 0, e, 0, _, h => absurd h (by omega)
  | r + 1, e, 0, _, h => absurd h (by omega)
  | 0, e, fu + 1, h1, _ => by
    have hm := ok.1
    have : e = en_m E := by omega
    subst this
    rw [X0_rivals_5, h.1, if_pos (nI_le (by omega) (by omega))]
  | r + 1, e, fu + 1, h1, h2 => by
    have hm := ok.1
    have he : e < en_m E := by omega
    have hk := ok.klt he
    have ih := x0_rivals_5 K h ok hR r (e + 1) fu (by omega) (by omega)
    rw [X0_rivals_5, h.1, x0_rowOf h ok he]
    by_cases c : en_k E e = R
    · rw [cnt_t (decide_eq_true c)] at ih
      simp (disch := omega) only [uB, ofn, k_0, k_1, k_2, k_3, k_4, k_5, k_6, k_7, k_8, k_9, k_10, k_24, k_60, k_68, k_236, c_le_t, c_le_f, c_lt_t, c_lt_f, c_eq_t, c_eq_f, c_m1_f, c_m1_f', c_m1_lt, c_m1_nlt, c_m1_le, c_m1_nle, c_inA, c_cl, c_sub, c_add, if_false, if_true, c_cmp_t, c_cmp_f]
      exact ih
    · rw [cnt_f (decide_eq_false c)] at ih
      simp (disch := omega) only [uB, ofn, k_0, k_1, k_2, k_3, k_4, k_5, k_6, k_7, k_8, k_9, k_10, k_24, k_60, k_68, k_236, c_le_t, c_le_f, c_lt_t, c_lt_f, c_eq_t, c_eq_f, c_m1_f, c_m1_f', c_m1_lt, c_m1_nlt, c_m1_le, c_m1_nle, c_inA, c_cl, c_sub, c_add, if_false, if_true, c_cmp_t, c_cmp_f]
      exact ih
theorem x0_rivals {i R : Nat} {E : En} {σ : Mem} (h : EnC σ i E) (ok : EnOk E) (hR : R < 9223372036854775808) : X0_rivals i σ (lN R) = some (σ, nI (cnt (fun t => decide (en_k E t = R)) (en_m E))) :=
  x0_rivals_5 _ h ok hR (en_m E) 0 FU (by omega) (by have := ok.1; unfold FU; omega)
theorem l_mask : ∀ s, s < 4 → ((1 : Int64) <<< (((10 : Int32) * nI s).toInt64 &&& 63)) - (1 : Int64) = lN (2 ^ (10 * s) - 1) := by decide +kernel
theorem and_l {a k : Nat} (hk : k < 63) (ha : a < 9223372036854775808) : lN a &&& lN (2 ^ k - 1) = lN (a % 2 ^ k) := by
  apply Int64.toBitVec_inj.mp
  show BitVec.ofNat 64 a &&& BitVec.ofNat 64 (2 ^ k - 1) = BitVec.ofNat 64 (a % 2 ^ k)
  apply BitVec.eq_of_toNat_eq
  have h1 : 2 ^ k < 2 ^ 63 := Nat.pow_lt_pow_right (by decide) hk
  have h2 : a % 2 ^ k < 2 ^ k := Nat.mod_lt _ (Nat.two_pow_pos k)
  rw [BitVec.toNat_and, BitVec.toNat_ofNat, BitVec.toNat_ofNat, BitVec.toNat_ofNat, Nat.mod_eq_of_lt (by omega), Nat.mod_eq_of_lt (a := 2 ^ k - 1) (by omega), Nat.mod_eq_of_lt (a := a % 2 ^ k) (by omega), Nat.and_two_pow_sub_one_eq_mod]
def lgt (E : En) (R s : Nat) (t : Nat) : Bool := decide (en_k E t % 1024 ^ s = R) && !decide (en_k E t = R)
theorem x0_longerThan_16 {i R s : Nat} {E : En} (K : Mem → Int32 → Option (Mem × Int32)) {σ : Mem} (h : EnC σ i E) (ok : EnOk E) (hs : s < 4) (hR : R < 9223372036854775808) : ∀ (r e fu : Nat), e + r = en_m E → r < fu → X0_longerThan_16 i K fu σ (lN R) (lN (2 ^ (10 * s) - 1)) (nI (cnt (lgt E R s) e)) (nI e) = K σ (nI (cnt (lgt E R s) (en_m E)))
  | 0, e, 0, _, h => absurd h (by omega)
  | r + 1, e, 0, _, h => absurd h (by omega)
  | 0, e, fu + 1, h1, _ => by
    have hm := ok.1
    have : e = en_m E := by omega
    subst this
    rw [X0_longerThan_16, h.1, if_pos (nI_le (by omega) (by omega))]
  | r + 1, e, fu + 1, h1, h2 => by
    have hm := ok.1
    have he : e < en_m E := by omega
    have hk := ok.klt he
    have hk2 : en_k E e % 2 ^ (10 * s) ≤ en_k E e := Nat.mod_le _ _
    have ih := x0_longerThan_16 K h ok hs hR r (e + 1) fu (by omega) (by omega)
    rw [X0_longerThan_16, h.1, x0_rowOf h ok he]
    simp (disch := omega) only [uB, ofn, k_0, k_1, k_2, k_3, k_4, k_5, k_6, k_7, k_8, k_9, k_10, k_24, k_60, k_68, k_236, c_le_t, c_le_f, c_lt_t, c_lt_f, c_eq_t, c_eq_f, c_m1_f, c_m1_f', c_m1_lt, c_m1_nlt, c_m1_le, c_m1_nle, c_inA, c_cl, c_sub, c_add, if_false, if_true, and_l]
    by_cases c : en_k E e % 2 ^ (10 * s) = R
    · by_cases c2 : en_k E e = R
      · rw [cnt_f (by unfold lgt; rw [p_1024, c2]; simp)] at ih
        simp (disch := omega) only [c_cmp_t, c_cmp_f, if_true, if_false]
        exact ih
      · rw [cnt_t (by unfold lgt; rw [p_1024]; simp [c, c2])] at ih
        simp (disch := omega) only [c_cmp_t, c_cmp_f, if_true, if_false]
        exact ih
    · rw [cnt_f (by unfold lgt; rw [p_1024]; simp [c])] at ih
      simp (disch := omega) only [c_cmp_t, c_cmp_f, if_true, if_false]
      exact ih
theorem x0_longerThan {i R s : Nat} {E : En} {σ : Mem} (h : EnC σ i E) (ok : EnOk E) (hs : s < 4) (hR : R < 9223372036854775808) : X0_longerThan i σ (lN R) (nI s) = some (σ, nI (cnt (lgt E R s) (en_m E))) := by
  unfold X0_longerThan
  rw [l_mask s hs]
  exact x0_longerThan_16 _ h ok hs hR (en_m E) 0 FU (by omega) (by have := ok.1; unfold FU; omega)
/-- the longest row, of at most so many strokes, that comes at a place -/
def lgst (E : En) (q : Nat → Nat) (pl : Nat) : Nat → Nat
  | 0 => 0
  | L + 1 => match ldr E (pac (fun t => q (pl + t)) (L + 1)) (en_m E) with
    | none => lgst E q pl L
    | some _ => L + 1
theorem lgst_le (E : En) (q : Nat → Nat) (pl : Nat) : ∀ L, lgst E q pl L ≤ L
  | 0 => Nat.le_refl _
  | L + 1 => by
    have := lgst_le E q pl L
    rw [lgst]
    split <;> omega
theorem oN_m1 (o : Option Nat) (h : ∀ e, o = some e → e < 2147483648) : (oN o = (-1 : Int32)) = (o = none) := by
  cases o with
  | none => exact propext ⟨fun _ => rfl, fun _ => rfl⟩
  | some e => exact propext ⟨fun x => absurd x (nI_nem1 (h e rfl)), fun x => by cases x⟩
theorem x0_longestAt_12 {i j n pl : Nat} {E : En} {q : Nat → Nat} {f : Nat → Int32} (K : Mem → Option (Mem × Int32)) (hK : ∀ σ, K σ = some (σ, 0)) {σ : Mem} (h : EnC σ i E) (ok : EnOk E) (hr : RowIs σ j n f) (hn : n ≤ cap j) (hc : cap j ≤ 62) (hf : ∀ t, t < n → f t = nI (q t) ∧ q t < 1024) : ∀ (L fu : Nat), L ≤ 4 → pl + L ≤ n → L < fu → X0_longestAt_12 i j K fu σ (nI pl) (nI L) = some (σ, nI (lgst E q pl L))
  | L, 0, _, _, h => absurd h (by omega)
  | 0, fu + 1, _, _, _ => by
    rw [X0_longestAt_12, if_pos (by decide), hK]
    rfl
  | L + 1, fu + 1, h4, hp, hfu => by
    have hm := ok.1
    have ih := x0_longestAt_12 (pl := pl) K hK h ok hr hn hc hf L fu (by omega) (by omega) (by omega)
    have hlt := pac_lt4 (q := fun t => q (pl + t)) h4 (fun t ht => (hf (pl + t) (by omega)).2)
    rw [X0_longestAt_12, if_neg (nI_nle (by omega) (by omega)), x3_packed (q := fun t => q (pl + t)) h4 hr hn hc hp (fun t ht => hf (pl + t) (by omega)), uB, x0_leaderOf h ok (by omega), uB]
    rw [lgst]
    cases hl : ldr E (pac (fun t => q (pl + t)) (L + 1)) (en_m E) with
    | none =>
      rw [if_pos (show oN none = (-1 : Int32) from rfl), pk_m1]
      exact ih
    | some e =>
      have := (ldr_some hl).1
      rw [if_neg (show ¬ oN (some e) = (-1 : Int32) from nI_nem1 (by omega))]
theorem x0_longestAt {i j n pl lg : Nat} {E : En} {q : Nat → Nat} {f : Nat → Int32} {σ : Mem} (h : EnC σ i E) (ok : EnOk E) (hr : RowIs σ j n f) (hn : n ≤ cap j) (hc : cap j ≤ 62) (hf : ∀ t, t < n → f t = nI (q t) ∧ q t < 1024) (hp : pl ≤ n) (hl : lg ≤ 4) : X0_longestAt i j σ (nI pl) (nI lg) = some (σ, nI (lgst E q pl (min lg (n - pl)))) := by
  unfold X0_longestAt X3_length
  rw [uB, hr.1, pk_sub hp]
  have e : (if nI (n - pl) < nI lg then nI (n - pl) else nI lg) = nI (min lg (n - pl)) := by
    by_cases c : n - pl < lg
    · rw [if_pos (nI_lt c (by omega)), Nat.min_eq_right (by omega)]
    · rw [if_neg (nI_nlt (by omega) (by omega)), Nat.min_eq_left (by omega)]
  rw [e]
  exact x0_longestAt_12 _ (fun _ => rfl) h ok hr hn hc hf _ FU (by omega) (by omega) (by unfold FU; omega)
