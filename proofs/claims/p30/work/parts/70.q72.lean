/-! HOW MANY ITEMS -/
def itn (E : En) (lg N : Nat) (q : Nat → Nat) : Nat := cnt (fun i => decide (posf E lg N q i < N)) N
theorem cnt_pre {p : Nat → Bool} {t : Nat} (h : ∀ i, p i = decide (i < t)) : ∀ n, cnt p n = min n t
  | 0 => by rw [cnt]; omega
  | n + 1 => by
    rw [cnt, cnt_pre h n, h n]
    by_cases c : n < t
    · rw [if_pos (decide_eq_true c)]; omega
    · rw [if_neg (by rw [decide_eq_false c]; decide)]; omega
theorem itn_eq {E : En} {lg N : Nat} {q : Nat → Nat} {t : Nat} (h : Items E lg N q t) : t = itn E lg N q := by
  unfold itn
  rw [cnt_pre (t := t) (fun i => ?_)]
  · have := items_le h; omega
  · by_cases c : i < t
    · rw [decide_eq_true c, decide_eq_true (h.2 i c)]
    · rw [decide_eq_false c, decide_eq_false]
      by_cases c2 : i = t
      · rw [c2, h.1]; omega
      · have := posf_lt E lg N q (i := t) (j := i) (by omega)
        have := h.1
        omega
theorem itn_ok (E : En) (lg N : Nat) (q : Nat → Nat) : Items E lg N q (itn E lg N q) := by
  obtain ⟨t, h⟩ := items_ex E lg N q
  rw [← itn_eq h]; exact h
theorem x2_readOn0 {σ : Mem} {c j j2 N lg : Nat} {E : En} {q : Nat → Nat} (hc : Cap3 c) (hN : N ≤ cap j) (hcj : cap j ≤ 61) (hd : c + 7 ≤ j ∨ j + 1 < c) (hd2 : j2 + 6 < c) (ok : EnOk E) (hq : ShOk N q) (hl : 1 ≤ lg ∧ lg ≤ 4) (hj : RowIs σ j N (fun t => nI (q t))) (hE : EnC σ (j2 + 3) E) (hs : σ.1 j2 3 = nI lg) (h0 : ∀ f g l, RdW σ c 0 f g l) : ∃ σ', X2_readOn c j j2 σ = some (σ', ()) ∧ Rd σ' c E lg N q (itn E lg N q) ∧ Off c (c + 7) σ σ' := by
  obtain ⟨σ', t, e, h1, h2, o⟩ := x2_readOn_38 hc hN hcj hd hd2 ok hq hl (fun σ => some (σ, ())) N 0 FU σ 0 (by omega) (by unfold FU; omega) (by omega) (Nat.zero_le _) (fun k hk => absurd hk (by omega)) hj hE hs (h0 _ _ _)
  rw [itn_eq h1] at h2
  refine ⟨σ', ?_, h2, o⟩
  unfold X2_readOn X2_size X3_length
  rw [uB, uB]
  dsimp only
  rw [(h0 (fun _ => 0) (fun _ => 0) (fun _ => 0)).1.1, if_neg (by decide)]
  exact e
theorem x2_readOnS {σ : Mem} {c j j2 N lg s : Nat} {E : En} {q : Nat → Nat} (hc : Cap3 c) (hN : N ≤ cap j) (hcj : cap j ≤ 61) (hd : c + 7 ≤ j ∨ j + 1 < c) (hd2 : j2 + 6 < c) (ok : EnOk E) (hq : ShOk N q) (hl : 1 ≤ lg ∧ lg ≤ 4) (hj : RowIs σ j N (fun t => nI (q t))) (hE : EnC σ (j2 + 3) E) (hs : σ.1 j2 3 = nI lg) (h0 : Rd σ c E lg N q s) (h1 : posf E lg N q s ≤ N) : ∃ σ', X2_readOn c j j2 σ = some (σ', ()) ∧ Rd σ' c E lg N q (itn E lg N q) ∧ Off c (c + 7) σ σ' := by
  cases s with
  | zero => exact x2_readOn0 hc hN hcj hd hd2 ok hq hl hj hE hs (fun f g l => ⟨⟨h0.1.1, fun j hj => absurd hj (by omega)⟩, ⟨h0.2.1.1, fun j hj => absurd hj (by omega)⟩, ⟨h0.2.2.1, fun j hj => absurd hj (by omega)⟩⟩)
  | succ s =>
    have hs1 := posf_le E lg N q (s + 1)
    have h3 : ∀ k, k < s + 1 → posf E lg N q k < N := fun k hk => by
      have := posf_lt E lg N q hk
      omega
    obtain ⟨σ', t, e, h4, h5, o⟩ := x2_readOn_38 hc hN hcj hd hd2 ok hq hl (fun σ => some (σ, ())) (N - posf E lg N q (s + 1)) (posf E lg N q (s + 1)) FU σ (s + 1) (by omega) (by unfold FU; omega) (by omega) h1 h3 hj hE hs h0
    rw [itn_eq h4] at h5
    refine ⟨σ', ?_, h5, o⟩
    obtain ⟨c1, c2, c3⟩ := hc
    unfold X2_readOn X2_size X3_length
    rw [uB, uB]
    dsimp only
    rw [h0.1.1, nI_pred, if_pos (nI_pos' (by omega)), x3_at h0.1 (by omega) (by omega) (by omega), uB]
    dsimp only
    rw [x3_at h0.2.1 (by omega) (by omega) (by omega), uB]
    dsimp only
    rw [nI_add]
    exact e
/-! THE CLASS: what it holds -/
abbrev Wd : Type := As × As × Bool × Sv × (Nat × (Nat → Nat))
abbrev w_a (w : Wd) : As := w.1
abbrev w_s (w : Wd) : As := w.2.1
abbrev w_k (w : Wd) : Bool := w.2.2.1
abbrev w_v (w : Wd) : Sv := w.2.2.2.1
abbrev w_n (w : Wd) : Nat := w.2.2.2.2.1
abbrev w_t (w : Wd) : Nat → Nat := w.2.2.2.2.2
def TxOk (n : Nat) (t : Nat → Nat) : Prop := n ≤ 60 ∧ ∀ j, j < n → 33 ≤ t j ∧ t j ≤ 126
def WdOk (T : Nat) (w : Wd) : Prop := AsOk T (w_a w) ∧ (w_k w = true → AsOk T (w_s w)) ∧ (w_v w).1 ≤ 6 ∧ (∀ j, j < (w_v w).1 → AsOk T ((w_v w).2 j)) ∧ TxOk (w_n w) (w_t w)
def bI (b : Bool) : Int32 := if b then 1 else 0
def ClP (σ : Mem) (w : Wd) : Prop := StC σ 0 (w_a w) ∧ (w_k w = true → StC σ 7 (w_s w)) ∧ σ.1 81 9 = bI (w_k w) ∧ (∃ old, RingC σ old (w_v w).1 (w_v w).2) ∧ RowIs σ 59 (w_n w) (fun j => nI (w_t w j))
def RowI (σ : Mem) (i : Nat) : Prop := ∃ n f, n ≤ cap i ∧ RowIs σ i n f
def ClS (σ : Mem) : Prop := RdI σ 61 ∧ RdI σ 68 ∧ RowI σ 75 ∧ RowI σ 77 ∧ RowI σ 79
theorem RowI.off {σ σ' : Mem} {i lo hi : Nat} (h : RowI σ i) (o : Off lo hi σ σ') (hd : i + 1 < lo ∨ hi ≤ i) : RowI σ' i := by
  obtain ⟨n, f, h1, h2⟩ := h
  exact ⟨n, f, h1, h2.off o hd⟩
theorem ClP.off {σ σ' : Mem} {w : Wd} {lo hi : Nat} (h : ClP σ w) (o : Off lo hi σ σ') (h1 : 61 ≤ lo) (h2 : hi ≤ 81 ∨ 82 ≤ lo) : ClP σ' w := by
  obtain ⟨g1, g2, g3, ⟨old, g4⟩, g5⟩ := h
  refine ⟨g1.off o (by omega), fun hk => (g2 hk).off o (by omega), ?_, ⟨old, g4.off o (by omega)⟩, g5.off o (by omega)⟩
  rw [(o 81 (by omega)).1]; exact g3
theorem ClS.off {σ σ' : Mem} {lo hi : Nat} (h : ClS σ) (o : Off lo hi σ σ') (hd : hi ≤ 61 ∨ 81 ≤ lo) : ClS σ' := by
  obtain ⟨g1, g2, g3, g4, g5⟩ := h
  exact ⟨g1.off o (by omega), g2.off o (by omega), g3.off o (by omega), g4.off o (by omega), g5.off o (by omega)⟩
theorem cap61 : Cap3 61 := ⟨by decide +kernel, by decide +kernel, by decide +kernel⟩
theorem cap68 : Cap3 68 := ⟨by decide +kernel, by decide +kernel, by decide +kernel⟩
theorem cap1' : cap 1 = 60 := by decide +kernel
theorem cap75' : cap 75 = 61 := by decide +kernel
theorem cap77' : cap 77 = 60 := by decide +kernel
theorem cap79' : cap 79 = 61 := by decide +kernel
theorem Rd.i {σ : Mem} {c lg N : Nat} {E : En} {q : Nat → Nat} (h : Rd σ c E lg N q (itn E lg N q)) (hN : N ≤ 61) : RdI σ c := by
  have h1 := itn_ok E lg N q
  have h2 := items_le h1
  exact ⟨_, _, _, _, by omega, h, fun i hi => by have := h1.2 i hi; omega⟩
abbrev as_t (a : As) : Nat := itn (as_E a) (as_g a) (as_N a) (as_p a)
abbrev as_pos (a : As) (i : Nat) : Nat := posf (as_E a) (as_g a) (as_N a) (as_p a) i
abbrev as_sz (a : As) (i : Nat) : Nat := szf (as_E a) (as_g a) (as_N a) (as_p a) (as_pos a i)
abbrev as_st (a : As) (i : Nat) : Option Nat := stf (as_E a) (as_g a) (as_N a) (as_p a) (as_pos a i)
def RdA (σ : Mem) (c : Nat) (a : As) : Prop := Rd σ c (as_E a) (as_g a) (as_N a) (as_p a) (as_t a)
theorem x6_readPaper {σ : Mem} {T : Nat} {a : As} (ok : AsOk T a) (h : StC σ 0 a) (hs : RdI σ 61) : ∃ σ', X6_readPaper σ = some (σ', ()) ∧ RdA σ' 61 a ∧ Off 61 68 σ σ' := by
  obtain ⟨σ1, e1, h1, o1⟩ := x2_drop0 cap61 hs
  have h2 := h.off o1 (by omega)
  obtain ⟨σ2, e2, h3, o2⟩ := x2_readOn0 (c := 61) (j := 1) (j2 := 0) cap61 (by rw [cap1']; exact ok.1) (by rw [cap1']; omega) (by omega) (by omega) ok.2.2.1 ok.2.1 ok.2.2.2.2.1 h2.1 h2.2.1 h2.2.2.2.1 h1
  refine ⟨σ2, ?_, h3, o1.trans o2⟩
  unfold X6_readPaper
  rw [e1, uB, e2, uB]
theorem ClS.read {σ σ' : Mem} {a : As} {T : Nat} (h : ClS σ) (ok : AsOk T a) (hr : RdA σ' 61 a) (o : Off 61 68 σ σ') : ClS σ' := by
  obtain ⟨g1, g2, g3, g4, g5⟩ := h
  exact ⟨Rd.i hr (by have := ok.1; omega), g2.off o (by omega), g3.off o (by omega), g4.off o (by omega), g5.off o (by omega)⟩
/-! STRIKING -/
def kb : Nat → Nat → Nat
  | 0, _ => 0
  | n + 1, s => kb n s + s / 2 ^ n % 2
abbrev kys (s : Nat) : Nat := kb 10 s
def bcv (p : Int32) : Int32 := ((J6_bitCount_0f7a4 (fun _ _ => 0, fun _ _ => 0) p).map (fun q => q.2)).getD 0
theorem j6_all : ∀ s, s < 1024 → bcv (nI s) = nI (kys s) := by decide +kernel
theorem j6_bc (σ : Mem) {s : Nat} (h : s < 1024) : J6_bitCount_0f7a4 σ (nI s) = some (σ, nI (kys s)) := by
  rw [← j6_all s h]; rfl
theorem kys_b : ∀ s, s < 1024 → (1 ≤ s → 1 ≤ kys s) ∧ kys s ≤ 10 := by decide +kernel
def asPut (a : As) (s : Nat) : As := ((as_N a + 1, updn (as_p a) (as_N a) s), as_E a, a.2.2.1, (as_k a + 1, as_e a, as_a a, as_y a + kys s))
def eatN (a : As) : Nat := if as_s a = 1 then as_N a - as_pos a (as_t a - 1) else 1
def asEat (a : As) : As := ((as_N a - eatN a, as_p a), as_E a, a.2.2.1, (as_k a, as_e a + nI (eatN a), as_a a + 1, as_y a))
def canS (a : As) (s : Nat) : Bool := if s = 0 then decide (0 < as_N a) else decide (as_N a < 60)
def asStk (a : As) (s : Nat) : As := if s = 0 then asEat a else asPut a s
theorem x6_canStrike {σ : Mem} {T s : Nat} {a : As} (ok : AsOk T a) (h : StC σ 0 a) (hs : s < 1024) : X6_canStrike σ (nI s) = some (σ, bI (canS a s)) := by
  have hN := ok.1
  unfold X6_canStrike X3_length X3_isFull canS
  rw [cap1', h.1.1, ofn]
  by_cases c : s = 0
  · subst c
    rw [if_pos (show nI 0 = 0 from rfl), uB, if_pos (rfl : (0 : Nat) = 0)]
    dsimp only
    by_cases c2 : 0 < as_N a
    · rw [if_neg (nI_nle c2 (by omega)), decide_eq_true c2]; rfl
    · rw [show as_N a = 0 by omega]; rfl
  · rw [if_neg (nI_ne0 (by omega) (by omega)), if_neg c]
    by_cases c2 : as_N a < 60
    · rw [if_pos (show nI (as_N a) < nI 60 from nI_lt c2 (by omega)), decide_eq_true c2]; rfl
    · rw [if_neg (show ¬ nI (as_N a) < nI 60 from nI_nlt (by omega) (by omega)), decide_eq_false c2]; rfl
theorem last_item {a : As} (hN : 0 < as_N a) : 0 < as_t a ∧ as_pos a (as_t a - 1) < as_N a ∧ as_pos a (as_t a - 1) + as_sz a (as_t a - 1) = as_N a := by
  have h := itn_ok (as_E a) (as_g a) (as_N a) (as_p a)
  have h1 := items_pos h hN
  refine ⟨h1, h.2 _ (Nat.sub_lt h1 (by omega)), ?_⟩
  have h2 : posf (as_E a) (as_g a) (as_N a) (as_p a) (as_t a) = as_N a := h.1
  have h3 : as_t a = (as_t a - 1) + 1 := (Nat.sub_add_cancel h1).symm
  rw [h3, posf] at h2
  exact h2
theorem eatN_le {a : As} (hN : 0 < as_N a) : 1 ≤ eatN a ∧ eatN a ≤ as_N a := by
  have := last_item hN
  unfold eatN
  split <;> omega
theorem asStk_ok {a : As} {T s : Nat} (hs : s < 1024) (h : AsOk T a) (hc : canS a s = true) (hk : as_k a + 1 ≤ 30 * T) : AsOk T (asStk a s) := by
  obtain ⟨h1, h2, h3, h4, h5, h6, h7, h8, h9⟩ := h
  unfold asStk
  unfold canS at hc
  by_cases c : s = 0
  · rw [if_pos c] at hc ⊢
    have := of_decide_eq_true hc
    exact ⟨by show as_N a - _ ≤ 60; omega, fun t ht => h2 t (by have : t < as_N a - eatN a := ht; omega), h3, h4, h5, h6, h7, h8, h9⟩
  · rw [if_neg c] at hc ⊢
    have h10 := of_decide_eq_true hc
    obtain ⟨k1, k2⟩ := kys_b s hs
    have k1 := k1 (by omega)
    refine ⟨by show as_N a + 1 ≤ 60; omega, fun t ht => ?_, h3, h4, h5, hk, by show as_k a + 1 ≤ as_y a + kys s; omega, by show as_y a + kys s ≤ 10 * (as_k a + 1); omega, h9⟩
    have ht : t < as_N a + 1 := ht
    show 1 ≤ updn (as_p a) (as_N a) s t ∧ updn (as_p a) (as_N a) s t < 1024
    by_cases c2 : t = as_N a
    · rw [c2, updn_1]; omega
    · rw [updn_o _ _ c2]; exact h2 t (by omega)
