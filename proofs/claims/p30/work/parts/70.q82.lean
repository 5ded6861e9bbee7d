/-! least -/
def hasR (E : En) (q : Nat → Nat) (pl L : Nat) : Prop := ∃ e, ldr E (pac (shf q pl) L) (en_m E) = some e
def vaL (E : En) (q : Nat → Nat) (j L : Nat) : Prop := L = 1 ∨ hasR E q (j - L) L
def Fw (E : En) (lg : Nat) (q : Nat → Nat) (F : Nat → Nat) (j k b : Nat) : Prop := (∀ L, 1 ≤ L → L ≤ min j lg → L < k → vaL E q j L → b ≤ F (j - L) + 1) ∧ ∃ L, 1 ≤ L ∧ L ≤ min j lg ∧ L < k ∧ vaL E q j L ∧ b = F (j - L) + 1
def FwA (E : En) (lg : Nat) (q : Nat → Nat) (F : Nat → Nat) (n : Nat) : Prop := F 0 = 0 ∧ ∀ j, 1 ≤ j → j ≤ n → Fw E lg q F j 5 (F j) ∧ F j ≤ j
theorem Fw.cong {E : En} {lg j k b : Nat} {q F G : Nat → Nat} (h : Fw E lg q F j k b) (hj : 1 ≤ j) (hg : ∀ i, i < j → F i = G i) : Fw E lg q G j k b := by
  refine ⟨fun L h1 h2 h3 h4 => ?_, ?_⟩
  · rw [← hg (j - L) (by omega)]; exact h.1 L h1 h2 h3 h4
  · obtain ⟨L, h1, h2, h3, h4, h5⟩ := h.2
    exact ⟨L, h1, h2, h3, h4, by rw [← hg (j - L) (by omega)]; exact h5⟩
theorem x6_few_28 {a : As} {T j : Nat} {F : Nat → Nat} (ok : AsOk T a) (hj : 1 ≤ j ∧ j ≤ as_N a) (K : Mem → Int32 → Option (Mem × Int32)) {σ : Mem} (ha : StC σ 0 a) (h79 : RowIs σ 79 j (fun i => nI (F i))) (hF : ∀ i, i < j → F i ≤ i) : ∀ (r k fu b : Nat), k + r = min j (as_g a) + 1 → 2 ≤ k → r < fu → b ≤ j → Fw (as_E a) (as_g a) (as_p a) F j k b → ∃ b', X6_fewestUpTo_28 K fu σ (nI j) (nI b) (nI (min j (as_g a))) (nI k) = K σ (nI b') ∧ Fw (as_E a) (as_g a) (as_p a) F j 5 b' ∧ b' ≤ j
  | 0, k, 0, _, _, _, h, _, _ => absurd h (by omega)
  | r + 1, k, 0, _, _, _, h, _, _ => absurd h (by omega)
  | 0, k, fu + 1, b, h1, _, _, hb, hw => by
    have hN := ok.1
    have hg := ok.2.2.2.2.1
    refine ⟨b, ?_, ⟨fun L h1 h2 h3 h4 => hw.1 L h1 h2 (by omega) h4, ?_⟩, hb⟩
    · rw [X6_fewestUpTo_28, if_pos (nI_lt (by omega) (by omega))]
    · obtain ⟨L, g1, g2, g3, g4⟩ := hw.2
      exact ⟨L, g1, g2, by omega, g4⟩
  | r + 1, k, fu + 1, b, h1, hk, hf, hb, hw => by
    have hN := ok.1
    have hg := ok.2.2.2.2.1
    have hkj : k ≤ j := by omega
    have hlt := pac_lt4 (q := shf (as_p a) (j - k)) (L := k) (by omega) (fun t ht => (ok.2.1 _ (by omega)).2)
    rw [X6_fewestUpTo_28, if_neg (nI_nlt (by omega) (by omega)), pk_sub hkj, ha.p ok (by omega) (by omega), uB]
    dsimp only
    rw [x0_leaderOf ha.2.1 ok.2.2.1 (by omega), uB]
    dsimp only
    cases hl : ldr (as_E a) (pac (shf (as_p a) (j - k)) k) (en_m (as_E a)) with
    | none =>
      rw [if_pos (show oN none = (-1 : Int32) from rfl), nI_1]
      have hno : ¬ vaL (as_E a) (as_p a) j k := fun x => by
        rcases x with x | ⟨e, x⟩
        · omega
        · rw [hl] at x; cases x
      refine x6_few_28 ok hj K ha h79 hF r (k + 1) fu b (by omega) (by omega) (by omega) hb ⟨fun L g1 g2 g3 g4 => ?_, ?_⟩
      · by_cases c : L = k
        · subst c; exact absurd g4 hno
        · exact hw.1 L g1 g2 (by omega) g4
      · obtain ⟨L, g1, g2, g3, g4⟩ := hw.2
        exact ⟨L, g1, g2, by omega, g4⟩
    | some e =>
      have he := ldr_lt hl
      have hm := ok.2.2.1.1
      have hFk := hF (j - k) (by omega)
      have hyes : vaL (as_E a) (as_p a) j k := Or.inr ⟨e, hl⟩
      rw [if_neg (show ¬ oN (some e) = (-1 : Int32) from nI_nem1 (by omega)), x3_at h79 (by rw [cap79']; omega) (by rw [cap79']; omega) (show j - k < j by omega), uB]
      dsimp only
      rw [nI_1, nI_1]
      by_cases c : F (j - k) + 1 < b
      · rw [if_pos (nI_lt c (by omega))]
        refine x6_few_28 ok hj K ha h79 hF r (k + 1) fu (F (j - k) + 1) (by omega) (by omega) (by omega) (by omega) ⟨fun L g1 g2 g3 g4 => ?_, ?_⟩
        · by_cases c2 : L = k
          · subst c2; omega
          · have := hw.1 L g1 g2 (by omega) g4; omega
        · exact ⟨k, by omega, by omega, by omega, hyes, rfl⟩
      · rw [if_neg (nI_nlt (by omega) (by omega))]
        refine x6_few_28 ok hj K ha h79 hF r (k + 1) fu b (by omega) (by omega) (by omega) hb ⟨fun L g1 g2 g3 g4 => ?_, ?_⟩
        · by_cases c2 : L = k
          · subst c2; omega
          · exact hw.1 L g1 g2 (by omega) g4
        · obtain ⟨L, g1, g2, g3, g4⟩ := hw.2
          exact ⟨L, g1, g2, by omega, g4⟩
theorem x6_few {a : As} {T j : Nat} {F : Nat → Nat} (ok : AsOk T a) (hj : 1 ≤ j ∧ j ≤ as_N a) {σ : Mem} (ha : StC σ 0 a) (h79 : RowIs σ 79 j (fun i => nI (F i))) (hF : ∀ i, i < j → F i ≤ i) : ∃ b', X6_fewestUpTo σ (nI j) = some (σ, nI b') ∧ Fw (as_E a) (as_g a) (as_p a) F j 5 b' ∧ b' ≤ j := by
  have hN := ok.1
  have hg := ok.2.2.2.2.1
  have h1 := hF (j - 1) (by omega)
  obtain ⟨b', e, h⟩ := x6_few_28 ok hj (fun σ v => some (σ, v)) ha h79 hF (min j (as_g a) - 1) 2 FU (F (j - 1) + 1) (by omega) (by omega) (by unfold FU; omega) (by omega) ⟨fun L g1 g2 g3 g4 => by rw [show L = 1 by omega]; omega, ⟨1, by omega, by omega, by omega, Or.inl rfl, rfl⟩⟩
  refine ⟨b', ?_, h⟩
  have hmn : (if nI j < nI (as_g a) then nI j else nI (as_g a)) = nI (min j (as_g a)) := by
    by_cases c : j < as_g a
    · rw [if_pos (nI_lt c (by omega)), Nat.min_eq_left (by omega)]
    · rw [if_neg (nI_nlt (by omega) (by omega)), Nat.min_eq_right (by omega)]
  unfold X6_fewestUpTo
  rw [show nI j - 1 = nI (j - 1) from pk_sub (b := 1) hj.1, x3_at h79 (by rw [cap79']; omega) (by rw [cap79']; omega) (show j - 1 < j by omega), uB]
  dsimp only
  rw [nI_1, ha.2.2.2.1, hmn]
  exact e
theorem x6_least_18 {a : As} {T : Nat} (ok : AsOk T a) (K : Mem → Option (Mem × Int32)) : ∀ (r j fu : Nat) (σ : Mem) (F : Nat → Nat), j + r = as_N a + 1 → 1 ≤ j → r < fu → StC σ 0 a → RowIs σ 79 j (fun i => nI (F i)) → FwA (as_E a) (as_g a) (as_p a) F (j - 1) → ∃ σ' F', X6_least_18 K fu σ (nI j) = K σ' ∧ RowIs σ' 79 (as_N a + 1) (fun i => nI (F' i)) ∧ FwA (as_E a) (as_g a) (as_p a) F' (as_N a) ∧ Off 79 81 σ σ'
  | 0, j, 0, _, _, _, _, h, _, _, _ => absurd h (by omega)
  | r + 1, j, 0, _, _, _, _, h, _, _, _ => absurd h (by omega)
  | 0, j, fu + 1, σ, F, h1, h2, _, ha, h79, hF => by
    have hN := ok.1
    have : j = as_N a + 1 := by omega
    subst this
    refine ⟨σ, F, ?_, h79, hF, Off.rfl'⟩
    unfold X6_least_18 X3_length
    rw [uB, ha.1.1, if_pos (nI_lt (by omega) (by omega))]
  | r + 1, j, fu + 1, σ, F, h1, h2, hf, ha, h79, hF => by
    have hN := ok.1
    have hF0 : ∀ i, i < j → F i ≤ i := fun i hi => by
      by_cases c : i = 0
      · subst c; rw [hF.1]; exact Nat.le_refl _
      · exact (hF.2 i (by omega) (by omega)).2
    obtain ⟨b, e1, hb, hbj⟩ := x6_few ok ⟨h2, by omega⟩ ha h79 hF0
    obtain ⟨σ1, e2, g1, o1⟩ := x3_put h79 (by rw [cap79']; omega) (by rw [cap79']; omega) (nI b)
    rw [upd_updn] at g1
    have hlow : ∀ i, i < j → F i = updn F j b i := fun i hi => (updn_o _ _ (by omega)).symm
    obtain ⟨σ2, F', e3, g2, g3, o2⟩ := x6_least_18 ok K r (j + 1) fu σ1 (updn F j b) (by omega) (by omega) (by omega) (ha.off o1 (by omega)) g1 ⟨by rw [← hlow 0 (by omega)]; exact hF.1, fun i i1 i2 => by
      by_cases c : i = j
      · subst c; rw [updn_1]; exact ⟨hb.cong h2 hlow, hbj⟩
      · rw [← hlow i (by omega)]
        obtain ⟨k1, k2⟩ := hF.2 i i1 (by omega)
        exact ⟨k1.cong i1 (fun t ht => hlow t (by omega)), k2⟩⟩
    refine ⟨σ2, F', ?_, g2, g3, (o1.mono (by omega) (by omega)).trans o2⟩
    unfold X6_least_18 X3_length
    rw [uB, ha.1.1, if_neg (nI_nlt (by omega) (by omega))]
    dsimp only
    rw [e1, uB]
    dsimp only
    rw [e2, uB, nI_1, e3]
theorem x6_least {σ : Mem} {a : As} {T : Nat} (ok : AsOk T a) (ha : StC σ 0 a) (h79 : RowI σ 79) : ∃ σ' F, X6_least σ = some (σ', nI (F (as_N a))) ∧ FwA (as_E a) (as_g a) (as_p a) F (as_N a) ∧ RowI σ' 79 ∧ Off 79 81 σ σ' := by
  have hN := ok.1
  obtain ⟨n, f, hn, hr⟩ := h79
  rw [cap79'] at hn
  obtain ⟨σ1, e1, g1, o1⟩ := x3_shorten0 (i := 79) hr (by omega)
  obtain ⟨σ2, e2, g2, o2⟩ := x3_put g1 (by rw [cap79']; omega) (by rw [cap79']; omega) (0 : Int32)
  have g2 : RowIs σ2 79 1 (fun i => nI ((fun _ => 0) i)) := RowIs.le g2 (fun j hj => by rw [show j = 0 by omega]; rfl)
  obtain ⟨σ3, F, e3, g3, g4, o3⟩ := x6_least_18 ok (fun (σ : Mem)  => ((X3_length 1 σ).bind fun q11 => ((X3_at 79 q11.1 q11.2).bind fun q13 => some (q13.1, q13.2)))) (as_N a) 1 FU σ2 (fun _ => 0) (by omega) (by omega) (by unfold FU; omega) ((ha.off o1 (by omega)).off o2 (by omega)) g2 ⟨rfl, fun j h1 h2 => absurd h2 (by omega)⟩
  have a3 := ((ha.off o1 (by omega)).off o2 (by omega)).off o3 (by omega)
  refine ⟨σ3, F, ?_, g4, ⟨_, _, by rw [cap79']; omega, g3⟩, ((o1.mono (by omega) (by omega)).trans (o2.mono (by omega) (by omega))).trans o3⟩
  unfold X6_least
  rw [e1, uB, e2, uB]
  refine e3.trans ?_
  unfold X3_length
  rw [uB]
  dsimp only
  rw [a3.1.1, x3_at g3 (by rw [cap79']; omega) (by rw [cap79']; omega) (by omega), uB]
/-! parts of a paper -/
def St (E : En) (lg N : Nat) (q : Nat → Nat) (i j : Nat) : Prop := j = i + 1 ∨ ∃ e, atE E lg N q i e ∧ j = i + en_l E e
def Pt (E : En) (lg N : Nat) (q : Nat → Nat) : Nat → Nat → Nat → Prop
  | 0, i, j => i = j
  | c + 1, i, j => ∃ k, Pt E lg N q c i k ∧ St E lg N q k j
theorem St.lt {E : En} (ok : EnOk E) {lg N i j : Nat} {q : Nat → Nat} (h : St E lg N q i j) : i < j := by
  rcases h with h | ⟨e, h, h2⟩
  · omega
  · have := (ok.2 e h.1).1; omega
theorem Pt.le {E : En} (ok : EnOk E) {lg N : Nat} {q : Nat → Nat} : ∀ {c i j : Nat}, Pt E lg N q c i j → i ≤ j
  | 0, i, j, h => by have h : i = j := h; omega
  | c + 1, i, j, ⟨k, h1, h2⟩ => by
    have := Pt.le ok h1
    have := h2.lt ok
    omega
theorem Pt.front {E : En} {lg N : Nat} {q : Nat → Nat} : ∀ {c i k j : Nat}, St E lg N q i k → Pt E lg N q c k j → Pt E lg N q (c + 1) i j
  | 0, i, k, j, h1, h2 => by
    have h2 : k = j := h2
    subst h2
    exact ⟨i, rfl, h1⟩
  | c + 1, i, k, j, h1, ⟨l, h2, h3⟩ => ⟨l, Pt.front h1 h2, h3⟩
theorem Pt.unfront {E : En} {lg N : Nat} {q : Nat → Nat} : ∀ {c i j : Nat}, Pt E lg N q (c + 1) i j → ∃ k, St E lg N q i k ∧ Pt E lg N q c k j
  | 0, i, j, ⟨k, h1, h2⟩ => by
    have h1 : i = k := h1
    subst h1
    exact ⟨j, h2, rfl⟩
  | c + 1, i, j, ⟨l, h1, h2⟩ => by
    obtain ⟨k, h3, h4⟩ := Pt.unfront h1
    exact ⟨k, h3, l, h4, h2⟩
theorem hasR_at {E : En} (ok : EnOk E) {lg N : Nat} {q : Nat → Nat} (hq : ShOk N q) {i L : Nat} (hp : i + L ≤ N) (hL : L ≤ lg) : hasR E q i L ↔ ∃ e, atE E lg N q i e ∧ en_l E e = L := by
  refine ⟨fun ⟨e, h⟩ => ?_, fun ⟨e, h, h2⟩ => ?_⟩
  · obtain ⟨h1, h2, h3⟩ := ldr_some h
    obtain ⟨h4, h5⟩ := (k_at ok hq hp h1).mp h2
    exact ⟨e, ⟨h1, by omega, by omega, h5⟩, h4⟩
  · have hk := (k_at ok hq hp h.1).mpr ⟨h2, h.2.2.2⟩
    cases hl : ldr E (pac (shf q i) L) (en_m E) with
    | none => exact absurd hk (ldr_none.mp hl e h.1)
    | some e0 => exact ⟨e0, hl⟩
/-- the class's way gives the least -/
theorem fw_least {E : En} (ok : EnOk E) {lg N : Nat} (hlg : 1 ≤ lg ∧ lg ≤ 4) {q : Nat → Nat} (hq : ShOk N q) {F : Nat → Nat} (h : FwA E lg q F N) : ∀ n j, j ≤ n → j ≤ N → Pt E lg N q (F j) 0 j ∧ ∀ c, Pt E lg N q c 0 j → F j ≤ c
  | n, 0, _, _ => by rw [h.1]; exact ⟨rfl, fun c _ => Nat.zero_le _⟩
  | 0, j + 1, h1, _ => absurd h1 (by omega)
  | n + 1, j + 1, h1, h2 => by
    obtain ⟨⟨k1, L, k2, k3, k4, k5, k6⟩, k7⟩ := h.2 (j + 1) (by omega) h2
    refine ⟨?_, fun c hc => ?_⟩
    · rw [k6]
      refine ⟨j + 1 - L, (fw_least ok hlg hq h n (j + 1 - L) (by omega) (by omega)).1, ?_⟩
      rcases k5 with k5 | k5
      · left; omega
      · obtain ⟨e, g1, g2⟩ := (hasR_at ok hq (lg := lg) (N := N) (by omega) (by omega)).mp k5
        exact Or.inr ⟨e, g1, by omega⟩
    · cases c with
      | zero => have hc : 0 = j + 1 := hc; omega
      | succ c =>
        obtain ⟨k, g1, g2⟩ := hc
        have hkj := g2.lt ok
        have ih := (fw_least ok hlg hq h n k (by omega) (by omega)).2 c g1
        rcases g2 with g2 | ⟨e, g2, g3⟩
        · have := k1 1 (by omega) (by omega) (by omega) (Or.inl rfl)
          rw [show j + 1 - 1 = k by omega] at this
          omega
        · have h4 := (ok.2 e g2.1).1
          have h5 := g2.2.1
          have := k1 (en_l E e) (by omega) (by omega) (by omega) (Or.inr ((hasR_at ok hq (lg := lg) (N := N) (by omega) (by omega)).mpr ⟨e, by rw [show j + 1 - en_l E e = k by omega]; exact g2, rfl⟩))
          rw [show j + 1 - en_l E e = k by omega] at this
          omega
/-- the fewest parts -/
def LeastIs (a : As) (x : Nat) : Prop := Pt (as_E a) (as_g a) (as_N a) (as_p a) x 0 (as_N a) ∧ ∀ c, Pt (as_E a) (as_g a) (as_N a) (as_p a) c 0 (as_N a) → x ≤ c
theorem least_one {a : As} {x y : Nat} (h : LeastIs a x) (h2 : LeastIs a y) : x = y := Nat.le_antisymm (h.2 y h2.1) (h2.2 x h.1)
theorem x6_leastIs {σ : Mem} {a : As} {T : Nat} (ok : AsOk T a) (ha : StC σ 0 a) (h79 : RowI σ 79) : ∃ σ' x, X6_least σ = some (σ', nI x) ∧ LeastIs a x ∧ x ≤ 60 ∧ RowI σ' 79 ∧ Off 79 81 σ σ' := by
  have hN := ok.1
  obtain ⟨σ', F, e, h1, h2, h3⟩ := x6_least ok ha h79
  have h4 := fw_least ok.2.2.1 ok.2.2.2.2.1 ok.2.1 h1 (as_N a) (as_N a) (Nat.le_refl _) (Nat.le_refl _)
  refine ⟨σ', _, e, h4, ?_, h2, h3⟩
  by_cases c : as_N a = 0
  · rw [c, h1.1]; omega
  · have := (h1.2 (as_N a) (by omega) (Nat.le_refl _)).2; omega
theorem ClS.s79 {σ σ' : Mem} (h : ClS σ) (o : Off 79 81 σ σ') (h2 : RowI σ' 79) : ClS σ' := ⟨h.1.off o (by omega), h.2.1.off o (by omega), h.2.2.1.off o (by omega), h.2.2.2.1.off o (by omega), h2⟩
theorem q_least {σ : Mem} {w : Wd} {T : Nat} (hP : ClP σ w) (hS : ClS σ) (ok : AsOk T (w_a w)) : ∃ x, LeastIs (w_a w) x ∧ x ≤ 60 ∧ Ans1 (X6_least σ) σ w (nI x) := by
  obtain ⟨σ1, x, e1, h1, h2, h3, o1⟩ := x6_leastIs ok hP.1 hS.2.2.2.2
  exact ⟨x, h1, h2, σ1, e1, hP.off o1 (by omega) (by omega), hS.s79 o1 h3, o1.mono (by omega) (by omega)⟩
