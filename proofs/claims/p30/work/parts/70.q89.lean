def TI (i s m k : Nat) : Prop := s ≤ 11 ∧ (s = 0 → m = 0 ∧ 2 * k ≤ i) ∧ (s = 11 → m = 0) ∧ (1 ≤ s → 2 * k + 1 ≤ i) ∧ (1 ≤ s → s ≤ 10 → 1 ≤ m ∧ m < 2 ^ s)
theorem p2_le {a b : Nat} (h : a ≤ b) : 2 ^ a ≤ 2 ^ b := Nat.pow_le_pow_right (by omega) h
theorem TI.m {i s m k : Nat} (h : TI i s m k) : m < 1024 := by
  obtain ⟨h1, h2, h3, h4, h5⟩ := h
  rcases (show s = 0 ∨ s = 11 ∨ (1 ≤ s ∧ s ≤ 10) by omega) with c | c | c
  · have := (h2 c).1; omega
  · have := h3 c; omega
  · have := (h5 c.1 c.2).2
    have := p2_le c.2
    omega
theorem stp_letter {s c s' : Nat} (h : stp s c = some s') (h0 : s' ≠ 0) (h11 : s' ≠ 11) : ∃ k, keyF c = some k ∧ s ≤ k ∧ s' = k + 1 ∧ k < 10 ∧ c ≠ 42 ∧ c ≠ 47 := by
  unfold stp at h
  by_cases c1 : c = 47
  · rw [if_pos c1] at h
    split at h
    · cases h
    · cases h; exact absurd rfl h0
  · rw [if_neg c1] at h
    by_cases c2 : c = 42
    · rw [if_pos c2] at h
      split at h
      · cases h; exact absurd rfl h11
      · cases h
    · rw [if_neg c2] at h
      cases hk : keyF c with
      | none => rw [hk] at h; cases h
      | some k =>
        rw [hk] at h
        have h : (if s ≤ k then some (k + 1) else none) = some s' := h
        by_cases c3 : s ≤ k
        · rw [if_pos c3] at h; cases h; exact ⟨k, rfl, c3, rfl, keyF_lt hk, c2, c1⟩
        · rw [if_neg c3] at h; cases h
theorem stp_0 {s c : Nat} (h : stp s c = some 0) : c = 47 ∧ s ≠ 0 := by
  unfold stp at h
  by_cases c1 : c = 47
  · rw [if_pos c1] at h
    by_cases c2 : s = 0
    · rw [if_pos c2] at h; cases h
    · exact ⟨c1, c2⟩
  · rw [if_neg c1] at h
    split at h
    · split at h <;> cases h
    · cases hk : keyF c with
      | none => rw [hk] at h; cases h
      | some k =>
        rw [hk] at h
        have h : (if s ≤ k then some (k + 1) else none) = some 0 := h
        split at h <;> cases h
theorem stp_11 {s c : Nat} (h : stp s c = some 11) : c = 42 ∧ s = 0 := by
  unfold stp at h
  by_cases c1 : c = 47
  · rw [if_pos c1] at h
    split at h <;> cases h
  · rw [if_neg c1] at h
    by_cases c2 : c = 42
    · rw [if_pos c2] at h
      split at h
      · exact ⟨c2, by assumption⟩
      · cases h
    · rw [if_neg c2] at h
      cases hk : keyF c with
      | none => rw [hk] at h; cases h
      | some k =>
        have := keyF_lt hk
        rw [hk] at h
        have h : (if s ≤ k then some (k + 1) else none) = some 11 := h
        split at h
        · cases h; omega
        · cases h
theorem TI.step0 {i s m k c : Nat} (h : TI i s m k) (hs : stp s c = some 0) : TI (i + 1) 0 0 (k + 1) := by
  obtain ⟨h1, h2, h3, h4, h5⟩ := h
  have := (stp_0 hs).2
  have := h4 (by omega)
  exact ⟨by omega, fun _ => ⟨rfl, by omega⟩, fun x => by omega, fun x => by omega, fun x => by omega⟩
theorem TI.step11 {i s m k c : Nat} (h : TI i s m k) (hs : stp s c = some 11) : TI (i + 1) 11 m k := by
  obtain ⟨h1, h2, h3, h4, h5⟩ := h
  have := (stp_11 hs).2
  have := h2 this
  exact ⟨by omega, fun x => by omega, fun _ => this.1, fun x => by omega, fun x y => by omega⟩
theorem TI.stepk {i s m k c s' : Nat} (h : TI i s m k) (hs : stp s c = some s') (h0 : s' ≠ 0) (h11 : s' ≠ 11) : TI (i + 1) s' (m + 2 ^ (s' - 1)) k ∧ m < 2 ^ (s' - 1) := by
  obtain ⟨h1, h2, h3, h4, h5⟩ := h
  obtain ⟨k', g1, g2, g3, g4, g5⟩ := stp_letter hs h0 h11
  subst g3
  rw [Nat.add_sub_cancel]
  have hm : m < 2 ^ k' := by
    rcases Nat.eq_zero_or_pos s with c | c
    · rw [(h2 c).1]; exact Nat.two_pow_pos _
    · exact Nat.lt_of_lt_of_le (h5 c (by omega)).2 (p2_le g2)
  refine ⟨⟨by omega, fun x => by omega, fun x => by omega, fun _ => ?_, fun _ _ => ?_⟩, hm⟩
  · rcases Nat.eq_zero_or_pos s with c | c
    · have := (h2 c).2; omega
    · have := h4 c; omega
  · rw [Nat.pow_succ]; omega
theorem cpr_ok {n : Nat} {t : Nat → Nat} (hn : n ≤ 60) : ∀ (r i s m k : Nat) (tl : Nat → Nat), i + r = n → TI i s m k → (∀ j, j < k → tl j < 1024) → (cpr n t r i s m k tl).2.1 ≤ n ∧ (∀ j, j < (cpr n t r i s m k tl).2.2.1 → (cpr n t r i s m k tl).2.2.2 j < 1024) ∧ (cpr n t r i s m k tl).2.2.1 ≤ 31 ∧ ((cpr n t r i s m k tl).1 = true → 1 ≤ (cpr n t r i s m k tl).2.2.1 ∧ (cpr n t r i s m k tl).2.2.1 ≤ 30)
  | 0, i, s, m, k, tl, h1, hT, htl => by
    have hm := hT.m
    obtain ⟨t1, t2, t3, t4, t5⟩ := hT
    refine ⟨Nat.le_refl _, fun j hj => ?_, ?_, fun hk => ?_⟩
    · have hj : j < k + 1 := hj
      show updn tl k m j < 1024
      by_cases c : j = k
      · rw [c, updn_1]; exact hm
      · rw [updn_o _ _ c]; exact htl j (by omega)
    · show k + 1 ≤ 31
      by_cases c : s = 0
      · have := t2 c; omega
      · have := t4 (by omega); omega
    · have hs : s ≠ 0 := of_decide_eq_true hk
      have := t4 (by omega)
      exact ⟨by show 1 ≤ k + 1; omega, by show k + 1 ≤ 30; omega⟩
  | r + 1, i, s, m, k, tl, h1, hT, htl => by
    rw [cpr]
    cases hst : stp s (t i) with
    | none =>
      refine ⟨by show i ≤ n; omega, htl, ?_, fun x => by cases x⟩
      obtain ⟨t1, t2, t3, t4, t5⟩ := hT
      show k ≤ 31
      by_cases c : s = 0
      · have := t2 c; omega
      · have := t4 (by omega); omega
    | some s' =>
      dsimp only
      by_cases c0 : s' = 0
      · rw [if_pos c0]
        subst c0
        refine cpr_ok hn r (i + 1) 0 0 (k + 1) _ (by omega) (hT.step0 hst) (fun j hj => ?_)
        by_cases c : j = k
        · rw [c, updn_1]; exact hT.m
        · rw [updn_o _ _ c]; exact htl j (by omega)
      · rw [if_neg c0]
        by_cases c11 : s' = 11
        · rw [if_pos c11]
          subst c11
          exact cpr_ok hn r (i + 1) 11 m k _ (by omega) (hT.step11 hst) htl
        · rw [if_neg c11]
          exact cpr_ok hn r (i + 1) s' _ k _ (by omega) (hT.stepk hst c0 c11).1 htl
theorem TI.z : TI 0 0 0 0 := ⟨by omega, fun _ => ⟨rfl, by omega⟩, fun _ => rfl, fun x => by omega, fun x => by omega⟩
theorem tRead_ok {n : Nat} {t : Nat → Nat} (hn : n ≤ 60) : (tRead n t).2.1 ≤ n ∧ (∀ j, j < (tRead n t).2.2.1 → (tRead n t).2.2.2 j < 1024) ∧ (tRead n t).2.2.1 ≤ 31 ∧ ((tRead n t).1 = true → 1 ≤ (tRead n t).2.2.1 ∧ (tRead n t).2.2.1 ≤ 30) := cpr_ok hn n 0 0 0 0 _ (by omega) TI.z (fun j hj => by omega)
theorem shf31 : ∀ l, l < 31 → (1 : Int32) <<< (nI l &&& 31) = nI (2 ^ l) := by decide +kernel
theorem fa_or (a b : Nat) : nI a ||| nI b = nI (a ||| b) := by
  apply Int32.toBitVec_inj.1
  show BitVec.ofNat 32 a ||| BitVec.ofNat 32 b = BitVec.ofNat 32 (a ||| b)
  apply BitVec.eq_of_getLsbD_eq
  intro i hi
  simp [hi]
theorem or_bit {m l : Nat} (h : m < 2 ^ l) : nI m ||| nI (2 ^ l) = nI (m + 2 ^ l) := by
  rw [fa_or, Nat.or_comm]
  have := Nat.two_pow_add_eq_or_of_lt h 1
  rw [Nat.mul_one] at this
  rw [← this, Nat.add_comm]
theorem x1_tell_12 {n : Nat} {t : Nat → Nat} (hx : TxOk n t) : ∀ (r i fu s m k : Nat) (tl : Nat → Nat) (σ : Mem), i + r = n → r < fu → TI i s m k → RowIs σ 59 n (fun j => nI (t j)) → RowIs σ 77 k (fun j => nI (tl j)) → ∃ σ', X1_tellStrokes_12 77 (fun (σ : Mem) (v2 : Int32) (v3 : Int32) => ((X3_put 77 σ v3).bind fun q11 => (if v2 = (-1 : Int32) then some (q11.1, (0 : Int32)) else some (q11.1, (1 : Int32))))) fu σ (sI s) (nI m) (nI i) = some (σ', bI (cpr n t r i s m k tl).1) ∧ RowIs σ' 77 (cpr n t r i s m k tl).2.2.1 (fun j => nI ((cpr n t r i s m k tl).2.2.2 j)) ∧ Off 77 79 σ σ'
  | r, i, 0, _, _, _, _, _, _, h, _, _, _ => absurd h (by omega)
  | 0, i, fu + 1, s, m, k, tl, σ, h1, _, hT, h59, h77 => by
    have hn := hx.1
    have hk : k < 60 := by
      obtain ⟨t1, t2, t3, t4, t5⟩ := hT
      by_cases c : s = 0
      · have := t2 c; omega
      · have := t4 (by omega); omega
    obtain ⟨σ1, e1, g1, o1⟩ := x3_put h77 (by rw [cap77']; exact hk) (by rw [cap77']; omega) (nI m)
    rw [upd_updn] at g1
    refine ⟨σ1, ?_, g1, o1⟩
    unfold X1_tellStrokes_12 X3_length
    rw [uB, h59.1, if_pos (nI_le (by omega) (by omega))]
    dsimp only
    rw [e1, uB]
    show _ = some (σ1, bI (decide (s ≠ 0)))
    unfold sI
    by_cases c : s = 0
    · rw [if_pos c, if_pos rfl, decide_eq_false (by omega)]; rfl
    · have := hT.1
      rw [if_neg c, if_neg (nI_nem1 (by omega)), decide_eq_true c]; rfl
  | r + 1, i, fu + 1, s, m, k, tl, σ, h1, hf, hT, h59, h77 => by
    have hn := hx.1
    have hc := hx.2 i (by omega)
    have hs := hT.1
    have hk : k < 60 := by
      obtain ⟨t1, t2, t3, t4, t5⟩ := hT
      by_cases c : s = 0
      · have := t2 c; omega
      · have := t4 (by omega); omega
    have e0 : X1_tellStrokes_12 77 (fun (σ : Mem) (v2 : Int32) (v3 : Int32) => ((X3_put 77 σ v3).bind fun q11 => (if v2 = (-1 : Int32) then some (q11.1, (0 : Int32)) else some (q11.1, (1 : Int32))))) (fu + 1) σ (sI s) (nI m) (nI i) = (if oS (stp s (t i)) = (-2 : Int32) then some (σ, (0 : Int32)) else (if oS (stp s (t i)) = (-1 : Int32) then ((X3_put 77 σ (nI m)).bind fun q9 => X1_tellStrokes_12 77 (fun (σ : Mem) (v2 : Int32) (v3 : Int32) => ((X3_put 77 σ v3).bind fun q11 => (if v2 = (-1 : Int32) then some (q11.1, (0 : Int32)) else some (q11.1, (1 : Int32))))) fu q9.1 (oS (stp s (t i))) (0 : Int32) (nI (i + 1))) else (if oS (stp s (t i)) = (10 : Int32) then X1_tellStrokes_12 77 (fun (σ : Mem) (v2 : Int32) (v3 : Int32) => ((X3_put 77 σ v3).bind fun q11 => (if v2 = (-1 : Int32) then some (q11.1, (0 : Int32)) else some (q11.1, (1 : Int32))))) fu σ (oS (stp s (t i))) (nI m) (nI (i + 1)) else X1_tellStrokes_12 77 (fun (σ : Mem) (v2 : Int32) (v3 : Int32) => ((X3_put 77 σ v3).bind fun q11 => (if v2 = (-1 : Int32) then some (q11.1, (0 : Int32)) else some (q11.1, (1 : Int32))))) fu σ (oS (stp s (t i))) (nI m ||| ((1 : Int32) <<< (oS (stp s (t i)) &&& 31))) (nI (i + 1))))) := by
      conv => lhs; unfold X1_tellStrokes_12 X3_length
      rw [uB, h59.1, if_neg (nI_ge (by omega) (by omega)), x3_at h59 (by rw [cap59']; exact hn) (by rw [cap59']; omega) (by omega), uB]
      dsimp only
      rw [x1_stand hs (by omega), uB, nI_1]
    rw [e0, cpr]
    cases hst : stp s (t i) with
    | none =>
      rw [if_pos (show oS none = (-2 : Int32) from rfl)]
      exact ⟨σ, rfl, h77, Off.rfl'⟩
    | some s' =>
      have hs' := stp_le hst
      rw [if_neg (fun x => by have := (oS_m2 (some s') (fun s h => by cases h; exact hs')).mp x; cases this)]
      dsimp only
      by_cases c0 : s' = 0
      · subst c0
        obtain ⟨σ1, e1, g1, o1⟩ := x3_put h77 (by rw [cap77']; exact hk) (by rw [cap77']; omega) (nI m)
        rw [upd_updn] at g1
        obtain ⟨σ2, e2, g2, o2⟩ := x1_tell_12 hx r (i + 1) fu 0 0 (k + 1) (updn tl k m) σ1 (by omega) (by omega) (hT.step0 hst) (h59.off o1 (by omega)) g1
        rw [if_pos (show oS (some 0) = (-1 : Int32) from rfl), if_pos rfl, e1, uB]
        exact ⟨σ2, e2, g2, o1.trans o2⟩
      · have hsI : oS (some s') = nI (s' - 1) := by show sI s' = _; unfold sI; rw [if_neg c0]
        rw [if_neg (show ¬ oS (some s') = (-1 : Int32) by rw [hsI]; exact nI_nem1 (by omega)), if_neg c0]
        by_cases c11 : s' = 11
        · subst c11
          rw [if_pos (show oS (some 11) = (10 : Int32) from rfl), if_pos rfl]
          exact x1_tell_12 hx r (i + 1) fu 11 m k tl σ (by omega) (by omega) (hT.step11 hst) h59 h77
        · obtain ⟨hT', hm⟩ := hT.stepk hst c0 c11
          rw [if_neg (show ¬ oS (some s') = (10 : Int32) by rw [hsI]; exact fun x => by have := (nI_eq (b := 10) (by omega) (by omega)).mp x; omega), if_neg c11, hsI, shf31 (s' - 1) (by omega), or_bit hm]
          have := x1_tell_12 hx r (i + 1) fu s' (m + 2 ^ (s' - 1)) k tl σ (by omega) (by omega) hT' h59 h77
          rw [show sI s' = nI (s' - 1) from hsI] at this
          exact this
theorem x1_tell {n : Nat} {t : Nat → Nat} (hx : TxOk n t) {σ : Mem} (h59 : RowIs σ 59 n (fun j => nI (t j))) (h77 : RowI σ 77) : ∃ σ', X1_tellStrokes 77 σ = some (σ', bI (tRead n t).1) ∧ RowIs σ' 77 (tRead n t).2.2.1 (fun j => nI ((tRead n t).2.2.2 j)) ∧ Off 77 79 σ σ' := by
  obtain ⟨k, f, hk, hr⟩ := h77
  rw [cap77'] at hk
  obtain ⟨σ1, e1, g1, o1⟩ := x3_shorten0 (i := 77) hr (by omega)
  have g1 : RowIs σ1 77 0 (fun j => nI ((fun _ => 0) j)) := ⟨g1.1, fun j hj => absurd hj (by omega)⟩
  obtain ⟨σ2, e2, g2, o2⟩ := x1_tell_12 hx n 0 FU 0 0 0 (fun _ => 0) σ1 (by omega) (by have := hx.1; unfold FU; omega) TI.z (h59.off o1 (by omega)) g1
  refine ⟨σ2, ?_, g2, (o1.mono (by omega) (by omega)).trans o2⟩
  unfold X1_tellStrokes
  rw [e1, uB]
  exact e2
