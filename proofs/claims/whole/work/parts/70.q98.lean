/-! TEXTS, the reference's side -/
def kv (p0 : Int32) : Int32 := (if p0 = (97 : Int32) then (4 : Int32) else (if p0 = (98 : Int32) then (-1 : Int32) else (if p0 = (99 : Int32) then (-1 : Int32) else (if p0 = (100 : Int32) then (9 : Int32) else (if p0 = (101 : Int32) then (6 : Int32) else (if p0 = (102 : Int32) then (-1 : Int32) else (if p0 = (103 : Int32) then (-1 : Int32) else (if p0 = (104 : Int32) then (-1 : Int32) else (if p0 = (105 : Int32) then (-1 : Int32) else (if p0 = (106 : Int32) then (-1 : Int32) else (if p0 = (107 : Int32) then (2 : Int32) else (if p0 = (108 : Int32) then (8 : Int32) else (if p0 = (109 : Int32) then (-1 : Int32) else (if p0 = (110 : Int32) then (-1 : Int32) else (if p0 = (111 : Int32) then (5 : Int32) else (if p0 = (112 : Int32) then (3 : Int32) else (if p0 = (113 : Int32) then (-1 : Int32) else (if p0 = (114 : Int32) then (7 : Int32) else (if p0 = (115 : Int32) then (0 : Int32) else (if p0 = (116 : Int32) then (1 : Int32) else (-1 : Int32)))))))))))))))))))))
set_option maxRecDepth 4096 in
theorem x7_kv (σ : Mem) (p0 : Int32) : X7_keyOf σ p0 = some (σ, kv p0) := by
  unfold X7_keyOf kv
  by_cases h97 : p0 = (97 : Int32)
  · rw [if_pos h97, if_pos h97]
  rw [if_neg h97, if_neg h97]
  by_cases h98 : p0 = (98 : Int32)
  · rw [if_pos h98, if_pos h98]
  rw [if_neg h98, if_neg h98]
  by_cases h99 : p0 = (99 : Int32)
  · rw [if_pos h99, if_pos h99]
  rw [if_neg h99, if_neg h99]
  by_cases h100 : p0 = (100 : Int32)
  · rw [if_pos h100, if_pos h100]
  rw [if_neg h100, if_neg h100]
  by_cases h101 : p0 = (101 : Int32)
  · rw [if_pos h101, if_pos h101]
  rw [if_neg h101, if_neg h101]
  by_cases h102 : p0 = (102 : Int32)
  · rw [if_pos h102, if_pos h102]
  rw [if_neg h102, if_neg h102]
  by_cases h103 : p0 = (103 : Int32)
  · rw [if_pos h103, if_pos h103]
  rw [if_neg h103, if_neg h103]
  by_cases h104 : p0 = (104 : Int32)
  · rw [if_pos h104, if_pos h104]
  rw [if_neg h104, if_neg h104]
  by_cases h105 : p0 = (105 : Int32)
  · rw [if_pos h105, if_pos h105]
  rw [if_neg h105, if_neg h105]
  by_cases h106 : p0 = (106 : Int32)
  · rw [if_pos h106, if_pos h106]
  rw [if_neg h106, if_neg h106]
  by_cases h107 : p0 = (107 : Int32)
  · rw [if_pos h107, if_pos h107]
  rw [if_neg h107, if_neg h107]
  by_cases h108 : p0 = (108 : Int32)
  · rw [if_pos h108, if_pos h108]
  rw [if_neg h108, if_neg h108]
  by_cases h109 : p0 = (109 : Int32)
  · rw [if_pos h109, if_pos h109]
  rw [if_neg h109, if_neg h109]
  by_cases h110 : p0 = (110 : Int32)
  · rw [if_pos h110, if_pos h110]
  rw [if_neg h110, if_neg h110]
  by_cases h111 : p0 = (111 : Int32)
  · rw [if_pos h111, if_pos h111]
  rw [if_neg h111, if_neg h111]
  by_cases h112 : p0 = (112 : Int32)
  · rw [if_pos h112, if_pos h112]
  rw [if_neg h112, if_neg h112]
  by_cases h113 : p0 = (113 : Int32)
  · rw [if_pos h113, if_pos h113]
  rw [if_neg h113, if_neg h113]
  by_cases h114 : p0 = (114 : Int32)
  · rw [if_pos h114, if_pos h114]
  rw [if_neg h114, if_neg h114]
  by_cases h115 : p0 = (115 : Int32)
  · rw [if_pos h115, if_pos h115]
  rw [if_neg h115, if_neg h115]
  by_cases h116 : p0 = (116 : Int32)
  · rw [if_pos h116, if_pos h116]
  rw [if_neg h116, if_neg h116]
theorem kv_all : ∀ c, c < 128 → kv (nI c) = oN (keyF c) := by decide +kernel
theorem x7_keyOf (σ : Mem) {c : Nat} (h : c < 128) : X7_keyOf σ (nI c) = some (σ, oN (keyF c)) := by rw [x7_kv, kv_all c h]
def TJ (s m : Nat) : Prop := (s = 0 ∧ m = 0) ∨ (1 ≤ s ∧ s ≤ 10 ∧ 2 ^ (s - 1) ≤ m ∧ m < 2 ^ s)
theorem TJ.m {s m : Nat} (h : TJ s m) : m < 1024 := by
  rcases h with h | ⟨h1, h2, h3, h4⟩
  · omega
  · have := p2_le h2
    omega
theorem TJ.lt {s m k : Nat} (h : TJ s m) (hk : s ≤ k) : m < 2 ^ k := by
  rcases h with h | ⟨h1, h2, h3, h4⟩
  · rw [h.2]; exact Nat.two_pow_pos k
  · exact Nat.lt_of_lt_of_le h4 (p2_le hk)
theorem TJ.ge {s m k : Nat} (h : TJ s m) (hk : ¬ s ≤ k) : 2 ^ k ≤ m := by
  rcases h with h | ⟨h1, h2, h3, h4⟩
  · omega
  · exact Nat.le_trans (p2_le (show k ≤ s - 1 by omega)) h3
def TxR (σ : Mem) (n : Nat) (t : Nat → Nat) : Prop := σ.1 82 5 = nI n ∧ ∀ j, j < n → σ.1 84 j = nI (t j)
theorem TxR.fr {σ σ' : Mem} {n : Nat} {t : Nat → Nat} {P : Nat → Nat → Prop} (h : TxR σ n t) (f : Fr P σ σ') (h1 : ¬ P 82 5) (h2 : ∀ j, ¬ P 84 j) : TxR σ' n t := ⟨(f.1 82 5 h1).trans h.1, fun j hj => (f.1 84 j (h2 j)).trans (h.2 j hj)⟩
theorem keyF_no {c k : Nat} (h : keyF c = some k) : c ≠ 42 ∧ c ≠ 47 := by
  refine ⟨fun x => ?_, fun x => ?_⟩
  · subst x; cases h
  · subst x; cases h
theorem stp_key {s c k : Nat} (h : keyF c = some k) (hs : s ≤ k) : stp s c = some (k + 1) := by
  have := keyF_no h
  unfold stp
  rw [if_neg this.2, if_neg this.1, h]
  exact if_pos hs
def pA6 (c j : Nat) : Prop := c = 82 ∧ j = 6
theorem x7_let {n : Nat} {t : Nat → Nat} (hx : TxOk n t) (K : Mem → Int32 → Option (Mem × Int32)) : ∀ (r i fu s m : Nat) (σ : Mem), i + r = n → r < fu → TJ s m → TxR σ n t → σ.1 82 6 = nI i → ∃ σ' i' s' m', X7_readsStroke_39 K fu σ (nI m) = K σ' (nI m') ∧ σ'.1 82 6 = nI i' ∧ Fr pA6 σ σ' ∧ i ≤ i' ∧ i' ≤ n ∧ TJ s' m' ∧ (s' ≠ s → i < i') ∧ (s ≤ s' ∧ (s' = s → i' = i)) ∧ (∀ k tl, cpr n t r i s m k tl = cpr n t (n - i') i' s' m' k tl) ∧ (i' < n → ∀ kk, keyF (t i') = some kk → ¬ s' ≤ kk)
  | r, i, 0, _, _, _, _, h, _, _, _ => absurd h (by omega)
  | 0, i, fu + 1, s, m, σ, h1, _, hT, hR, h6 => by
    have hn := hx.1
    refine ⟨σ, i, s, m, ?_, h6, Fr.rfl', Nat.le_refl _, by omega, hT, fun x => absurd rfl x, ⟨Nat.le_refl _, fun _ => rfl⟩, fun k tl => ?_, fun x => absurd x (by omega)⟩
    · rw [X7_readsStroke_39, hR.1, h6, if_pos (nI_le (by omega) (by omega))]
    · rw [show n - i = 0 by omega]
  | r + 1, i, fu + 1, s, m, σ, h1, hf, hT, hR, h6 => by
    have hn := hx.1
    have hc := hx.2 i (by omega)
    have hm := hT.m
    have stay : (∀ kk, keyF (t i) = some kk → ¬ s ≤ kk) → X7_readsStroke_39 K (fu + 1) σ (nI m) = K σ (nI m) → ∃ σ' i' s' m', X7_readsStroke_39 K (fu + 1) σ (nI m) = K σ' (nI m') ∧ σ'.1 82 6 = nI i' ∧ Fr pA6 σ σ' ∧ i ≤ i' ∧ i' ≤ n ∧ TJ s' m' ∧ (s' ≠ s → i < i') ∧ (s ≤ s' ∧ (s' = s → i' = i)) ∧ (∀ k tl, cpr n t (r + 1) i s m k tl = cpr n t (n - i') i' s' m' k tl) ∧ (i' < n → ∀ kk, keyF (t i') = some kk → ¬ s' ≤ kk) := fun g e => ⟨σ, i, s, m, e, h6, Fr.rfl', Nat.le_refl _, by omega, hT, fun x => absurd rfl x, ⟨Nat.le_refl _, fun _ => rfl⟩, fun k tl => by rw [show n - i = r + 1 by omega], fun _ => g⟩
    cases hk : keyF (t i) with
    | none =>
      refine stay (fun kk h => by rw [hk] at h; cases h) ?_
      rw [X7_readsStroke_39, hR.1, h6, if_neg (nI_ge (by omega) (by omega)), if_pos (nI_inA (by omega) (by omega)), nI_clamp (by omega), hR.2 i (by omega), x7_keyOf σ (by omega), uB, hk]
      exact if_pos rfl
    | some kk =>
      have hkk := keyF_lt hk
      have pre : X7_readsStroke_39 K (fu + 1) σ (nI m) = (if (nI m >>> (nI kk &&& 31)) = 0 then X7_readsStroke_39 K fu (setI σ 82 6 (nI (i + 1))) (nI m + ((1 : Int32) <<< (nI kk &&& 31))) else K σ (nI m)) := by
        conv => lhs; rw [X7_readsStroke_39, hR.1, h6, if_neg (nI_ge (show i < n by omega) (by omega)), if_pos (nI_inA (show i < 60 by omega) (by omega)), nI_clamp (show i < 2147483648 by omega), hR.2 i (by omega), x7_keyOf σ (show t i < 128 by omega), uB, hk]
        show (if nI kk = (-1 : Int32) then _ else _) = _
        rw [if_neg (nI_nem1 (by omega)), h6, if_pos (nI_inA (show i < 60 by omega) (by omega)), nI_clamp (show i < 2147483648 by omega), hR.2 i (by omega), x7_keyOf σ (show t i < 128 by omega), uB, hk]
        show (if (nI m >>> (nI kk &&& 31)) = 0 then _ else _) = _
        rw [h6, if_pos (nI_inA (show i < 60 by omega) (by omega)), nI_clamp (show i < 2147483648 by omega), hR.2 i (by omega), x7_keyOf σ (show t i < 128 by omega), uB, hk]
        dsimp only
        rw [h6, nI_1, uB]
        rfl
      rw [pk_shrN (by omega) (nI kk &&& 31) kk (v31 kk hkk)] at pre
      by_cases c : s ≤ kk
      · have hlt := hT.lt c
        rw [if_pos (show nI (m / 2 ^ kk) = 0 by rw [Nat.div_eq_of_lt hlt]; rfl), shf31 kk (by omega), nI_add] at pre
        have f1 : Fr pA6 σ (setI σ 82 6 (nI (i + 1))) := Fr.setI (by unfold pA6; omega)
        have hT' : TJ (kk + 1) (m + 2 ^ kk) := Or.inr ⟨by omega, by omega, by rw [Nat.add_sub_cancel]; omega, by rw [Nat.pow_succ]; omega⟩
        obtain ⟨σ', i', s', m', e, g1, g2, g3, g4, g5, g6, g7, g8, g9⟩ := x7_let hx K r (i + 1) fu (kk + 1) (m + 2 ^ kk) (setI σ 82 6 (nI (i + 1))) (by omega) (by omega) hT' (hR.fr f1 (by unfold pA6; omega) (fun j => by unfold pA6; omega)) (si_1 _ _ _ _)
        exact ⟨σ', i', s', m', pre.trans e, g1, f1.trans g2, by omega, g4, g5, fun _ => by omega, ⟨by omega, fun x => by omega⟩, fun k tl => by
          rw [cpr, stp_key hk c]
          dsimp only
          rw [if_neg (show ¬ kk + 1 = 0 by omega), if_neg (show ¬ kk + 1 = 11 by omega), Nat.add_sub_cancel]
          exact g8 k tl, g9⟩
      · have hge := hT.ge c
        have h0 : 0 < m / 2 ^ kk := Nat.div_pos hge (Nat.two_pow_pos kk)
        have h2 : m / 2 ^ kk ≤ m := Nat.div_le_self _ _
        rw [if_neg (nI_ne0 h0 (by omega))] at pre
        exact stay (fun k2 h => by rw [hk] at h; cases h; exact c) pre
theorem stp_end {s c : Nat} (h : ∀ kk, keyF c = some kk → ¬ s ≤ kk) (h42 : s = 0 → c ≠ 42) : stp s c = if c = 47 ∧ s ≠ 0 then some 0 else none := by
  unfold stp
  by_cases c1 : c = 47
  · rw [if_pos c1]
    by_cases c2 : s = 0
    · rw [if_pos c2, if_neg (fun x => x.2 c2)]
    · rw [if_neg c2, if_pos ⟨c1, c2⟩]
  · rw [if_neg c1, if_neg (show ¬ (c = 47 ∧ s ≠ 0) from fun x => c1 x.1)]
    by_cases c2 : c = 42
    · rw [if_pos c2, if_neg (fun x => h42 x c2)]
    · rw [if_neg c2]
      cases hk : keyF c with
      | none => rfl
      | some k => exact if_neg (h k hk)
/-- a stroke read: where it ends, what the text is there -/
def StkR (n : Nat) (t : Nat → Nat) (i i' s' m' : Nat) : Prop := i ≤ i' ∧ i' ≤ n ∧ m' < 1024 ∧ (s' ≠ 0 → i < i') ∧ (∀ k tl, cpr n t (n - i) i 0 0 k tl = cpr n t (n - i') i' s' m' k tl) ∧ (i' < n → stp s' (t i') = if t i' = 47 ∧ s' ≠ 0 then some 0 else none)
theorem x7_rs {n : Nat} {t : Nat → Nat} (hx : TxOk n t) {i : Nat} (hi : i ≤ n) {σ : Mem} (hR : TxR σ n t) (h6 : σ.1 82 6 = nI i) : ∃ σ' i' s' m', X7_readsStroke σ = some (σ', if s' = 0 then -1 else nI m') ∧ σ'.1 82 6 = nI i' ∧ Fr pA6 σ σ' ∧ StkR n t i i' s' m' := by
  have hn := hx.1
  have letters : (i < n → t i ≠ 42) → ∃ σ' i' s' m', X7_readsStroke_39 (fun (σ : Mem) (v1 : Int32) => (if v1 = 0 then some (σ, (-1 : Int32)) else some (σ, v1))) FU σ (0 : Int32) = some (σ', if s' = 0 then -1 else nI m') ∧ σ'.1 82 6 = nI i' ∧ Fr pA6 σ σ' ∧ StkR n t i i' s' m' := fun h42 => by
    obtain ⟨σ', i', s', m', e, g1, g2, g3, g4, g5, g6, g7, g8, g9⟩ := x7_let hx (fun (σ : Mem) (v1 : Int32) => (if v1 = 0 then some (σ, (-1 : Int32)) else some (σ, v1))) (n - i) i FU 0 0 σ (by omega) (by unfold FU; omega) (Or.inl ⟨rfl, rfl⟩) hR h6
    refine ⟨σ', i', s', m', e.trans ?_, g1, g2, g3, g4, g5.m, g6, g8, fun hi' => stp_end (g9 hi') (fun hs => ?_)⟩
    · rcases g5 with ⟨a1, a2⟩ | ⟨a1, a2, a3, a4⟩
      · rw [if_pos (show nI m' = 0 by rw [a2]; rfl), if_pos a1]
      · have := Nat.two_pow_pos (s' - 1)
        have hm := (show TJ s' m' from Or.inr ⟨a1, a2, a3, a4⟩).m
        rw [if_neg (nI_ne0 (by omega) (by omega)), if_neg (show ¬ s' = 0 by omega)]
    · have := g7.2 hs
      rw [this] at hi' ⊢
      exact h42 hi'
  by_cases c : i < n
  · by_cases c2 : t i = 42
    · have f1 : Fr pA6 σ (setI σ 82 6 (nI (i + 1))) := Fr.setI (by unfold pA6; omega)
      refine ⟨setI σ 82 6 (nI (i + 1)), i + 1, 11, 0, ?_, si_1 _ _ _ _, f1, by omega, by omega, by omega, fun _ => by omega, fun k tl => ?_, fun hi' => stp_end (fun kk hk => by have := keyF_lt hk; omega) (fun x => by omega)⟩
      · unfold X7_readsStroke
        rw [hR.1, h6, if_neg (nI_ge c (by omega)), if_pos (nI_inA (by omega) (by omega)), nI_clamp (by omega), hR.2 i c, if_pos (show nI (t i) = (42 : Int32) by rw [c2]; rfl), nI_1, uB]
        rfl
      · rw [show n - i = (n - (i + 1)) + 1 by omega, cpr, c2]
        rfl
    · obtain ⟨σ', i', s', m', e, g⟩ := letters (fun _ => c2)
      have hc := hx.2 i c
      refine ⟨σ', i', s', m', ?_, g⟩
      unfold X7_readsStroke
      rw [hR.1, h6, if_neg (nI_ge c (by omega)), if_pos (nI_inA (by omega) (by omega)), nI_clamp (by omega), hR.2 i c, if_neg (show ¬ nI (t i) = (42 : Int32) from fun x => c2 ((nI_eq (b := 42) (by omega) (by omega)).mp x))]
      exact e
  · obtain ⟨σ', i', s', m', e, g⟩ := letters (fun x => absurd x c)
    refine ⟨σ', i', s', m', ?_, g⟩
    unfold X7_readsStroke
    rw [hR.1, h6, if_pos (nI_le (by omega) (by omega))]
    exact e
def pTx (c j : Nat) : Prop := c = 85 ∨ (c = 82 ∧ (j = 6 ∨ j = 8))
theorem pTx_S {c j : Nat} (h : pTx c j) : pS c j := by unfold pTx at h; unfold pS; omega
theorem pA6_T {c j : Nat} (h : pA6 c j) : pTx c j := by unfold pA6 at h; unfold pTx; omega
theorem x7_are_15 {n : Nat} {t : Nat → Nat} (hx : TxOk n t) : ∀ (fu i s m k : Nat) (tl : Nat → Nat) (σ : Mem), i ≤ n → n - i < fu → TxR σ n t → σ.1 82 6 = nI i → ToldR σ k tl → m < 1024 → (i < n → stp s (t i) = if t i = 47 ∧ s ≠ 0 then some 0 else none) → 2 * k ≤ i → (s ≠ 0 → 2 * k + 1 ≤ i) → ∃ σ', X7_areStrokes_15 (fun (σ : Mem) => some (σ, (0 : Int32))) fu σ (if s = 0 then -1 else nI m) = some (σ', bI (cpr n t (n - i) i s m k tl).1) ∧ σ'.1 82 6 = nI (cpr n t (n - i) i s m k tl).2.1 ∧ ((cpr n t (n - i) i s m k tl).1 = true → ToldR σ' (cpr n t (n - i) i s m k tl).2.2.1 (cpr n t (n - i) i s m k tl).2.2.2) ∧ Fr pTx σ σ'
  | 0, _, _, _, _, _, _, _, h, _, _, _, _, _, _, _ => absurd h (by omega)
  | fu + 1, i, s, m, k, tl, σ, hi, hf, hR, h6, hT, hm, hst, hk, hk2 => by
    have hn := hx.1
    by_cases c0 : s = 0
    · subst c0
      rw [if_pos rfl]
      refine ⟨σ, ?_, ?_, ?_, Fr.rfl'⟩
      · rw [X7_areStrokes_15, if_pos rfl]
        by_cases c : i < n
        · rw [show n - i = (n - (i + 1)) + 1 by omega, cpr, hst c, if_neg (fun x => x.2 rfl)]; rfl
        · rw [show n - i = 0 by omega, cpr]; rfl
      · by_cases c : i < n
        · rw [show n - i = (n - (i + 1)) + 1 by omega, cpr, hst c, if_neg (fun x => x.2 rfl)]; exact h6
        · rw [show n - i = 0 by omega, cpr]; rw [h6, show i = n by omega]
      · intro x
        by_cases c : i < n
        · rw [show n - i = (n - (i + 1)) + 1 by omega, cpr, hst c, if_neg (fun x => x.2 rfl)] at x; cases x
        · rw [show n - i = 0 by omega, cpr] at x; cases x
    · have hk2 := hk2 c0
      rw [if_neg c0]
      have f1 : Fr pTx σ (setI (setI σ 85 k (nI m)) 82 8 (nI (k + 1))) := (Fr.setI (by unfold pTx; omega)).trans (Fr.setI (by unfold pTx; omega))
      have hT1 : ToldR (setI (setI σ 85 k (nI m)) 82 8 (nI (k + 1))) (k + 1) (updn tl k m) := by
        refine ⟨si_1 _ _ _ _, fun j hj => ?_⟩
        rw [si_o _ _ (by omega)]
        by_cases c : j = k
        · rw [c, si_1, updn_1]
        · rw [si_o _ _ (by omega), updn_o _ _ c]; exact hT.2 j (by omega)
      have hR1 := hR.fr f1 (by unfold pTx; omega) (fun j => by unfold pTx; omega)
      have h61 : (setI (setI σ 85 k (nI m)) 82 8 (nI (k + 1))).1 82 6 = nI i := by rw [si_o _ _ (by omega), si_o _ _ (by omega)]; exact h6
      have pre : X7_areStrokes_15 (fun (σ : Mem) => some (σ, (0 : Int32))) (fu + 1) σ (nI m) = (if nI i = nI n then some ((setI (setI σ 85 k (nI m)) 82 8 (nI (k + 1))), (1 : Int32)) else (if inA (nI i) 60 then (if ((setI (setI σ 85 k (nI m)) 82 8 (nI (k + 1))).1 84 (nI i).toNatClampNeg) = (47 : Int32) then ((some (setI (setI (setI σ 85 k (nI m)) 82 8 (nI (k + 1))) 82 6 (nI (i + 1)))).bind fun σ11 => ((X7_readsStroke σ11).bind fun q13 => X7_areStrokes_15 (fun (σ : Mem) => some (σ, (0 : Int32))) fu q13.1 q13.2)) else some ((setI (setI σ 85 k (nI m)) 82 8 (nI (k + 1))), (0 : Int32))) else none)) := by
        rw [X7_areStrokes_15, if_neg (nI_nem1 (by omega)), hT.1, if_pos (nI_inA (by omega) (by omega)), nI_clamp (by omega), uB, si_o _ _ (by omega), hT.1, nI_1, uB, h61, hR1.1, nI_1]
      rw [pre]
      by_cases c : i < n
      · rw [if_neg (show ¬ nI i = nI n from fun x => by have := (nI_eq (by omega) (by omega)).mp x; omega), if_pos (nI_inA (by omega) (by omega)), nI_clamp (by omega), hR1.2 i c]
        have hc := hx.2 i c
        by_cases c47 : t i = 47
        · have hs2 : stp s (t i) = some 0 := by rw [hst c, if_pos ⟨c47, c0⟩]
          have f2 : Fr pTx (setI (setI σ 85 k (nI m)) 82 8 (nI (k + 1))) (setI (setI (setI σ 85 k (nI m)) 82 8 (nI (k + 1))) 82 6 (nI (i + 1))) := Fr.setI (by unfold pTx; omega)
          have hR2 := hR1.fr f2 (by unfold pTx; omega) (fun j => by unfold pTx; omega)
          have f2' : Fr pA6 (setI (setI σ 85 k (nI m)) 82 8 (nI (k + 1))) (setI (setI (setI σ 85 k (nI m)) 82 8 (nI (k + 1))) 82 6 (nI (i + 1))) := Fr.setI (by unfold pA6; omega)
          have hT2 := hT1.fr f2' (by unfold pA6; omega) (fun j => by unfold pA6; omega)
          obtain ⟨σ3, i', s', m', e3, g1, g2, r1, r2, r3, r4, r5, r6⟩ := x7_rs hx (show i + 1 ≤ n by omega) hR2 (si_1 _ _ _ _)
          have hR3 := hR2.fr g2 (by unfold pA6; omega) (fun j => by unfold pA6; omega)
          have hT3 := hT2.fr g2 (by unfold pA6; omega) (fun j => by unfold pA6; omega)
          obtain ⟨σ4, e4, b1, b2, b3⟩ := x7_are_15 hx fu i' s' m' (k + 1) (updn tl k m) σ3 r2 (by omega) hR3 g1 hT3 r3 r6 (by omega) (fun x => by have := r4 x; omega)
          have hres : cpr n t (n - i) i s m k tl = cpr n t (n - i') i' s' m' (k + 1) (updn tl k m) := by
            rw [show n - i = (n - (i + 1)) + 1 by omega, cpr, hs2]
            dsimp only
            rw [if_pos rfl]
            exact r5 _ _
          rw [hres]
          refine ⟨σ4, ?_, b1, b2, ((f1.trans f2).trans (g2.mono fun c j => pA6_T)).trans b3⟩
          rw [if_pos (show nI (t i) = (47 : Int32) by rw [c47]; rfl), uB, e3, uB]
          exact e4
        · have hs2 : stp s (t i) = none := by rw [hst c, if_neg (fun x => c47 x.1)]
          have hres : cpr n t (n - i) i s m k tl = (false, i, k, tl) := by
            rw [show n - i = (n - (i + 1)) + 1 by omega, cpr, hs2]
          rw [hres, if_neg (show ¬ nI (t i) = (47 : Int32) from fun x => c47 ((nI_eq (b := 47) (by omega) (by omega)).mp x))]
          exact ⟨_, rfl, h61, fun x => (by cases x), f1⟩
      · have hres : cpr n t (n - i) i s m k tl = (true, n, k + 1, updn tl k m) := by
          rw [show n - i = 0 by omega, cpr, decide_eq_true c0]
        rw [hres, if_pos (show nI i = nI n by rw [show i = n by omega])]
        exact ⟨_, rfl, by rw [h61, show i = n by omega], fun _ => hT1, f1⟩
theorem x7_are {σ : Mem} {w : Wd} (h : RfP σ w) (hx : TxOk (w_n w) (w_t w)) : ∃ σ', X7_areStrokes σ = some (σ', bI (w_r w).1) ∧ σ'.1 82 6 = nI (w_r w).2.1 ∧ ((w_r w).1 = true → ToldR σ' (w_r w).2.2.1 (w_r w).2.2.2) ∧ Fr pTx σ σ' := by
  have f1 : Fr pTx σ (setI (setI σ 82 6 0) 82 8 0) := (Fr.setI (by unfold pTx; omega)).trans (Fr.setI (by unfold pTx; omega))
  have hR0 : TxR σ (w_n w) (w_t w) := h.2.2.2.2.2
  have hR1 := hR0.fr f1 (by unfold pTx; omega) (fun j => by unfold pTx; omega)
  have h6 : (setI (setI σ 82 6 0) 82 8 0).1 82 6 = nI 0 := by rw [si_o _ _ (by omega), si_1]; rfl
  have hT1 : ToldR (setI (setI σ 82 6 0) 82 8 0) 0 (fun _ => 0) := ⟨si_1 _ _ _ _, fun j hj => absurd hj (Nat.not_lt_zero j)⟩
  obtain ⟨σ3, i', s', m', e3, g1, g2, r1, r2, r3, r4, r5, r6⟩ := x7_rs hx (Nat.zero_le _) hR1 h6
  have hR3 := hR1.fr g2 (by unfold pA6; omega) (fun j => by unfold pA6; omega)
  have hT3 := hT1.fr g2 (by unfold pA6; omega) (fun j => by unfold pA6; omega)
  obtain ⟨σ4, e4, b1, b2, b3⟩ := x7_are_15 hx FU i' s' m' 0 (fun _ => 0) σ3 r2 (by have := hx.1; unfold FU; omega) hR3 g1 hT3 r3 r6 (by omega) (fun x => by have := r4 x; omega)
  have hres : w_r w = cpr (w_n w) (w_t w) (w_n w - i') i' s' m' 0 (fun _ => 0) := r5 0 (fun _ => 0)
  rw [hres]
  refine ⟨σ4, ?_, b1, b2, (f1.trans (g2.mono fun c j => pA6_T)).trans b3⟩
  unfold X7_areStrokes
  rw [uB, uB, e3, uB]
  exact e4
theorem r_fault {σ : Mem} {w : Wd} (h : RfP σ w) (hx : TxOk (w_n w) (w_t w)) : Rf (X7_firstError σ) σ w 0 (nI (w_r w).2.1) := by
  obtain ⟨σ1, e1, g1, g2, f1⟩ := x7_are (h.th 0) hx
  refine Rf.an h ((fr_th σ 0).trans (f1.mono fun c j => pTx_S)) ?_ ?_
  · rw [f1.1 82 0 (by unfold pTx; omega), si_1]
  · unfold X7_firstError
    rw [uB, e1, uB]
    dsimp only
    rw [g1]
/-! play -/
theorem x7_play_27 {tl : Nat → Nat} {T c : Nat} (hc31 : c ≤ 31) (htl : ∀ j, j < c → tl j < 1024) (K : Mem → Int32 → Option (Mem × Int32)) : ∀ (r v fu : Nat) (σ : Mem) (w : Wd), v + r = c → r < fu → RfP σ w → ToldR σ c tl → WdOk T w → as_k (w_a w) + r ≤ 30 * T → ∃ σ', X7_play_27 K fu σ (nI v) = K σ' (nI (plA tl r v (w_a w)).1) ∧ RfP σ' (wA w (plA tl r v (w_a w)).2) ∧ Fr pK2 σ σ'
  | r, v, 0, _, _, _, h, _, _, _, _ => absurd h (by omega)
  | 0, v, fu + 1, σ, w, h1, _, hP, hT, ok, _ => by
    refine ⟨σ, ?_, hP, Fr.rfl'⟩
    rw [X7_play_27, hT.1, if_pos (nI_le (by omega) (by omega))]; rfl
  | r + 1, v, fu + 1, σ, w, h1, hf, hP, hT, ok, hk => by
    have hs := htl v (by omega)
    have e0 : X7_play_27 K (fu + 1) σ (nI v) = (if bI (canS (w_a w) (tl v)) = 0 then K σ (nI v) else ((X7_strikes σ (nI (tl v))).bind fun q9 => X7_play_27 K fu q9.1 (nI v + (1 : Int32)))) := by
      rw [X7_play_27, hT.1, if_neg (nI_ge (by omega) (by omega)), if_pos (nI_inA (by omega) (by omega)), nI_clamp (by omega), hT.2 v (by omega), x7_canStrike ok.1 hP.1 hs, uB, if_pos (nI_inA (by omega) (by omega))]
      dsimp only
      rw [hT.2 v (by omega)]
    rw [e0, plA]
    cases hc : canS (w_a w) (tl v) with
    | false =>
      rw [if_pos (show bI false = 0 from rfl), if_neg (by decide)]
      exact ⟨σ, rfl, hP, Fr.rfl'⟩
    | true =>
      obtain ⟨σ1, e1, g1, f1⟩ := x7_strikes ok hP hs hc
      have hk2 := asStk_k (a := w_a w) (s := tl v)
      obtain ⟨σ2, e2, g2, f2⟩ := x7_play_27 hc31 htl K r (v + 1) fu σ1 (wA w (asStk (w_a w) (tl v))) (by omega) (by omega) g1 (hT.fr f1 (by unfold pK2 pRp; omega) (fun j => by unfold pK2 pRp; omega)) (ok.A (asStk_ok hs ok.1 hc (by omega))) (by show as_k (asStk (w_a w) (tl v)) + r ≤ 30 * T; omega)
      rw [if_neg (show ¬ bI true = 0 by decide), if_pos rfl, e1, uB, nI_1]
      exact ⟨σ2, e2, g2, f1.trans f2⟩
theorem r_play_bad {σ : Mem} {w : Wd} (h : RfP σ w) (hx : TxOk (w_n w) (w_t w)) (hr : (w_r w).1 = false) : Rf (X7_play σ) σ w 1 0 := by
  obtain ⟨σ1, e1, g1, g2, f1⟩ := x7_are h hx
  have f1S := f1.mono fun c j => pTx_S
  refine Rf.no (h.S f1S) (f1S.off fun c j => pS_c) ?_
  unfold X7_play
  rw [uZ (show X7_areStrokes σ = some (σ1, 0) by rw [e1, hr]; rfl)]
  exact uZ (h_n σ1 nn1) _ _
theorem r_play {σ : Mem} {w : Wd} {T : Nat} (ok : WdOk T w) (h : RfP σ w) (hk : as_k (w_a w) + 30 ≤ 30 * T) (hr : (w_r w).1 = true) : Rf (X7_play σ) σ (wT (wA (wPush w) (plW w).2) 0 (w_t w)) 0 (nI (plW w).1) := by
  have hx := ok.2.2.2.2
  obtain ⟨σ1, e1, g1, g2, f1⟩ := x7_are h hx
  have f1S := f1.mono fun c j => pTx_S
  obtain ⟨t1, t2, t3, t4⟩ := tRead_ok (n := w_n w) (t := w_t w) hx.1
  have t4 := t4 hr
  obtain ⟨σ2, e2, h2, f2⟩ := x7_save ok ((h.S f1S).th 0)
  have hT2 : ToldR σ2 (w_r w).2.2.1 (w_r w).2.2.2 := ((g2 hr).fr (Fr.setI (P := fun c j => c = 82 ∧ j = 0) (v := 0) (a := 82) (b := 0) (by omega)) (by omega) (fun j => by omega)).fr f2 (by unfold pV; omega) (fun j => by unfold pV; omega)
  obtain ⟨σ3, e3, h3, f3⟩ := x7_play_27 (T := T) t3 t2 (fun (σ : Mem) (v1 : Int32) => ((some (setI σ 82 5 (0 : Int32))).bind fun σ17 => some (σ17, v1))) (w_r w).2.2.1 0 FU σ2 (wPush w) (Nat.zero_add _) (by unfold FU; exact Nat.lt_of_le_of_lt t3 (by omega)) h2 hT2 ok.push (Nat.le_trans (Nat.add_le_add_left t4.2 _) hk)
  refine ⟨_, ?_, h3.wipe, ?_, ((((f1S.off fun c j => pS_c).trans (Off.setI (by omega) (by omega))).trans (f2.off fun c j => pV_c)).trans (f3.off fun c j => pK2_c)).trans (Off.setI (by omega) (by omega))⟩
  · unfold X7_play
    rw [uN (show X7_areStrokes σ = some (σ1, 1) by rw [e1, hr]; rfl) nn1]
    dsimp only
    rw [uN (h_0 σ1) nn1]
    dsimp only
    rw [e2, uB]
    exact e3
  · rw [si_o _ _ (by omega), f3.1 82 0 (by unfold pK2 pRp; omega), f2.1 82 0 (by unfold pV; omega), si_1]
/-! define -/
theorem d_36 (σ : Mem) (x : Int32) : X7_define_36 σ x = some (setI σ 82 0 1, 0) := by
  unfold X7_define_36 X7_define_37
  rw [if_pos rfl]
  unfold X7_define_71
  exact uZ (h_n σ nn1) _ _
theorem r_define_bad {σ : Mem} {w : Wd} (h : RfP σ w) {x : Int32} (hb : bad x 0 99) : Rf (X7_define σ x) σ w 1 0 := by
  refine Rf.no h Off.rfl' ?_
  unfold X7_define
  rw [uZ (show X7_in σ x (0 : Int32) (99 : Int32) = some (σ, 0) from in_bad (lo := 0) (hi := 99) hb)]
  exact d_36 σ x
theorem zB_row {r : Tr} : zB r.2.2.2 r.2.2.1 = false ↔ ∀ j, j < r.2.2.1 → r.2.2.2 j ≠ 0 := by
  refine ⟨fun h j hj x => ?_, fun h => ?_⟩
  · have := zB_iff.mpr ⟨j, hj, x⟩
    rw [h] at this; cases this
  · refine Bool.eq_false_iff.mpr fun x => ?_
    obtain ⟨j, hj, h0⟩ := zB_iff.mp x
    exact h j hj h0
theorem r_define_no {σ : Mem} {w : Wd} {wd : Nat} (h : RfP σ w) (hx : TxOk (w_n w) (w_t w)) (hw : wd ≤ 99) (hr : rowB (w_r w) = false) : Rf (X7_define σ (nI wd)) σ w 1 0 := by
  obtain ⟨σ1, e1, g1, g2, f1⟩ := x7_are h hx
  have f1S := f1.mono fun c j => pTx_S
  obtain ⟨t1, t2, t3, t4⟩ := tRead_ok (n := w_n w) (t := w_t w) hx.1
  refine Rf.no (h.S f1S) (f1S.off fun c j => pS_c) ?_
  unfold X7_define
  rw [uN (show X7_in σ (nI wd) (0 : Int32) (99 : Int32) = some (σ, 1) from in_good (lo := 0) (hi := 99) (by omega) (by omega) (by omega)) nn1]
  dsimp only
  cases c1 : (w_r w).1 with
  | false =>
    rw [uZ (show X7_areStrokes σ = some (σ1, 0) by rw [e1, c1]; rfl)]
    exact d_36 σ1 _
  | true =>
    have hT := g2 c1
    rw [uN (show X7_areStrokes σ = some (σ1, 1) by rw [e1, c1]; rfl) nn1]
    dsimp only
    rw [hT.1]
    by_cases c2 : (w_r w).2.2.1 ≤ 4
    · rw [if_neg (show ¬ (4 : Int32) < nI (w_r w).2.2.1 from nI_nlt (a := 4) c2 (by omega))]
      cases c3 : zB (w_r w).2.2.2 (w_r w).2.2.1 with
      | true =>
        rw [uN (show X7_hasAsterisk σ1 = some (σ1, 1) by rw [x7_ast hT t2 t3, c3]; rfl) nn1]
        exact d_36 σ1 _
      | false =>
        unfold rowB at hr
        rw [c1, decide_eq_true c2, decide_eq_true (zB_row.mp c3)] at hr
        cases hr
    · rw [if_pos (show (4 : Int32) < nI (w_r w).2.2.1 from nI_lt (a := 4) (by omega) (Nat.lt_of_le_of_lt t3 (by omega)))]
      exact d_36 σ1 _
theorem x7_def_pre {σ : Mem} {w : Wd} {wd : Nat} (h : RfP σ w) (hx : TxOk (w_n w) (w_t w)) (hw : wd ≤ 99) (hr : rowB (w_r w) = true) : ∃ σ1, X7_define σ (nI wd) = X7_define_37 σ1 (nI wd) (1 : Int32) ∧ RfP σ1 w ∧ ToldR σ1 (w_r w).2.2.1 (w_r w).2.2.2 ∧ Off 82 91 σ σ1 ∧ (w_r w).2.2.1 ≤ 4 ∧ ∀ j, j < (w_r w).2.2.1 → 1 ≤ (w_r w).2.2.2 j ∧ (w_r w).2.2.2 j < 1024 := by
  obtain ⟨σ1, e1, g1, g2, f1⟩ := x7_are h hx
  have f1S := f1.mono fun c j => pTx_S
  obtain ⟨t1, t2, t3, t4⟩ := tRead_ok (n := w_n w) (t := w_t w) hx.1
  unfold rowB at hr
  rw [Bool.and_eq_true, Bool.and_eq_true] at hr
  obtain ⟨⟨r1, r2⟩, r3⟩ := hr
  have r2 := of_decide_eq_true r2
  have r3 := of_decide_eq_true r3
  have hT := g2 r1
  refine ⟨σ1, ?_, h.S f1S, hT, f1S.off fun c j => pS_c, r2, fun j hj => ⟨Nat.pos_of_ne_zero (r3 j hj), t2 j hj⟩⟩
  unfold X7_define
  rw [uN (show X7_in σ (nI wd) (0 : Int32) (99 : Int32) = some (σ, 1) from in_good (lo := 0) (hi := 99) (by omega) (by omega) (by omega)) nn1]
  dsimp only
  rw [uN (show X7_areStrokes σ = some (σ1, 1) by rw [e1, r1]; rfl) nn1]
  dsimp only
  rw [hT.1, if_neg (show ¬ (4 : Int32) < nI (w_r w).2.2.1 from nI_nlt (a := 4) r2 (by omega)), uZ (show X7_hasAsterisk σ1 = some (σ1, 0) by rw [x7_ast hT t2 t3, zB_row.mpr r3]; rfl)]
theorem r_define_full {σ : Mem} {w : Wd} {wd T : Nat} (ok : WdOk T w) (h : RfP σ w) (hw : wd ≤ 99) (hr : rowB (w_r w) = true) (hf : en_m (as_E (w_a w)) = 24 ∨ deB w wd) : Rf (X7_define σ (nI wd)) σ w 2 0 := by
  obtain ⟨σ1, e1, h1, hT, o1, r2, r3⟩ := x7_def_pre h ok.2.2.2.2 hw hr
  refine Rf.no h1 o1 ?_
  have hm := ok.1.2.2.1.1
  have two : X7_define_66 σ1 (nI wd) = some (setI σ1 82 0 2, 0) := by
    unfold X7_define_66 X7_define_71
    exact uZ (h_n σ1 nn2) _ _
  rw [e1]
  unfold X7_define_37
  rw [if_neg nn1, h1.1.z.2.2.1.m]
  by_cases c : en_m (as_E (w_a w)) = 24
  · rw [if_pos (show nI (en_m (as_E (w_a w))) = (24 : Int32) by rw [c]; rfl)]
    exact two
  · have hd : deB w wd := by
      rcases hf with hf | hf
      · exact absurd hf c
      · exact hf
    rw [if_neg (show ¬ nI (en_m (as_E (w_a w))) = (24 : Int32) from fun x => c ((nI_eq (b := 24) (by omega) (by omega)).mp x)), uN (show X7_isThere σ1 (nI wd) = some (σ1, 1) by rw [x7_isThere h1.1.z.2.2.1 ok.1.2.2.1 hT r3 r2 (by omega), isB_iff.mpr hd]; rfl) nn1]
    exact two
theorem r_define {σ : Mem} {w : Wd} {wd T : Nat} (ok : WdOk T w) (h : RfP σ w) (hw : wd ≤ 99) (hr : rowB (w_r w) = true) (h1 : en_m (as_E (w_a w)) ≠ 24) (h2 : ¬ deB w wd) : Rf (X7_define σ (nI wd)) σ (wT (wA (wPush w) (asE (w_a w) (enPut (as_E (w_a w)) (w_r w).2.2.1 (w_r w).2.2.2 wd 0))) 0 (w_t w)) 0 (nI (en_m (as_E (w_a w)))) := by
  obtain ⟨σ1, e1, g1, hT, o1, r2, r3⟩ := x7_def_pre h ok.2.2.2.2 hw hr
  have hm := ok.1.2.2.1.1
  have := x7_def_71 (wd := wd) ok g1 hT (Nat.le_trans r2 (by omega)) (by omega) o1
  rw [e1]
  unfold X7_define_37
  rw [if_neg nn1, g1.1.z.2.2.1.m, if_neg (show ¬ nI (en_m (as_E (w_a w))) = (24 : Int32) from fun x => h1 ((nI_eq (b := 24) (by omega) (by omega)).mp x)), uZ (show X7_isThere σ1 (nI wd) = some (σ1, 0) by rw [x7_isThere g1.1.z.2.2.1 ok.1.2.2.1 hT r3 r2 (by omega), Bool.eq_false_iff.mpr (fun x => h2 (isB_iff.mp x))]; rfl)]
  exact this
