/-! what a step of the reference changes -/
def Fr (P : Nat → Nat → Prop) (σ σ' : Mem) : Prop := (∀ c j, ¬ P c j → σ'.1 c j = σ.1 c j) ∧ σ'.2 = σ.2
theorem Fr.rfl' {P : Nat → Nat → Prop} {σ : Mem} : Fr P σ σ := ⟨fun _ _ _ => rfl, rfl⟩
theorem Fr.trans {P : Nat → Nat → Prop} {σ σ' σ'' : Mem} (h : Fr P σ σ') (h2 : Fr P σ' σ'') : Fr P σ σ'' := ⟨fun c j hp => (h2.1 c j hp).trans (h.1 c j hp), h2.2.trans h.2⟩
theorem Fr.mono {P Q : Nat → Nat → Prop} {σ σ' : Mem} (h : Fr P σ σ') (hp : ∀ c j, P c j → Q c j) : Fr Q σ σ' := ⟨fun c j hq => h.1 c j (fun x => hq (hp c j x)), h.2⟩
theorem Fr.setI {P : Nat → Nat → Prop} {σ : Mem} {a b : Nat} {v : Int32} (h : P a b) : Fr P σ (setI σ a b v) := ⟨fun c j hp => si_o σ v (by
  by_cases c1 : c = a
  · by_cases c2 : j = b
    · subst c1; subst c2; exact absurd h hp
    · exact Or.inr c2
  · exact Or.inl c1), rfl⟩
def pRd (c j : Nat) : Prop := c = 87 ∨ c = 88 ∨ c = 89 ∨ (c = 82 ∧ j = 14)
def pRp (c j : Nat) : Prop := (86 ≤ c ∧ c ≤ 89) ∨ (c = 82 ∧ (j = 10 ∨ j = 14))
def pS (c j : Nat) : Prop := (85 ≤ c ∧ c ≤ 90) ∨ (c = 82 ∧ (j = 0 ∨ j = 6 ∨ j = 8 ∨ j = 10 ∨ j = 14))
theorem pRd_p {c j : Nat} (h : pRd c j) : pRp c j := by unfold pRd at h; unfold pRp; omega
theorem pRp_S {c j : Nat} (h : pRp c j) : pS c j := by unfold pRp at h; unfold pS; omega
theorem Fr.s83 {P : Nat → Nat → Prop} {σ σ' : Mem} (h : Fr P σ σ') (hp : ∀ j, ¬ P 83 j) : σ'.1 83 = σ.1 83 := funext fun j => h.1 83 j (hp j)
theorem n83d (j : Nat) : ¬ pRd 83 j := by unfold pRd; omega
theorem n83p (j : Nat) : ¬ pRp 83 j := by unfold pRp; omega
theorem n83S (j : Nat) : ¬ pS 83 j := by unfold pS; omega
def RdR (σ : Mem) (E : En) (lg N : Nat) (q : Nat → Nat) (t : Nat) : Prop := σ.1 82 14 = nI t ∧ ∀ i, i < t → σ.1 87 i = nI (posf E lg N q i) ∧ σ.1 88 i = nI (szf E lg N q (posf E lg N q i)) ∧ σ.1 89 i = oN (stf E lg N q (posf E lg N q i))
theorem x7_reads_7 {E : En} (ok : EnOk E) {lg N : Nat} {q : Nat → Nat} (hl4 : 1 ≤ lg ∧ lg ≤ 4) (hN : N ≤ 61) (hq : ShOk N q) (K : Mem → Option (Mem × Unit)) : ∀ (r fu : Nat) (σ : Mem) (i : Nat), N - posf E lg N q i ≤ r → r < fu → posf E lg N q i ≤ N → (∀ k, k < i → posf E lg N q k < N) → RE (σ.1 83) 0 E → σ.1 83 3 = nI lg → ShR σ N q → RdR σ E lg N q i → ∃ σ' t, X7_reads_7 K fu σ (nI (posf E lg N q i)) = K σ' ∧ Items E lg N q t ∧ RdR σ' E lg N q t ∧ Fr pRd σ σ'
  | r, 0, _, _, _, h, _, _, _, _, _, _ => absurd h (by omega)
  | r, fu + 1, σ, i, hr, hf, hp, hlow, h, hlg, hS, hR => by
    by_cases c : posf E lg N q i = N
    · refine ⟨σ, i, ?_, ⟨c, hlow⟩, hR, Fr.rfl'⟩
      rw [X7_reads_7, hS.1, if_pos (nI_le (by omega) (by omega))]
    · have hpl : posf E lg N q i < N := by omega
      have hi := posf_le E lg N q i
      have b1 := szf_1 E lg N q (posf E lg N q i)
      have b2 := szf_N (E := E) (lg := lg) (q := q) hpl
      have hsz := szf_stf ok hq hpl hl4.1
      have f1 : Fr pRd σ (setI (setI (setI (setI σ 87 i (nI (posf E lg N q i))) 89 i (oN (stf E lg N q (posf E lg N q i)))) 88 i (nI (szf E lg N q (posf E lg N q i)))) 82 14 (nI (i + 1))) := (((Fr.setI (by unfold pRd; omega)).trans (Fr.setI (by unfold pRd; omega))).trans (Fr.setI (by unfold pRd; omega))).trans (Fr.setI (by unfold pRd; omega))
      have h83 := f1.s83 n83d
      have hR' : RdR (setI (setI (setI (setI σ 87 i (nI (posf E lg N q i))) 89 i (oN (stf E lg N q (posf E lg N q i)))) 88 i (nI (szf E lg N q (posf E lg N q i)))) 82 14 (nI (i + 1))) E lg N q (i + 1) := by
        refine ⟨si_1 _ _ _ _, fun k hk => ?_⟩
        by_cases ck : k = i
        · subst ck
          refine ⟨?_, ?_, ?_⟩
          · rw [si_o _ _ (by omega), si_o _ _ (by omega), si_o _ _ (by omega), si_1]
          · rw [si_o _ _ (by omega), si_1]
          · rw [si_o _ _ (by omega), si_o _ _ (by omega), si_1]
        · obtain ⟨g1, g2, g3⟩ := hR.2 k (by omega)
          refine ⟨?_, ?_, ?_⟩
          · rw [si_o _ _ (by omega), si_o _ _ (by omega), si_o _ _ (by omega), si_o _ _ (by omega)]; exact g1
          · rw [si_o _ _ (by omega), si_o _ _ (by omega), si_o _ _ (by omega), si_o _ _ (by omega)]; exact g2
          · rw [si_o _ _ (by omega), si_o _ _ (by omega), si_o _ _ (by omega), si_o _ _ (by omega)]; exact g3
      have hS' : ShR (setI (setI (setI (setI σ 87 i (nI (posf E lg N q i))) 89 i (oN (stf E lg N q (posf E lg N q i)))) 88 i (nI (szf E lg N q (posf E lg N q i)))) 82 14 (nI (i + 1))) N q := ⟨by rw [f1.1 82 10 (by unfold pRd; omega)]; exact hS.1, fun j hj => by rw [f1.1 86 j (by unfold pRd; omega)]; exact hS.2 j hj⟩
      obtain ⟨σ', t, e, g1, g2, f2⟩ := x7_reads_7 ok hl4 hN hq K (r - 1) fu _ (i + 1) (by rw [posf]; omega) (by omega) (by rw [posf]; omega) (fun k hk => by
        by_cases ck : k = i
        · rw [ck]; exact hpl
        · exact hlow k (by omega)) (by rw [h83]; exact h) (by rw [h83]; exact hlg) hS' hR'
      refine ⟨σ', t, ?_, g1, g2, f1.trans f2⟩
      rw [X7_reads_7, hS.1, if_neg (nI_ge hpl (by omega)), x7_at h ok hlg hl4 hN hS hq hpl, uB]
      dsimp only
      have e64 : ∀ σ7 : Mem, σ7.1 82 14 = nI i → X7_reads_64 K (X7_reads_7 K fu) σ7 (nI (posf E lg N q i)) (nI (szf E lg N q (posf E lg N q i))) (nI i) = X7_reads_7 K fu (setI (setI σ7 88 i (nI (szf E lg N q (posf E lg N q i)))) 82 14 (nI (i + 1))) (nI (posf E lg N q (i + 1))) := fun σ7 h7 => by
        unfold X7_reads_64
        rw [if_pos (nI_inA (by omega) (by omega)), nI_clamp (by omega), uB, si_o _ _ (by omega), h7, if_pos (nI_inA (by omega) (by omega)), uB, nI_clamp (by omega), si_1, nI_add, nI_1, posf]
      rw [hR.1, if_pos (nI_inA (by omega) (by omega)), nI_clamp (by omega), uB, si_o _ _ (by omega), hR.1, if_pos (nI_inA (by omega) (by omega)), nI_clamp (by omega), uB]
      rw [si_o _ _ (show (82 : Nat) ≠ 89 ∨ (14 : Nat) ≠ i by omega), si_o _ _ (show (82 : Nat) ≠ 87 ∨ (14 : Nat) ≠ i by omega), hR.1]
      have h14 : (setI (setI σ 87 i (nI (posf E lg N q i))) 89 i (oN (stf E lg N q (posf E lg N q i)))).1 82 14 = nI i := by rw [si_o _ _ (by omega), si_o _ _ (by omega)]; exact hR.1
      cases hst : stf E lg N q (posf E lg N q i) with
      | none =>
        rw [hst] at hsz h14 e
        have hsz : szf E lg N q (posf E lg N q i) = 1 := hsz
        rw [if_pos (show oN none = (-1 : Int32) from rfl)]
        have := e64 _ h14
        rw [hsz] at this e
        exact this.trans e
      | some en =>
        rw [hst] at hsz h14 e
        have hsz : szf E lg N q (posf E lg N q i) = en_l E en := hsz
        have hen := ldr_lt hst
        have hm := ok.1
        rw [if_neg (show ¬ oN (some en) = (-1 : Int32) from nI_nem1 (by omega))]
        have h83b : (setI (setI σ 87 i (nI (posf E lg N q i))) 89 i (oN (some en))).1 83 = σ.1 83 := ((Fr.setI (P := pRd) (by unfold pRd; omega)).trans (Fr.setI (by unfold pRd; omega))).s83 n83d
        rw [show oN (some en) = nI en from rfl] at h83b ⊢
        rw [of_l (by rw [h83b]; exact h) ok hen, uB]
        dsimp only
        have := e64 _ h14
        rw [hsz] at this e
        exact this.trans e
theorem x7_reads {σ : Mem} {E : En} (ok : EnOk E) {lg N : Nat} {q : Nat → Nat} (hl4 : 1 ≤ lg ∧ lg ≤ 4) (hN : N ≤ 61) (hq : ShOk N q) (h : RE (σ.1 83) 0 E) (hlg : σ.1 83 3 = nI lg) (hS : ShR σ N q) : ∃ σ', X7_reads σ = some (σ', ()) ∧ RdR σ' E lg N q (itn E lg N q) ∧ ShR σ' N q ∧ Fr pRd σ σ' := by
  have f0 : Fr pRd σ (setI σ 82 14 0) := Fr.setI (by unfold pRd; omega)
  have h83 := f0.s83 n83d
  obtain ⟨σ', t, e, g1, g2, f1⟩ := x7_reads_7 ok hl4 hN hq (fun σ => some (σ, ())) N FU (setI σ 82 14 0) 0 (by omega) (by unfold FU; omega) (Nat.zero_le _) (fun k hk => absurd hk (by omega)) (by rw [h83]; exact h) (by rw [h83]; exact hlg) ⟨by rw [f0.1 82 10 (by unfold pRd; omega)]; exact hS.1, fun j hj => by rw [f0.1 86 j (by unfold pRd; omega)]; exact hS.2 j hj⟩ ⟨si_1 _ _ _ _, fun i hi => absurd hi (by omega)⟩
  rw [itn_eq g1] at g2
  refine ⟨σ', ?_, g2, ⟨?_, fun j hj => ?_⟩, f0.trans f1⟩
  · unfold X7_reads
    rw [uB]
    exact e
  · rw [(f0.trans f1).1 82 10 (by unfold pRd; omega)]; exact hS.1
  · rw [(f0.trans f1).1 86 j (by unfold pRd; omega)]; exact hS.2 j hj
theorem x7_paper_12 {N : Nat} {p : Nat → Nat} (hN : N ≤ 60) (K : Mem → Option (Mem × Unit)) : ∀ (r v fu : Nat) (σ : Mem), v + r = N → r < fu → σ.1 82 10 = nI N → (∀ j, j < N → σ.1 83 (8 + j) = nI (p j)) → (∀ j, j < v → σ.1 86 j = nI (p j)) → ∃ σ', X7_readsPaper_12 K fu σ (nI v) = K σ' ∧ ShR σ' N p ∧ Fr (fun c j => c = 86) σ σ'
  | r, v, 0, _, _, h, _, _, _ => absurd h (by omega)
  | 0, v, fu + 1, σ, h1, _, h10, h83, h86 => by
    have hv : v = N := by omega
    subst hv
    exact ⟨σ, by rw [X7_readsPaper_12, h10, if_pos (nI_le (by omega) (by omega))], ⟨h10, h86⟩, Fr.rfl'⟩
  | r + 1, v, fu + 1, σ, h1, hf, h10, h83, h86 => by
    obtain ⟨σ', e, g, f⟩ := x7_paper_12 hN K r (v + 1) fu (setI σ 86 v (nI (p v))) (by omega) (by omega) (by rw [si_o _ _ (by omega)]; exact h10) (fun j hj => by rw [si_o _ _ (by omega)]; exact h83 j hj) (fun j hj => by
      by_cases c : j = v
      · subst c; rw [si_1]
      · rw [si_o _ _ (by omega)]; exact h86 j (by omega))
    refine ⟨σ', ?_, g, (Fr.setI (P := fun c j => c = 86) rfl).trans f⟩
    rw [X7_readsPaper_12, h10, if_neg (nI_ge (by omega) (by omega)), show (8 : Int32) + nI v = nI (8 + v) from nI_add 8 v, if_pos (nI_inA (by omega) (by omega)), if_pos (nI_inA (by omega) (by omega)), nI_clamp (by omega), nI_clamp (by omega), h83 v (by omega), uB, nI_1, e]
def RdRA (σ : Mem) (a : As) : Prop := RdR σ (as_E a) (as_g a) (as_N a) (as_p a) (as_t a) ∧ ShR σ (as_N a) (as_p a)
theorem RS.z {s : Nat → Int32} {a : As} (h : RS s 0 a) : s 0 = nI (as_N a) ∧ (∀ j, j < as_N a → s (8 + j) = nI (as_p a j)) ∧ RE s 0 (as_E a) ∧ s 2 = nI (as_s a) ∧ s 3 = nI (as_g a) ∧ s 4 = nI (as_k a) ∧ s 5 = as_e a ∧ s 6 = as_a a ∧ s 7 = nI (as_y a) := by
  obtain ⟨h1, h2, h3, h4, h5, h6, h7, h8, h9⟩ := h
  exact ⟨h1, fun j hj => by have := h2 j hj; rw [Nat.zero_add] at this; exact this, h3, h4, h5, h6, h7, h8, h9⟩
theorem x7_sheet {σ : Mem} {a : As} {T : Nat} (ok : AsOk T a) (h : RS (σ.1 83) 0 a) : ∃ σ', X7_readsPaper σ = ((X7_reads σ').bind fun q5 => some (q5.1, ())) ∧ ShR σ' (as_N a) (as_p a) ∧ Fr pRp σ σ' := by
  obtain ⟨h1, h2, h3⟩ := h.z
  have hN := ok.1
  obtain ⟨σ1, e1, g1, f1⟩ := x7_paper_12 (N := as_N a) (p := as_p a) hN (fun (σ : Mem)  => ((X7_reads σ).bind fun q5 => some (q5.1, ()))) (as_N a) 0 FU (setI σ 82 10 (nI (as_N a))) (by omega) (by unfold FU; omega) (si_1 _ _ _ _) (fun j hj => by rw [si_o _ _ (by omega)]; exact h2 j hj) (fun j hj => absurd hj (by omega))
  refine ⟨σ1, ?_, g1, (Fr.setI (by unfold pRp; omega)).trans (f1.mono (fun c j hc => by unfold pRp; omega))⟩
  unfold X7_readsPaper
  rw [h1, uB]
  exact e1
theorem x7_readsPaper {σ : Mem} {a : As} {T : Nat} (ok : AsOk T a) (h : RS (σ.1 83) 0 a) : ∃ σ', X7_readsPaper σ = some (σ', ()) ∧ RdRA σ' a ∧ Fr pRp σ σ' := by
  obtain ⟨σ1, e1, g1, f1⟩ := x7_sheet ok h
  have h83 := f1.s83 n83p
  obtain ⟨σ2, e2, g2, g3, f2⟩ := x7_reads (σ := σ1) ok.2.2.1 ok.2.2.2.2.1 (by have := ok.1; omega) ok.2.1 (by rw [h83]; exact h.z.2.2.1) (by rw [h83]; exact h.z.2.2.2.2.1) g1
  refine ⟨σ2, ?_, ⟨g2, g3⟩, f1.trans (f2.mono (fun c j => pRd_p))⟩
  rw [e1, e2, uB]
