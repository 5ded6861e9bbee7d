/-! READING: the class -/
def RdW (σ : Mem) (c n : Nat) (f g l : Nat → Int32) : Prop := RowIs σ (c + 1) n f ∧ RowIs σ (c + 3) n g ∧ RowIs σ (c + 5) n l
def Cap3 (c : Nat) : Prop := cap (c + 1) = 61 ∧ cap (c + 3) = 61 ∧ cap (c + 5) = 61
theorem RdW.off {σ σ' : Mem} {c n lo hi : Nat} {f g l : Nat → Int32} (h : RdW σ c n f g l) (o : Off lo hi σ σ') (hd : c + 6 < lo ∨ hi ≤ c) : RdW σ' c n f g l := ⟨h.1.off o (by omega), h.2.1.off o (by omega), h.2.2.off o (by omega)⟩
theorem RdW.le {σ : Mem} {c n : Nat} {f g l f' g' l' : Nat → Int32} (h : RdW σ c n f g l) (h1 : ∀ j, j < n → f j = f' j) (h2 : ∀ j, j < n → g j = g' j) (h3 : ∀ j, j < n → l j = l' j) : RdW σ c n f' g' l' := ⟨h.1.le h1, h.2.1.le h2, h.2.2.le h3⟩
theorem x2_shorten3 {σ : Mem} {c n k : Nat} {f g l : Nat → Int32} (h : RdW σ c n f g l) (hn : n ≤ 62) (hk : k ≤ n) : ∃ σ1 σ2 σ3, X3_shorten (c + 1) σ (nI k) = some (σ1, ()) ∧ X3_shorten (c + 3) σ1 (nI k) = some (σ2, ()) ∧ X3_shorten (c + 5) σ2 (nI k) = some (σ3, ()) ∧ RdW σ3 c k f g l ∧ Off c (c + 7) σ σ3 := by
  obtain ⟨σ1, e1, h1, o1⟩ := x3_shorten h.1 hn hk
  obtain ⟨σ2, e2, h2, o2⟩ := x3_shorten (h.2.1.off o1 (by omega)) hn hk
  obtain ⟨σ3, e3, h3, o3⟩ := x3_shorten ((h.2.2.off o1 (by omega)).off o2 (by omega)) hn hk
  exact ⟨σ1, σ2, σ3, e1, e2, e3, ⟨(h1.off o2 (by omega)).off o3 (by omega), h2.off o3 (by omega), h3⟩, ((o1.mono (by omega) (by omega)).trans (o2.mono (by omega) (by omega))).trans (o3.mono (by omega) (by omega))⟩
theorem nI_m1 (k : Nat) : nI k + (-1 : Int32) = nI k - 1 := (Int32.sub_eq_add_neg _ _).symm
theorem m1_neg : (nI 0 - 1 : Int32) < 0 := by decide
theorem x2_dropFrom_7 {c D : Nat} (hc : Cap3 c) {x : Int32} (hx : ∀ a, a < 2147483648 → (nI a < x ↔ a < D)) (K : Mem → Option (Mem × Unit)) {P : Nat → Nat} {g l : Nat → Int32} : ∀ (k fu : Nat) (σ : Mem), k ≤ 61 → k < fu → RdW σ c k (fun i => nI (P i)) g l → (∀ i, i < k → P i < 1000) → ∃ σ' s, X2_dropFrom_7 c K fu σ x (nI k - 1) = K σ' ∧ s ≤ k ∧ RdW σ' c s (fun i => nI (P i)) g l ∧ (∀ i, s ≤ i → i < k → D ≤ P i) ∧ (s = 0 ∨ P (s - 1) < D) ∧ Off c (c + 7) σ σ'
  | k, 0, _, _, h, _, _ => absurd h (by omega)
  | 0, fu + 1, σ, _, _, hr, _ => ⟨σ, 0, by rw [X2_dropFrom_7, if_pos m1_neg], Nat.le_refl _, hr, fun i _ h => absurd h (by omega), Or.inl rfl, Off.rfl'⟩
  | k + 1, fu + 1, σ, hk, hf, hr, hP => by
    have hPk := hP k (by omega)
    rw [nI_pred]
    by_cases d : P k < D
    · refine ⟨σ, k + 1, ?_, Nat.le_refl _, hr, fun i _ h => absurd h (by omega), Or.inr d, Off.rfl'⟩
      rw [X2_dropFrom_7, if_neg (nI_pos (by omega)), x3_at hr.1 (by rw [hc.1]; omega) (by rw [hc.1]; omega) (by omega), uB, if_pos ((hx _ (by omega)).mpr d)]
    · obtain ⟨σ1, σ2, σ3, e1, e2, e3, h3, o3⟩ := x2_shorten3 hr (by omega) (show k ≤ k + 1 by omega)
      obtain ⟨σ', s, e4, hs, h4, h5, h6, o4⟩ := x2_dropFrom_7 hc hx K k fu σ3 (by omega) (by omega) h3 (fun i hi => hP i (by omega))
      refine ⟨σ', s, ?_, by omega, h4, fun i hi hi2 => ?_, h6, o3.trans o4⟩
      · rw [X2_dropFrom_7, if_neg (nI_pos (by omega)), x3_at hr.1 (by rw [hc.1]; omega) (by rw [hc.1]; omega) (by omega), uB, if_neg (fun y => d ((hx _ (by omega)).mp y)), e1, uB, e2, uB, e3, uB, nI_m1, e4]
      · by_cases c2 : i = k
        · rw [c2]; omega
        · exact h5 i hi (by omega)
theorem x2_dropFrom {c D n : Nat} (hc : Cap3 c) {x : Int32} (hx : ∀ a, a < 2147483648 → (nI a < x ↔ a < D)) {P : Nat → Nat} {g l : Nat → Int32} {σ : Mem} (hn : n ≤ 61) (hr : RdW σ c n (fun i => nI (P i)) g l) (hP : ∀ i, i < n → P i < 1000) : ∃ σ' s, X2_dropFrom c σ x = some (σ', ()) ∧ s ≤ n ∧ RdW σ' c s (fun i => nI (P i)) g l ∧ (∀ i, s ≤ i → i < n → D ≤ P i) ∧ (s = 0 ∨ P (s - 1) < D) ∧ Off c (c + 7) σ σ' := by
  obtain ⟨σ', s, e, h⟩ := x2_dropFrom_7 hc hx (fun σ => some (σ, ())) n FU σ hn (by unfold FU; omega) hr hP
  refine ⟨σ', s, ?_, h⟩
  unfold X2_dropFrom X2_size X3_length
  rw [uB, uB]
  dsimp only
  rw [hr.1.1]
  exact e
theorem hx0 : ∀ a, a < 2147483648 → (nI a < (0 : Int32) ↔ a < 0) := fun a ha => ⟨fun h => absurd h (nI_pos ha), fun h => absurd h (by omega)⟩
/-- what a reading that is used again must be -/
def RdI (σ : Mem) (c : Nat) : Prop := ∃ (n : Nat) (P : Nat → Nat) (g l : Nat → Int32), n ≤ 61 ∧ RdW σ c n (fun i => nI (P i)) g l ∧ ∀ i, i < n → P i < 1000
theorem RdI.off {σ σ' : Mem} {c lo hi : Nat} (h : RdI σ c) (o : Off lo hi σ σ') (hd : c + 6 < lo ∨ hi ≤ c) : RdI σ' c := by
  obtain ⟨n, P, g, l, h1, h2, h3⟩ := h
  exact ⟨n, P, g, l, h1, h2.off o hd, h3⟩
theorem x2_drop0 {c : Nat} (hc : Cap3 c) {σ : Mem} (h : RdI σ c) : ∃ σ', X2_dropFrom c σ 0 = some (σ', ()) ∧ (∀ f g l, RdW σ' c 0 f g l) ∧ Off c (c + 7) σ σ' := by
  obtain ⟨n, P, g, l, h1, h2, h3⟩ := h
  obtain ⟨σ', s, e, hs, h4, h5, h6, o⟩ := x2_dropFrom hc hx0 h1 h2 h3
  have : s = 0 := by rcases h6 with c | c <;> omega
  subst this
  exact ⟨σ', e, fun f g l => ⟨⟨h4.1.1, fun j hj => absurd hj (by omega)⟩, ⟨h4.2.1.1, fun j hj => absurd hj (by omega)⟩, ⟨h4.2.2.1, fun j hj => absurd hj (by omega)⟩⟩, o⟩
theorem x2_put3 {σ : Mem} {c n : Nat} {f g l : Nat → Int32} (hc : Cap3 c) (h : RdW σ c n f g l) (hn : n < 61) (a b d : Int32) : ∃ σ1 σ2 σ3, X3_put (c + 1) σ a = some (σ1, ()) ∧ X3_put (c + 3) σ1 b = some (σ2, ()) ∧ X3_put (c + 5) σ2 d = some (σ3, ()) ∧ RdW σ3 c (n + 1) (upd f n a) (upd g n b) (upd l n d) ∧ Off c (c + 7) σ σ1 ∧ Off c (c + 7) σ σ2 ∧ Off c (c + 7) σ σ3 := by
  obtain ⟨c1, c2, c3⟩ := hc
  obtain ⟨σ1, e1, h1, o1⟩ := x3_put h.1 (by omega) (by omega) a
  obtain ⟨σ2, e2, h2, o2⟩ := x3_put (h.2.1.off o1 (by omega)) (by omega) (by omega) b
  obtain ⟨σ3, e3, h3, o3⟩ := x3_put ((h.2.2.off o1 (by omega)).off o2 (by omega)) (by omega) (by omega) d
  have p1 : Off c (c + 7) σ σ1 := o1.mono (by omega) (by omega)
  have p2 : Off c (c + 7) σ1 σ2 := o2.mono (by omega) (by omega)
  have p3 : Off c (c + 7) σ2 σ3 := o3.mono (by omega) (by omega)
  exact ⟨σ1, σ2, σ3, e1, e2, e3, ⟨(h1.off o2 (by omega)).off o3 (by omega), h2.off o3 (by omega), h3⟩, p1, p1.trans p2, (p1.trans p2).trans p3⟩
theorem upd_le {f g : Nat → Int32} {n : Nat} {v : Int32} (h : ∀ j, j < n → f j = g j) (hv : v = g n) : ∀ j, j < n + 1 → upd f n v j = g j := fun j hj => by
  unfold upd
  by_cases c : j = n
  · rw [if_pos c, c, hv]
  · rw [if_neg c]; exact h j (by omega)
/-- a reading of a paper -/
def Rd (σ : Mem) (c : Nat) (E : En) (lg N : Nat) (q : Nat → Nat) (t : Nat) : Prop := RdW σ c t (fun i => nI (posf E lg N q i)) (fun i => nI (szf E lg N q (posf E lg N q i))) (fun i => oN (stf E lg N q (posf E lg N q i)))
theorem x2_readOn_38 {c j j2 N lg : Nat} {E : En} {q : Nat → Nat} (hc : Cap3 c) (hN : N ≤ cap j) (hcj : cap j ≤ 61) (hd : c + 7 ≤ j ∨ j + 1 < c) (hd2 : j2 + 6 < c) (ok : EnOk E) (hq : ShOk N q) (hl : 1 ≤ lg ∧ lg ≤ 4) (K : Mem → Option (Mem × Unit)) : ∀ (r pl fu : Nat) (σ : Mem) (i : Nat), pl + r = N → r < fu → pl ≤ posf E lg N q i → posf E lg N q i ≤ N → (∀ k, k < i → posf E lg N q k < N) → RowIs σ j N (fun t => nI (q t)) → EnC σ (j2 + 3) E → σ.1 j2 3 = nI lg → Rd σ c E lg N q i →
    ∃ σ' t, X2_readOn_38 c j j2 K fu σ (nI (posf E lg N q i)) (nI pl) = K σ' ∧ Items E lg N q t ∧ Rd σ' c E lg N q t ∧ Off c (c + 7) σ σ'
  | 0, pl, 0, _, _, _, h, _, _, _, _, _, _, _ => absurd h (by omega)
  | r + 1, pl, 0, _, _, _, h, _, _, _, _, _, _, _ => absurd h (by omega)
  | 0, pl, fu + 1, σ, i, h1, h2, h3, h4, h5, hj, hE, hs, hR => by
    refine ⟨σ, i, ?_, ⟨by omega, h5⟩, hR, Off.rfl'⟩
    unfold X2_readOn_38 X3_length
    rw [uB, hj.1, if_pos (nI_le (by omega) (by omega))]
  | r + 1, pl, fu + 1, σ, i, h1, h2, h3, h4, h5, hj, hE, hs, hR => by
    have hi := posf_le E lg N q i
    by_cases c1 : pl = posf E lg N q i
    · have hpl : pl < N := by omega
      have b1 := szf_1 E lg N q pl
      have b2 := szf_N (E := E) (lg := lg) (q := q) hpl
      have b3 := szf_4 (E := E) (N := N) (q := q) (pl := pl) hl.2
      have hq' : ∀ t, t < N → nI (q t) = nI (q t) ∧ q t < 1024 := fun t ht => ⟨rfl, (hq t ht).2⟩
      obtain ⟨σ1, σ2, σ3, e1, e2, e3, h6, o1, o2, o3⟩ := x2_put3 hc hR (by omega) (nI pl) (nI (szf E lg N q pl)) (oN (stf E lg N q pl))
      have hR3 : Rd σ3 c E lg N q (i + 1) := h6.le (upd_le (fun _ _ => rfl) (by rw [c1])) (upd_le (fun _ _ => rfl) (by rw [← c1])) (upd_le (fun _ _ => rfl) (by rw [← c1]))
      have hp1 : posf E lg N q (i + 1) = pl + szf E lg N q pl := by rw [posf, ← c1]
      obtain ⟨σ', t, e4, h7, h8, o4⟩ := x2_readOn_38 hc hN hcj hd hd2 ok hq hl K r (pl + 1) fu σ3 (i + 1) (by omega) (by omega) (by omega) (by omega) (fun k hk => by
        by_cases c2 : k = i
        · rw [c2]; omega
        · exact h5 k (by omega)) (hj.off o3 (by omega)) (hE.off o3 (by omega)) (by rw [(o3 j2 (by omega)).1]; exact hs) hR3
      refine ⟨σ', t, ?_, h7, h8, o3.trans o4⟩
      have hmx : (if (1 : Int32) < nI (lgst E q pl (min lg (N - pl))) then nI (lgst E q pl (min lg (N - pl))) else 1) = nI (szf E lg N q pl) := by
        unfold szf
        rw [k_1]
        by_cases c2 : 1 < lgst E q pl (min lg (N - pl))
        · rw [if_pos (nI_lt c2 (by have := lgst_le E q pl (min lg (N - pl)); omega)), Nat.max_eq_right (by omega)]
        · rw [if_neg (nI_nlt (by omega) (by omega)), Nat.max_eq_left (by omega)]
      unfold X2_readOn_38 X3_length
      rw [uB, hj.1, if_neg (nI_ge hpl (by omega)), if_pos (by rw [c1]), hs, x0_longestAt hE ok hj hN (by omega) hq' (by omega) hl.2, uB, e1, uB]
      dsimp only
      rw [hmx, e2, uB]
      dsimp only
      rw [x3_packed (q := shf q pl) b3 (hj.off o2 (by omega)) hN (by omega) b2 (fun t ht => hq' (pl + t) (by omega)), uB]
      dsimp only
      rw [x0_leaderOf (hE.off o2 (by omega)) ok (by have := pac_lt4 (q := shf q pl) b3 (fun t ht => (hq (pl + t) (by omega)).2); omega), uB]
      dsimp only
      rw [show ldr E (pac (shf q pl) (szf E lg N q pl)) (en_m E) = stf E lg N q pl from rfl, e3, uB]
      dsimp only
      rw [nI_add, nI_1, ← hp1, e4]
    · obtain ⟨σ', t, e4, h7, h8, o4⟩ := x2_readOn_38 hc hN hcj hd hd2 ok hq hl K r (pl + 1) fu σ i (by omega) (by omega) (by omega) h4 h5 hj hE hs hR
      refine ⟨σ', t, ?_, h7, h8, o4⟩
      unfold X2_readOn_38 X3_length
      rw [uB, hj.1, if_neg (nI_ge (by omega) (by omega)), if_neg (fun x => c1 ((nI_eq (by omega) (by omega)).mp x))]
      dsimp only
      rw [nI_1, e4]
