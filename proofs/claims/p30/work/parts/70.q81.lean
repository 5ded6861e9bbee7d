/-! behind, clashes -/
def bhN (E : En) (f s : Nat) : Nat := en_l E f + en_l E s
def bhq (E : En) (f s : Nat) : Nat → Nat := fun k => if k < en_l E f then en_r E f k else en_r E s (k - en_l E f)
def bhV (E : En) (lg f s : Nat) : Nat := if lgst E (bhq E f s) 0 (min lg (bhN E f s)) = bhN E f s then 1 else if lgst E (bhq E f s) 0 (min lg (bhN E f s)) = en_l E f then (if lgst E (bhq E f s) (en_l E f) (min lg (en_l E s)) = en_l E s then 0 else 2) else 2
theorem bhq_ok {E : En} (ok : EnOk E) {f s : Nat} (hf : f < en_m E) (hs : s < en_m E) : ShOk (bhN E f s) (bhq E f s) := fun t ht => by
  unfold bhN at ht
  unfold bhq
  by_cases c : t < en_l E f
  · rw [if_pos c]; exact (ok.2 f hf).2.1 t c
  · rw [if_neg c]; exact (ok.2 s hs).2.1 _ (by omega)
theorem x6_putRow_8 {E : En} (ok : EnOk E) {e n : Nat} (he : e < en_m E) (hn : n + en_l E e ≤ 61) {g : Nat → Nat} (K : Mem → Option (Mem × Unit)) : ∀ (r v fu : Nat) (σ : Mem), v + r = en_l E e → r < fu → RowIs σ 75 (n + v) (fun j => nI (if j < n then g j else en_r E e (j - n))) → ∃ σ', X6_putRow_8 K fu σ (lN (en_k E e)) (nI (en_l E e)) (nI v) = K σ' ∧ RowIs σ' 75 (n + en_l E e) (fun j => nI (if j < n then g j else en_r E e (j - n))) ∧ Off 75 77 σ σ'
  | 0, v, 0, _, _, h, _ => absurd h (by omega)
  | r + 1, v, 0, _, _, h, _ => absurd h (by omega)
  | 0, v, fu + 1, σ, h1, _, hr => by
    have hl := (ok.2 e he).1
    have : v = en_l E e := by omega
    subst this
    refine ⟨σ, ?_, hr, Off.rfl'⟩
    rw [X6_putRow_8, if_pos (nI_le (by omega) (by omega))]
  | r + 1, v, fu + 1, σ, h1, hf, hr => by
    have hl := (ok.2 e he).1
    obtain ⟨σ1, e1, g1, o1⟩ := x3_put hr (by rw [cap75']; omega) (by rw [cap75']; omega) (nI (en_r E e v))
    obtain ⟨σ2, e2, g2, o2⟩ := x6_putRow_8 ok he hn K r (v + 1) fu σ1 (by omega) (by omega) (g1.le (upd_le (fun _ _ => rfl) (by rw [if_neg (by omega), show n + v - n = v by omega])))
    refine ⟨σ2, ?_, g2, o1.trans o2⟩
    rw [X6_putRow_8, if_neg (nI_ge (by omega) (by omega)), x6_strokeOf σ (ok.klt he) (by omega), uB]
    dsimp only
    rw [show en_k E e / 1024 ^ v % 1024 = en_r E e v from pac_div (ok.r he) (by omega), e1, uB, nI_1, e2]
theorem x6_putRow {σ : Mem} {E : En} (ok : EnOk E) {e n : Nat} (he : e < en_m E) (hn : n + en_l E e ≤ 61) {g : Nat → Nat} (hr : RowIs σ 75 n (fun j => nI (g j))) : ∃ σ', X6_putRow σ (lN (en_k E e)) = some (σ', ()) ∧ RowIs σ' 75 (n + en_l E e) (fun j => nI (if j < n then g j else en_r E e (j - n))) ∧ Off 75 77 σ σ' := by
  have hl := (ok.2 e he).1
  obtain ⟨σ', e1, h1, o1⟩ := x6_putRow_8 (g := g) ok he hn (fun σ => some (σ, ())) (en_l E e) 0 FU σ (by omega) (by unfold FU; omega) (RowIs.le hr (fun j hj => by rw [if_pos (by omega)]))
  refine ⟨σ', ?_, h1, o1⟩
  unfold X6_putRow
  rw [en_len ok he, uB]
  exact e1
theorem x6_readBehind {σ : Mem} {a : As} {T f s : Nat} (ok : AsOk T a) (ha : StC σ 0 a) (h75 : RowI σ 75) (hf : f < en_m (as_E a)) (hs : s < en_m (as_E a)) : ∃ σ', X6_readBehind σ (nI f) (nI s) = some (σ', nI (bhV (as_E a) (as_g a) f s)) ∧ RowI σ' 75 ∧ Off 75 77 σ σ' := by
  obtain ⟨n, g, hn, hr⟩ := h75
  rw [cap75'] at hn
  have okE := ok.2.2.1
  have hg := ok.2.2.2.2.1
  have lf := (okE.2 f hf).1
  have ls := (okE.2 s hs).1
  obtain ⟨σ1, e1, g1, o1⟩ := x3_shorten0 (i := 75) hr (by omega)
  have a1 := ha.off o1 (by omega)
  obtain ⟨σ2, e2, g2, o2⟩ := x6_putRow (n := 0) (g := fun _ => 0) okE hf (by omega) (⟨g1.1, fun j hj => absurd hj (by omega)⟩ : RowIs σ1 75 0 (fun j => nI ((fun _ => 0) j)))
  have a2 := a1.off o2 (by omega)
  rw [Nat.zero_add] at g2
  obtain ⟨σ3, e3, g3, o3⟩ := x6_putRow (n := en_l (as_E a) f) okE hs (by omega) g2
  have a3 := a2.off o3 (by omega)
  have g4 : RowIs σ3 75 (bhN (as_E a) f s) (fun j => nI (bhq (as_E a) f s j)) := RowIs.le g3 (fun j hj => by
    unfold bhq
    by_cases c : j < en_l (as_E a) f
    · rw [if_pos c, if_pos c, if_neg (by omega), Nat.sub_zero]
    · rw [if_neg c, if_neg c])
  have hq := bhq_ok okE hf hs
  have hN : bhN (as_E a) f s ≤ 8 := by unfold bhN; omega
  have oo : Off 75 77 σ σ3 := ((o1.mono (by omega) (by omega)).trans o2).trans o3
  refine ⟨σ3, ?_, ⟨_, _, by rw [cap75']; omega, g4⟩, oo⟩
  have q1 := x0_longestAt (i := 3) (pl := 0) a3.2.1 okE g4 (by rw [cap75']; omega) (by rw [cap75']; omega) (fun t ht => ⟨rfl, (hq t ht).2⟩) (by omega) hg.2
  have q2 := x0_longestAt (i := 3) (pl := en_l (as_E a) f) a3.2.1 okE g4 (by rw [cap75']; omega) (by rw [cap75']; omega) (fun t ht => ⟨rfl, (hq t ht).2⟩) (by unfold bhN; omega) hg.2
  rw [Nat.sub_zero] at q1
  rw [show bhN (as_E a) f s - en_l (as_E a) f = en_l (as_E a) s by unfold bhN; omega] at q2
  have b1 := lgst_le (as_E a) (bhq (as_E a) f s) 0 (min (as_g a) (bhN (as_E a) f s))
  have b2 := lgst_le (as_E a) (bhq (as_E a) f s) (en_l (as_E a) f) (min (as_g a) (en_l (as_E a) s))
  unfold X6_readBehind X3_length
  rw [e1, uB, x0_rowOf a1.2.1 okE hf, uB]
  dsimp only
  rw [e2, uB, uB]
  dsimp only
  rw [x0_rowOf a2.2.1 okE hs, uB]
  dsimp only
  rw [e3, uB, uB]
  dsimp only
  rw [a3.2.2.2.1, g4.1, g2.1, show (0 : Int32) = nI 0 from rfl, q1, uB]
  unfold bhV
  dsimp only
  by_cases c1 : lgst (as_E a) (bhq (as_E a) f s) 0 (min (as_g a) (bhN (as_E a) f s)) = bhN (as_E a) f s
  · rw [if_pos c1, if_pos (by rw [c1])]; rfl
  · rw [if_neg c1, if_neg (fun x => c1 ((nI_eq (by omega) (by omega)).mp x))]
    by_cases c2 : lgst (as_E a) (bhq (as_E a) f s) 0 (min (as_g a) (bhN (as_E a) f s)) = en_l (as_E a) f
    · rw [if_pos c2, if_pos (by rw [c2]), a3.2.2.2.1, q2, uB]
      dsimp only
      rw [pk_sub (by unfold bhN; omega), show bhN (as_E a) f s - en_l (as_E a) f = en_l (as_E a) s by unfold bhN; omega]
      by_cases c3 : lgst (as_E a) (bhq (as_E a) f s) (en_l (as_E a) f) (min (as_g a) (en_l (as_E a) s)) = en_l (as_E a) s
      · rw [if_pos c3, if_pos (by rw [c3])]
      · rw [if_neg c3, if_neg (fun x => c3 ((nI_eq (by omega) (by omega)).mp x))]; rfl
    · rw [if_neg c2, if_neg (fun x => c2 ((nI_eq (by omega) (by omega)).mp x))]; rfl
theorem ClS.s75 {σ σ' : Mem} (h : ClS σ) (o : Off 75 77 σ σ') (h2 : RowI σ' 75) : ClS σ' := ⟨h.1.off o (by omega), h.2.1.off o (by omega), h2, h.2.2.2.1.off o (by omega), h.2.2.2.2.off o (by omega)⟩
theorem q_behind_bad {σ : Mem} {w : Wd} {T : Nat} (hP : ClP σ w) (ok : AsOk T (w_a w)) {x y : Int32} (hx : (x < 0 ∨ nI (en_m (as_E (w_a w))) ≤ x) ∨ ((∃ e, e < en_m (as_E (w_a w)) ∧ x = nI e) ∧ (y < 0 ∨ nI (en_m (as_E (w_a w))) ≤ y))) : X6_behind σ x y = some (σ, Sum.inr 2) := by
  unfold X6_behind
  rcases hx with hx | ⟨⟨i, hi, rfl⟩, hy⟩
  · rw [x0_has_f hP.1.2.1 hx, uB, if_pos rfl]
  · rw [x0_has_t hP.1.2.1 ok.2.2.1 hi, uB, if_neg one_ne, x0_has_f hP.1.2.1 hy, uB, if_pos rfl]
theorem q_behind {σ : Mem} {w : Wd} {T f s : Nat} (hP : ClP σ w) (hS : ClS σ) (ok : AsOk T (w_a w)) (hf : f < en_m (as_E (w_a w))) (hs : s < en_m (as_E (w_a w))) : Ans (X6_behind σ (nI f) (nI s)) σ w (Sum.inl (nI (bhV (as_E (w_a w)) (as_g (w_a w)) f s))) := by
  obtain ⟨σ1, e1, h1, o1⟩ := x6_readBehind ok hP.1 hS.2.2.1 hf hs
  refine ⟨σ1, ?_, hP.off o1 (by omega) (by omega), hS.s75 o1 h1, o1.mono (by omega) (by omega)⟩
  unfold X6_behind
  rw [x0_has_t hP.1.2.1 ok.2.2.1 hf, uB, if_neg one_ne, x0_has_t hP.1.2.1 ok.2.2.1 hs, uB, if_neg one_ne, e1, uB]
def clB (E : En) (lg f s : Nat) : Bool := decide (bhV E lg f s ≠ 0)
def clS (E : En) (lg : Nat) : Nat → Nat
  | 0 => 0
  | f + 1 => clS E lg f + cnt (clB E lg f) (en_m E)
theorem clS_le (E : En) (lg : Nat) : ∀ f, clS E lg f ≤ f * en_m E
  | 0 => Nat.zero_le _
  | f + 1 => by
    have := clS_le E lg f
    have := cnt_le (clB E lg f) (en_m E)
    rw [clS, Nat.add_mul]; omega
theorem x6_clashes_20 {a : As} {T f c0 : Nat} (ok : AsOk T a) (hf : f < en_m (as_E a)) (hc0 : c0 < 1000) (K : Mem → Int32 → Int32 → Option (Mem × Int32)) : ∀ (r s fu : Nat) (σ : Mem), s + r = en_m (as_E a) → r < fu → StC σ 0 a → RowI σ 75 → ∃ σ', X6_clashes_20 K fu σ (nI (c0 + cnt (clB (as_E a) (as_g a) f) s)) (nI f) (nI s) = K σ' (nI (c0 + cnt (clB (as_E a) (as_g a) f) (en_m (as_E a)))) (nI f) ∧ RowI σ' 75 ∧ Off 75 77 σ σ'
  | 0, s, 0, _, _, h, _, _ => absurd h (by omega)
  | r + 1, s, 0, _, _, h, _, _ => absurd h (by omega)
  | 0, s, fu + 1, σ, h1, _, ha, h75 => by
    have hm := ok.2.2.1.1
    have : s = en_m (as_E a) := by omega
    subst this
    refine ⟨σ, ?_, h75, Off.rfl'⟩
    unfold X6_clashes_20 X0_size
    rw [uB, ha.2.1.1, if_pos (nI_le (by omega) (by omega))]
  | r + 1, s, fu + 1, σ, h1, hfu, ha, h75 => by
    have hm := ok.2.2.1.1
    obtain ⟨σ1, e1, g1, o1⟩ := x6_readBehind ok ha h75 hf (show s < en_m (as_E a) by omega)
    obtain ⟨σ2, e2, g2, o2⟩ := x6_clashes_20 ok hf hc0 K r (s + 1) fu σ1 (by omega) (by omega) (ha.off o1 (by omega)) g1
    refine ⟨σ2, ?_, g2, o1.trans o2⟩
    unfold X6_clashes_20 X0_size
    rw [uB, ha.2.1.1, if_neg (nI_ge (by omega) (by omega)), e1, uB]
    dsimp only
    by_cases c : bhV (as_E a) (as_g a) f s = 0
    · rw [cnt_f (show clB (as_E a) (as_g a) f s = false by unfold clB; simp [c])] at e2
      rw [c, if_pos (show nI 0 = 0 from rfl), nI_1]
      exact e2
    · rw [cnt_t (show clB (as_E a) (as_g a) f s = true by unfold clB; simp [c])] at e2
      have hb : bhV (as_E a) (as_g a) f s ≤ 2 := by unfold bhV; split <;> (try split) <;> (try split) <;> omega
      rw [if_neg (nI_ne0 (by omega) (by omega)), nI_1, nI_1]
      exact e2
theorem x6_clashes_4 {a : As} {T : Nat} (ok : AsOk T a) (K : Mem → Int32 → Option (Mem × Int32)) : ∀ (r f fu : Nat) (σ : Mem), f + r = en_m (as_E a) → r < fu → StC σ 0 a → RowI σ 75 → ∃ σ', X6_clashes_4 K fu σ (nI (clS (as_E a) (as_g a) f)) (nI f) = K σ' (nI (clS (as_E a) (as_g a) (en_m (as_E a)))) ∧ RowI σ' 75 ∧ Off 75 77 σ σ'
  | 0, s, 0, _, _, h, _, _ => absurd h (by omega)
  | r + 1, s, 0, _, _, h, _, _ => absurd h (by omega)
  | 0, f, fu + 1, σ, h1, _, ha, h75 => by
    have hm := ok.2.2.1.1
    have : f = en_m (as_E a) := by omega
    subst this
    refine ⟨σ, ?_, h75, Off.rfl'⟩
    unfold X6_clashes_4 X0_size
    rw [uB, ha.2.1.1, if_pos (nI_le (by omega) (by omega))]
  | r + 1, f, fu + 1, σ, h1, hfu, ha, h75 => by
    have hm := ok.2.2.1.1
    have hcl := clS_le (as_E a) (as_g a) f
    have hcl2 : f * en_m (as_E a) ≤ 24 * 24 := Nat.mul_le_mul (by omega) hm
    obtain ⟨σ1, e1, g1, o1⟩ := x6_clashes_20 (f := f) (c0 := clS (as_E a) (as_g a) f) ok (by omega) (by omega) (fun (σ : Mem) (v1 : Int32) (v2 : Int32) => X6_clashes_4 K fu σ v1 (v2 + (1 : Int32))) (en_m (as_E a)) 0 FU σ (by omega) (by unfold FU; omega) ha h75
    obtain ⟨σ2, e2, g2, o2⟩ := x6_clashes_4 ok K r (f + 1) fu σ1 (by omega) (by omega) (ha.off o1 (by omega)) g1
    refine ⟨σ2, ?_, g2, o1.trans o2⟩
    unfold X6_clashes_4 X0_size
    rw [uB, ha.2.1.1, if_neg (nI_ge (by omega) (by omega))]
    refine e1.trans ?_
    rw [nI_1]
    exact e2
def clAns (a : As) : Nat := clS (as_E a) (as_g a) (en_m (as_E a))
theorem x6_clashes {σ : Mem} {a : As} {T : Nat} (ok : AsOk T a) (ha : StC σ 0 a) (h75 : RowI σ 75) : ∃ σ', X6_clashes σ = some (σ', nI (clAns a)) ∧ RowI σ' 75 ∧ Off 75 77 σ σ' :=
  x6_clashes_4 ok (fun σ v => some (σ, v)) (en_m (as_E a)) 0 FU σ (by omega) (by have := ok.2.2.1.1; unfold FU; omega) ha h75
theorem q_clashes {σ : Mem} {w : Wd} {T : Nat} (hP : ClP σ w) (hS : ClS σ) (ok : AsOk T (w_a w)) : Ans1 (X6_clashes σ) σ w (nI (clAns (w_a w))) := by
  obtain ⟨σ1, e1, h1, o1⟩ := x6_clashes ok hP.1 hS.2.2.1
  exact ⟨σ1, e1, hP.off o1 (by omega) (by omega), hS.s75 o1 h1, o1.mono (by omega) (by omega)⟩
