/-! digest: the class -/
def mixF (h v : Int64) : Int64 := (31 : Int64) * h + v
def hf (g : Nat → Int32) : Nat → Int64 → Int64
  | 0, h => h
  | i + 1, h => mixF (hf g i h) (g i).toInt64
def hh (g : Nat → Nat → Int32) (c : Nat) : Nat → Int64 → Int64
  | 0, h => h
  | i + 1, h => hf (g i) c (hh g c i h)
theorem hf_cong {g g' : Nat → Int32} : ∀ {n : Nat} {h : Int64}, (∀ i, i < n → g i = g' i) → hf g n h = hf g' n h
  | 0, _, _ => rfl
  | n + 1, h, hg => by rw [hf, hf, hf_cong (n := n) (fun i hi => hg i (by omega)), hg n (by omega)]
theorem hf_add (g : Nat → Int32) (n : Nat) (h : Int64) : ∀ m, hf g (n + m) h = hf (fun i => g (n + i)) m (hf g n h)
  | 0 => rfl
  | m + 1 => by
    show mixF (hf g (n + m) h) (g (n + m)).toInt64 = _
    rw [hf_add g n h m]; rfl
theorem hf_flat (g : Nat → Nat → Int32) {c : Nat} (hc : 0 < c) (h : Int64) : ∀ i, hf (fun k => g (k / c) (k % c)) (c * i) h = hh g c i h
  | 0 => rfl
  | i + 1 => by
    rw [Nat.mul_succ, hf_add, hf_flat g hc h i, hh]
    exact hf_cong (fun j hj => by rw [Nat.mul_add_div hc, Nat.div_eq_of_lt hj, Nat.add_zero, Nat.mul_add_mod, Nat.mod_eq_of_lt hj])
def Dg (σ : Mem) (w : Wd) : Prop := ClP σ w ∧ ClS σ ∧ RdA σ 61 (w_a w)
theorem RdA.off {σ σ' : Mem} {a : As} {lo hi : Nat} (h : RdA σ 61 a) (o : Off lo hi σ σ') (hd : 68 ≤ lo ∨ hi ≤ 61) : RdA σ' 61 a := RdW.off (c := 61) h o (by omega)
theorem Dg.s {σ σ' : Mem} {w : Wd} {lo hi : Nat} (h : Dg σ w) (o : Off lo hi σ σ') (h1 : 68 ≤ lo) (h2 : hi ≤ 81) (s : ClS σ') : Dg σ' w := ⟨h.1.off o (by omega) (by omega), s, h.2.2.off o (by omega)⟩
theorem x6_mix (σ : Mem) (h v : Int64) : X6_mix σ h v = some (σ, mixF h v) := rfl
theorem g_5 {w : Wd} {T : Nat} (ok : AsOk T (w_a w)) (K : Mem → Int64 → Option (Mem × Int64)) : ∀ (r v fu : Nat) (σ : Mem) (h : Int64), v + r = 10 → r < fu → Dg σ w → ∃ σ', X6_mixNumbers_5 K fu σ (hf (coAns w) v h) (nI v) = K σ' (hf (coAns w) 10 h) ∧ Dg σ' w ∧ Off 68 77 σ σ'
  | r, v, 0, _, _, _, h, _ => absurd h (by omega)
  | 0, v, fu + 1, σ, h, h1, _, hD => by
    have : v = 10 := by omega
    subst this
    exact ⟨σ, by rw [X6_mixNumbers_5, if_pos (by decide)], hD, Off.rfl'⟩
  | r + 1, v, fu + 1, σ, h, h1, hfu, hD => by
    obtain ⟨σ1, e1, g1, g2, o1⟩ := x6_countNumber hD.1 hD.2.1 ok hD.2.2 (show v < 10 by omega)
    obtain ⟨σ2, e2, g3, o2⟩ := g_5 ok K r (v + 1) fu σ1 h (by omega) (by omega) (hD.s o1 (by omega) (by omega) (hD.2.1.s68 o1 g1 g2))
    refine ⟨σ2, ?_, g3, o1.trans o2⟩
    rw [X6_mixNumbers_5, if_neg (show ¬ (10 : Int32) ≤ nI v from nI_ge (b := 10) (by omega) (by omega)), e1, uB, x6_mix, uB, nI_1]
    exact e2
theorem g_33 {w : Wd} (K : Mem → Int64 → Option (Mem × Int64)) {σ : Mem} (hD : Dg σ w) : ∀ (r v fu : Nat) (h : Int64), v + r = 2 → r < fu → X6_mixNumbers_33 K fu σ (hf (fun i => nI (asGet (w_a w) i)) v h) (nI v) = K σ (hf (fun i => nI (asGet (w_a w) i)) 2 h)
  | r, v, 0, _, _, h => absurd h (by omega)
  | 0, v, fu + 1, h, h1, _ => by
    have : v = 2 := by omega
    subst this
    rw [X6_mixNumbers_33, if_pos (by decide)]
  | r + 1, v, fu + 1, h, h1, hfu => by
    rw [X6_mixNumbers_33, if_neg (show ¬ (2 : Int32) ≤ nI v from nI_ge (b := 2) (by omega) (by omega)), q_getSet hD.1 (by omega), uB, x6_mix, uB, nI_1]
    exact g_33 K hD r (v + 1) fu h (by omega) (by omega)
theorem g_60 {w : Wd} {T : Nat} (ok : AsOk T (w_a w)) (K : Mem → Int64 → Option (Mem × Int64)) {σ : Mem} (hD : Dg σ w) : ∀ (r v fu : Nat) (h : Int64), v + r = as_N (w_a w) → r < fu → X6_mixNumbers_60 K fu σ (hf (fun i => nI (as_p (w_a w) i)) v h) (nI v) = K σ (hf (fun i => nI (as_p (w_a w) i)) (as_N (w_a w)) h)
  | r, v, 0, _, _, h => absurd h (by omega)
  | 0, v, fu + 1, h, h1, _ => by
    have hN := ok.1
    have hv : v = as_N (w_a w) := by omega
    subst hv
    unfold X6_mixNumbers_60 X3_length
    rw [uB, hD.1.1.1.1, if_pos (nI_le (by omega) (by omega))]
  | r + 1, v, fu + 1, h, h1, hfu => by
    have hN := ok.1
    unfold X6_mixNumbers_60 X3_length
    rw [uB, hD.1.1.1.1, if_neg (nI_ge (by omega) (by omega)), x3_at hD.1.1.1 (by rw [cap1']; exact hN) (by rw [cap1']; omega) (by omega), uB]
    dsimp only
    rw [x6_mix, uB, nI_1]
    exact g_60 ok K hD r (v + 1) fu h (by omega) (by omega)
theorem g_5' {w : Wd} {T : Nat} (ok : AsOk T (w_a w)) (K : Mem → Int64 → Option (Mem × Int64)) (σ : Mem) (h : Int64) (hD : Dg σ w) : ∃ σ', X6_mixNumbers_5 K FU σ h (0 : Int32) = K σ' (hf (coAns w) 10 h) ∧ Dg σ' w ∧ Off 68 77 σ σ' := g_5 ok K 10 0 FU σ h (by omega) (by unfold FU; omega) hD
theorem g_33' {w : Wd} (K : Mem → Int64 → Option (Mem × Int64)) {σ : Mem} (hD : Dg σ w) (h : Int64) : X6_mixNumbers_33 K FU σ h (0 : Int32) = K σ (hf (fun i => nI (asGet (w_a w) i)) 2 h) := g_33 K hD 2 0 FU h (by omega) (by unfold FU; omega)
theorem g_60' {w : Wd} {T : Nat} (ok : AsOk T (w_a w)) (K : Mem → Int64 → Option (Mem × Int64)) {σ : Mem} (hD : Dg σ w) (h : Int64) : X6_mixNumbers_60 K FU σ h (0 : Int32) = K σ (hf (fun i => nI (as_p (w_a w) i)) (as_N (w_a w)) h) := g_60 ok K hD (as_N (w_a w)) 0 FU h (by omega) (by have := ok.1; unfold FU; omega)
def dg1 (w : Wd) (h : Int64) : Int64 := hf (fun i => nI (as_p (w_a w) i)) (as_N (w_a w)) (hf (fun i => nI (asGet (w_a w) i)) 2 (hf (coAns w) 10 h))
theorem g_numbers {w : Wd} {T : Nat} (ok : AsOk T (w_a w)) {σ : Mem} (hD : Dg σ w) (h : Int64) : ∃ σ', X6_mixNumbers σ h = some (σ', dg1 w h) ∧ Dg σ' w ∧ Off 68 77 σ σ' := by
  obtain ⟨σ1, e1, g1, o1⟩ := g_5' ok (fun (σ : Mem) (v3 : Int64) => X6_mixNumbers_33 (fun (σ : Mem) (v3 : Int64) => X6_mixNumbers_60 (fun (σ : Mem) (v3 : Int64) => some (σ, v3)) FU σ v3 (0 : Int32)) FU σ v3 (0 : Int32)) σ h hD
  refine ⟨σ1, ?_, g1, o1⟩
  unfold X6_mixNumbers
  rw [e1, g_33' _ g1, g_60' ok _ g1]
  rfl
theorem g_i20 {w : Wd} {T i : Nat} (ok : AsOk T (w_a w)) (hi : i < as_t (w_a w)) (K : Mem → Int64 → Int32 → Option (Mem × Int64)) {σ : Mem} (hD : Dg σ w) : ∀ (r v fu : Nat) (h : Int64), v + r = 5 → r < fu → X6_mixItems_20 K fu σ (hf (itAns (w_a w) i) v h) (nI i) (nI v) = K σ (hf (itAns (w_a w) i) 5 h) (nI i)
  | r, v, 0, _, _, h => absurd h (by omega)
  | 0, v, fu + 1, h, h1, _ => by
    have : v = 5 := by omega
    subst this
    rw [X6_mixItems_20, if_pos (by decide)]
  | r + 1, v, fu + 1, h, h1, hfu => by
    rw [X6_mixItems_20, if_neg (show ¬ (5 : Int32) ≤ nI v from nI_ge (b := 5) (by omega) (by omega)), x6_itemNumber ok hD.1.1 hD.2.2 hi (by omega), uB, x6_mix, uB, nI_1]
    exact g_i20 ok hi K hD r (v + 1) fu h (by omega) (by omega)
theorem g_i5 {w : Wd} {T : Nat} (ok : AsOk T (w_a w)) {σ : Mem} (hD : Dg σ w) : ∀ (r i fu : Nat) (h : Int64), i + r = as_t (w_a w) → r < fu → X6_mixItems_5 (fun (σ : Mem) (v3 : Int64) => some (σ, v3)) fu σ (hh (itAns (w_a w)) 5 i h) (nI i) = some (σ, hh (itAns (w_a w)) 5 (as_t (w_a w)) h)
  | r, v, 0, _, _, h => absurd h (by omega)
  | 0, i, fu + 1, h, h1, _ => by
    have ht := as_t_le ok
    have h1 : i = as_t (w_a w) := h1
    rw [← h1] at ht ⊢
    rw [X6_mixItems_5, x6_size, uB]
    dsimp only
    rw [hD.2.2.1.1, ← h1, if_pos (nI_le (by omega) (by omega))]
  | r + 1, i, fu + 1, h, h1, hfu => by
    have ht := as_t_le ok
    have hi : i < as_t (w_a w) := by rw [← h1]; omega
    have e1 := g_i20 ok hi (fun (σ : Mem) (v3 : Int64) (v5 : Int32) => X6_mixItems_5 (fun (σ : Mem) (v3 : Int64) => some (σ, v3)) fu σ v3 (v5 + (1 : Int32))) hD 5 0 FU (hh (itAns (w_a w)) 5 i h) (by omega) (by unfold FU; omega)
    rw [X6_mixItems_5, x6_size, uB]
    dsimp only
    rw [hD.2.2.1.1, if_neg (nI_ge hi (Nat.lt_of_le_of_lt ht (by omega)))]
    refine e1.trans ?_
    rw [nI_1]
    exact g_i5 ok hD r (i + 1) fu h (by omega) (by omega)
theorem g_items {w : Wd} {T : Nat} (ok : AsOk T (w_a w)) {σ : Mem} (hD : Dg σ w) (h : Int64) : X6_mixItems σ h = some (σ, hh (itAns (w_a w)) 5 (as_t (w_a w)) h) :=
  g_i5 ok hD (as_t (w_a w)) 0 FU h (Nat.zero_add _) (by unfold FU; exact Nat.lt_of_le_of_lt (as_t_le ok) (by omega))
theorem g_e23 {w : Wd} {T e : Nat} (ok : AsOk T (w_a w)) (he : e < en_m (as_E (w_a w))) (K : Mem → Int64 → Int32 → Option (Mem × Int64)) {σ : Mem} (hD : Dg σ w) : ∀ (r v fu : Nat) (h : Int64), v + r = 10 → r < fu → X6_mixEntries_23 K fu σ (hf (enAns (w_a w) e) v h) (nI e) (nI v) = K σ (hf (enAns (w_a w) e) 10 h) (nI e)
  | r, v, 0, _, _, h => absurd h (by omega)
  | 0, v, fu + 1, h, h1, _ => by
    have : v = 10 := by omega
    subst this
    rw [X6_mixEntries_23, if_pos (by decide)]
  | r + 1, v, fu + 1, h, h1, hfu => by
    rw [X6_mixEntries_23, if_neg (show ¬ (10 : Int32) ≤ nI v from nI_ge (b := 10) (by omega) (by omega)), x6_entryNumber ok hD.1.1 hD.2.2 he (by omega), uB, x6_mix, uB, nI_1]
    exact g_e23 ok he K hD r (v + 1) fu h (by omega) (by omega)
theorem g_e5 {w : Wd} {T : Nat} (ok : AsOk T (w_a w)) {σ : Mem} (hD : Dg σ w) : ∀ (r i fu : Nat) (h : Int64), i + r = en_m (as_E (w_a w)) → r < fu → X6_mixEntries_5 (fun (σ : Mem) (v3 : Int64) => some (σ, v3)) fu σ (hh (enAns (w_a w)) 10 i h) (nI i) = some (σ, hh (enAns (w_a w)) 10 (en_m (as_E (w_a w))) h)
  | r, v, 0, _, _, h => absurd h (by omega)
  | 0, i, fu + 1, h, h1, _ => by
    have hm := ok.2.2.1.1
    have hi : i = en_m (as_E (w_a w)) := by omega
    subst hi
    unfold X6_mixEntries_5 X0_size
    rw [uB, hD.1.1.2.1.1, if_pos (nI_le (by omega) (by omega))]
  | r + 1, i, fu + 1, h, h1, hfu => by
    have hm := ok.2.2.1.1
    have hi : i < en_m (as_E (w_a w)) := by omega
    have e1 := g_e23 ok hi (fun (σ : Mem) (v3 : Int64) (v5 : Int32) => X6_mixEntries_5 (fun (σ : Mem) (v3 : Int64) => some (σ, v3)) fu σ v3 (v5 + (1 : Int32))) hD 10 0 FU (hh (enAns (w_a w)) 10 i h) (by omega) (by unfold FU; omega)
    unfold X6_mixEntries_5 X0_size
    rw [uB, hD.1.1.2.1.1, if_neg (nI_ge hi (by omega))]
    refine e1.trans ?_
    rw [nI_1]
    exact g_e5 ok hD r (i + 1) fu h (by omega) (by omega)
theorem g_entries {w : Wd} {T : Nat} (ok : AsOk T (w_a w)) {σ : Mem} (hD : Dg σ w) (h : Int64) : X6_mixEntries σ h = some (σ, hh (enAns (w_a w)) 10 (en_m (as_E (w_a w))) h) :=
  g_e5 ok hD (en_m (as_E (w_a w))) 0 FU h (by omega) (by have := ok.2.2.1.1; unfold FU; omega)
theorem g_w5 {w : Wd} {T : Nat} (ok : AsOk T (w_a w)) (K : Mem → Int64 → Option (Mem × Int64)) {σ : Mem} (hD : Dg σ w) : ∀ (r v fu : Nat) (h : Int64), v + r = 3 → r < fu → X6_mixWhatWouldBe_5 K fu σ (hf (fun i => nI (beAns (w_a w) (i + 1))) v h) (nI (v + 1)) = K σ (hf (fun i => nI (beAns (w_a w) (i + 1))) 3 h)
  | r, v, 0, _, _, h => absurd h (by omega)
  | 0, v, fu + 1, h, h1, _ => by
    have : v = 3 := by omega
    subst this
    rw [X6_mixWhatWouldBe_5, if_pos (by decide)]
  | r + 1, v, fu + 1, h, h1, hfu => by
    rw [X6_mixWhatWouldBe_5, if_neg (show ¬ (4 : Int32) ≤ nI (v + 1) from nI_ge (b := 4) (by omega) (by omega)), q_begun hD.1 ok (by omega)]
    show (Option.bind (some (σ, nI (beAns (w_a w) (v + 1)))) _) = _
    rw [uB, x6_mix, uB, nI_1]
    exact g_w5 ok K hD r (v + 1) fu h (by omega) (by omega)
theorem g_w32 {w : Wd} {T : Nat} (ok : AsOk T (w_a w)) (K : Mem → Int64 → Option (Mem × Int64)) : ∀ (r v fu : Nat) (σ : Mem) (h : Int64), v + r = 3 → r < fu → Dg σ w → ∃ σ', X6_mixWhatWouldBe_32 K fu σ (hf (ifAns (w_a w) 1) v h) (nI v) = K σ' (hf (ifAns (w_a w) 1) 3 h) ∧ Dg σ' w ∧ Off 68 77 σ σ'
  | r, v, 0, _, _, _, h, _ => absurd h (by omega)
  | 0, v, fu + 1, σ, h, h1, _, hD => by
    have : v = 3 := by omega
    subst this
    exact ⟨σ, by rw [X6_mixWhatWouldBe_32, if_pos (by decide)], hD, Off.rfl'⟩
  | r + 1, v, fu + 1, σ, h, h1, hfu, hD => by
    obtain ⟨⟨σ1, e1, p1, s1, _⟩, o1⟩ := q_if (s := 1) (what := v) hD.1 hD.2.1 ok (by omega) (by omega)
    have o1 := o1 σ1 e1
    obtain ⟨σ2, e2, g3, o2⟩ := g_w32 ok K r (v + 1) fu σ1 h (by omega) (by omega) (hD.s o1 (by omega) (by omega) s1)
    refine ⟨σ2, ?_, g3, o1.trans o2⟩
    rw [X6_mixWhatWouldBe_32, if_neg (show ¬ (3 : Int32) ≤ nI v from nI_ge (b := 3) (by omega) (by omega)), show X6_ifStruck σ (1 : Int32) (nI v) = _ from e1]
    show (Option.bind (some (σ1, ifAns (w_a w) 1 v)) _) = _
    rw [uB, x6_mix, uB, nI_1]
    exact e2
theorem g_w60 {w : Wd} {T : Nat} (ok : AsOk T (w_a w)) (K : Mem → Int64 → Option (Mem × Int64)) {σ : Mem} (hD : Dg σ w) : ∀ (r v fu : Nat) (h : Int64), v + r = 10 → r < fu → X6_mixWhatWouldBe_60 K fu σ (hf (fun i => oN (shF (w_a w) i (en_m (as_E (w_a w))))) v h) (nI v) = K σ (hf (fun i => oN (shF (w_a w) i (en_m (as_E (w_a w))))) 10 h)
  | r, v, 0, _, _, h => absurd h (by omega)
  | 0, v, fu + 1, h, h1, _ => by
    have : v = 10 := by omega
    subst this
    rw [X6_mixWhatWouldBe_60, if_pos (by decide)]
  | r + 1, v, fu + 1, h, h1, hfu => by
    rw [X6_mixWhatWouldBe_60, if_neg (show ¬ (10 : Int32) ≤ nI v from nI_ge (b := 10) (by omega) (by omega)), q_shortest hD.1 ok (by omega)]
    show (Option.bind (some (σ, oN (shF (w_a w) v (en_m (as_E (w_a w)))))) _) = _
    rw [uB, x6_mix, uB, nI_1]
    exact g_w60 ok K hD r (v + 1) fu h (by omega) (by omega)
theorem g_w5' {w : Wd} {T : Nat} (ok : AsOk T (w_a w)) (K : Mem → Int64 → Option (Mem × Int64)) {σ : Mem} (hD : Dg σ w) (h : Int64) : X6_mixWhatWouldBe_5 K FU σ h (1 : Int32) = K σ (hf (fun i => nI (beAns (w_a w) (i + 1))) 3 h) := g_w5 ok K hD 3 0 FU h (by omega) (by unfold FU; omega)
theorem g_w32' {w : Wd} {T : Nat} (ok : AsOk T (w_a w)) (K : Mem → Int64 → Option (Mem × Int64)) (σ : Mem) (h : Int64) (hD : Dg σ w) : ∃ σ', X6_mixWhatWouldBe_32 K FU σ h (0 : Int32) = K σ' (hf (ifAns (w_a w) 1) 3 h) ∧ Dg σ' w ∧ Off 68 77 σ σ' := g_w32 ok K 3 0 FU σ h (by omega) (by unfold FU; omega) hD
theorem g_w60' {w : Wd} {T : Nat} (ok : AsOk T (w_a w)) (K : Mem → Int64 → Option (Mem × Int64)) {σ : Mem} (hD : Dg σ w) (h : Int64) : X6_mixWhatWouldBe_60 K FU σ h (0 : Int32) = K σ (hf (fun i => oN (shF (w_a w) i (en_m (as_E (w_a w))))) 10 h) := g_w60 ok K hD 10 0 FU h (by omega) (by unfold FU; omega)
def dg2 (w : Wd) (x : Nat) (h : Int64) : Int64 := mixF (mixF (hf (fun i => oN (shF (w_a w) i (en_m (as_E (w_a w))))) 10 (hf (ifAns (w_a w) 1) 3 (hf (fun i => nI (beAns (w_a w) (i + 1))) 3 h))) (nI (clAns (w_a w))).toInt64) (nI x).toInt64
theorem g_would {w : Wd} {T : Nat} (ok : AsOk T (w_a w)) {σ : Mem} (hD : Dg σ w) (h : Int64) : ∃ σ' x, LeastIs (w_a w) x ∧ X6_mixWhatWouldBe σ h = some (σ', dg2 w x h) ∧ Dg σ' w ∧ Off 68 81 σ σ' := by
  obtain ⟨σ2, e2, g2, o2⟩ := g_w32' ok (fun (σ : Mem) (v3 : Int64) => X6_mixWhatWouldBe_60 (fun (σ : Mem) (v3 : Int64) => ((X6_clashes σ).bind fun q13 => ((X6_mix q13.1 v3 q13.2.toInt64).bind fun q15 => ((X6_least q15.1).bind fun q17 => ((X6_mix q17.1 q15.2 q17.2.toInt64).bind fun q19 => some (q19.1, q19.2)))))) FU σ v3 (0 : Int32)) σ (hf (fun i => nI (beAns (w_a w) (i + 1))) 3 h) hD
  obtain ⟨σ4, e4, g4, o4⟩ := x6_clashes ok g2.1.1 g2.2.1.2.2.1
  have D4 : Dg σ4 w := g2.s o4 (by omega) (by omega) (g2.2.1.s75 o4 g4)
  obtain ⟨σ5, x, e5, g5, _, g6, o5⟩ := x6_leastIs ok D4.1.1 D4.2.1.2.2.2.2
  refine ⟨σ5, x, g5, ?_, D4.s o5 (by omega) (by omega) (D4.2.1.s79 o5 g6), ((o2.mono (by omega) (by omega)).trans (o4.mono (by omega) (by omega))).trans (o5.mono (by omega) (by omega))⟩
  unfold X6_mixWhatWouldBe
  rw [g_w5' ok _ hD, e2, g_w60' ok _ g2, e4, uB, x6_mix, uB]
  dsimp only
  rw [e5, uB, x6_mix, uB]
  rfl
def meB (a : As) : Nat := if as_k a = 0 then 0 else (meAns a).toNat
def shB (a : As) : Int64 := (bsh (shAns a)).getD 0
theorem g_me {σ : Mem} {a : As} {T : Nat} (ok : AsOk T a) (hT : T ≤ 512) : X6_bitsOfMean σ (meAns a) = some (σ, nI (meB a)) ∧ meB a < 2147483648 := by
  unfold meB
  rcases me_nn ok hT with ⟨c, e⟩ | ⟨E, t, g1, g2, g3, g4, c⟩
  · rw [e, if_pos c]
    exact ⟨x6_bitsOfMean0 σ, by omega⟩
  · rw [g4, if_neg c, u32n (n32_lt (by omega) g3)]
    exact ⟨x6_bitsOfMean g1 g2 g3, by unfold n32; omega⟩
theorem g_sh {σ : Mem} {a : As} {T : Nat} (ok : AsOk T a) : X6_bitsOfShare σ (shAns a) = some (σ, shB a) := by
  obtain ⟨h1, x, h2, h3⟩ := shC_t (sh_nn ok)
  rw [x6_bitsOfShare]
  unfold shB
  rw [h3]
  rfl
theorem g_87 {w : Wd} (hx : TxOk (w_n w) (w_t w)) {σ : Mem} (h59 : RowIs σ 59 (w_n w) (fun j => nI (w_t w j))) : ∀ (r v fu : Nat) (h : Int64), v + r = w_n w → r < fu → X6_digest_87 (fun (σ : Mem) (v1 : Int64) => some (σ, v1)) fu σ (hf (fun j => nI (w_t w j)) v h) (nI v) = some (σ, hf (fun j => nI (w_t w j)) (w_n w) h)
  | r, v, 0, _, _, h => absurd h (by omega)
  | 0, v, fu + 1, h, h1, _ => by
    have hn := hx.1
    have hv : v = w_n w := by omega
    subst hv
    unfold X6_digest_87 X1_length X3_length
    rw [uB, uB]
    dsimp only
    rw [h59.1, if_pos (nI_le (by omega) (by omega))]
  | r + 1, v, fu + 1, h, h1, hfu => by
    have hn := hx.1
    unfold X6_digest_87 X1_length X3_length X1_codeAt
    rw [uB, uB]
    dsimp only
    rw [h59.1, if_neg (nI_ge (by omega) (by omega)), x3_at h59 (by rw [cap59']; exact hn) (by rw [cap59']; omega) (by omega), uB, uB]
    dsimp only
    rw [x6_mix, uB, nI_1]
    exact g_87 hx h59 r (v + 1) fu h (by omega) (by omega)
def dgAns (w : Wd) (x : Nat) : Int64 := hf (fun j => nI (w_t w j)) (w_n w) (mixF (mixF (mixF (mixF (dg2 w x (hh (enAns (w_a w)) 10 (en_m (as_E (w_a w))) (hh (itAns (w_a w)) 5 (as_t (w_a w)) (dg1 w 3643)))) (shB (w_a w))) (nI (meB (w_a w))).toInt64) (if w_k w then 1 else 0)) (nI (w_n w)).toInt64)
theorem q_digest {σ : Mem} {w : Wd} {T : Nat} (hP : ClP σ w) (hS : ClS σ) (hx : TxOk (w_n w) (w_t w)) (ok : AsOk T (w_a w)) (hT : T ≤ 512) : ∃ σ' x, LeastIs (w_a w) x ∧ X6_digest σ = some (σ', dgAns w x) ∧ ClP σ' w ∧ ClS σ' ∧ Off 0 82 σ σ' := by
  obtain ⟨σ1, e1, h1, o1⟩ := x6_readPaper ok hP.1 hS.1
  have D1 : Dg σ1 w := ⟨hP.off o1 (by omega) (by omega), hS.read ok h1 o1, h1⟩
  obtain ⟨σ2, e2, D2, o2⟩ := g_numbers ok D1 3643
  have e3 := g_items ok D2 (dg1 w 3643)
  have e4 := g_entries ok D2 (hh (itAns (w_a w)) 5 (as_t (w_a w)) (dg1 w 3643))
  obtain ⟨σ5, x, hx5, e5, D5, o5⟩ := g_would ok D2 (hh (enAns (w_a w)) 10 (en_m (as_E (w_a w))) (hh (itAns (w_a w)) 5 (as_t (w_a w)) (dg1 w 3643)))
  obtain ⟨σ6, e6, p6, s6, _⟩ := q_share D5.1 D5.2.1 ok
  obtain ⟨σ7, e6', o6, _⟩ := x6_readShare ok D5.1.1 D5.2.1.1
  have e67 : σ6 = σ7 := by rw [e6] at e6'; exact (Prod.mk.inj (Option.some.inj e6')).1
  subst e67
  refine ⟨σ6, x, hx5, ?_, p6, s6, (((o1.mono (by omega) (by omega)).trans (o2.mono (by omega) (by omega))).trans (o5.mono (by omega) (by omega))).trans (o6.mono (by omega) (by omega))⟩
  unfold X6_digest
  rw [e1, uB, e2, uB, e3, uB, e4, uB, e5, uB, e6, uB]
  dsimp only
  rw [g_sh ok, uB, x6_mix, uB]
  dsimp only
  rw [x6_meanKeys ok hT p6.1, uB]
  dsimp only
  rw [(g_me ok hT).1, uB, x6_mix, uB]
  dsimp only
  rw [p6.2.2.1]
  have hl := p6.2.2.2.2
  unfold dgAns
  cases hk : w_k w with
  | false =>
    rw [if_pos (show bI false = 0 from rfl), x6_mix, uB]
    unfold X1_length X3_length
    rw [uB, uB]
    dsimp only
    rw [x6_mix, uB, hl.1]
    exact g_87 hx hl (w_n w) 0 FU _ (by omega) (by have := hx.1; unfold FU; omega)
  | true =>
    rw [if_neg (show ¬ bI true = 0 by decide), x6_mix, uB]
    unfold X1_length X3_length
    rw [uB, uB]
    dsimp only
    rw [x6_mix, uB, hl.1]
    exact g_87 hx hl (w_n w) 0 FU _ (by omega) (by have := hx.1; unfold FU; omega)
