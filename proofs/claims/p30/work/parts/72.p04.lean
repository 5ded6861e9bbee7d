/-! looks: what the law sees of a state, in one long -/
def fl (g : Nat → Int64) : Nat → Nat → Int64 → Int64
  | 0, _, h => h
  | r + 1, k, h => fl g r (k + 1) ((31 : Int64) * h + g k)
def coA (a : As) (k : Nat) : Int32 := coAns (a, a, false, (0, fun _ => a), (0, fun _ => 0)) k
theorem coA_e {w : Wd} {k : Nat} (h : k ≤ 8) : coAns w k = coA (w_a w) k := by
  have : k = 0 ∨ k = 1 ∨ k = 2 ∨ k = 3 ∨ k = 4 ∨ k = 5 ∨ k = 6 ∨ k = 7 ∨ k = 8 := by omega
  rcases this with rfl | rfl | rfl | rfl | rfl | rfl | rfl | rfl | rfl <;> rfl
def lkC (a : As) : Nat → Int64 := fun k => (coA a k).toInt64
def lkP (a : As) : Nat → Int64 := fun j => (nI (as_p a j)).toInt64
def lkE (a : As) : Nat → Int64 := fun k => (enAns a (k / 10) (k % 10)).toInt64
def lk (a : As) : Int64 := (31 : Int64) * ((31 : Int64) * fl (lkE a) (10 * en_m (as_E a)) 0 (fl (lkP a) (as_N a) 0 (fl (lkC a) 9 0 73)) + (nI (as_s a)).toInt64) + (nI (as_g a)).toInt64
theorem lo_6 {Q : Mem × Int64 → Prop} {w : Wd} {T : Nat} (ok : AsOk T (w_a w)) (K : Mem → Int64 → Option (Mem × Int64)) : ∀ (r k fu : Nat) (σ : Mem) (h : Int64), k + r = 9 → r < fu → Gd σ w → (∀ σ', Gd σ' w → Hd Q (K σ' (fl (lkC (w_a w)) r k h))) → Hd Q (L_looks_6 K fu σ h (nI k))
  | r, k, 0, _, _, _, h, _, _ => absurd h (by omega)
  | 0, k, fu + 1, σ, h, h1, _, g, hK => by
    rw [L_looks_6]
    refine Hd.t (show (9 : Int32) ≤ nI k from nI_le (a := 9) (by omega) (by omega)) ?_
    exact hK σ g
  | r + 1, k, fu + 1, σ, h, h1, hf, g, hK => by
    rw [L_looks_6]
    refine Hd.f (show ¬ (9 : Int32) ≤ nI k from nI_ge (b := 9) (by omega) (by omega)) ?_
    refine yc_c g ok rfl (by omega) (coA_e (by omega)) (fun σ1 g1 => ?_)
    show Hd Q (L_looks_6 K fu σ1 ((31 : Int64) * h + lkC (w_a w) k) (nI k + 1))
    rw [nI_1]
    exact lo_6 ok K r (k + 1) fu σ1 _ (by omega) (by omega) g1 hK
theorem lo_33 {Q : Mem × Int64 → Prop} {w : Wd} {T : Nat} (ok : AsOk T (w_a w)) (K : Mem → Int64 → Option (Mem × Int64)) : ∀ (r k fu : Nat) (σ : Mem) (h : Int64), k + r = as_N (w_a w) → r < fu → Gd σ w → (∀ σ', Gd σ' w → Hd Q (K σ' (fl (lkP (w_a w)) r k h))) → Hd Q (L_looks_33 K fu σ h (nI k))
  | r, k, 0, _, _, _, h, _, _ => absurd h (by omega)
  | 0, k, fu + 1, σ, h, h1, _, g, hK => by
    have hN := ok.1
    rw [L_looks_33]
    refine yc_c0 g ok (fun σ1 g1 => ?_)
    refine Hd.t (nI_le (by omega) (by omega)) ?_
    exact hK σ1 g1
  | r + 1, k, fu + 1, σ, h, h1, hf, g, hK => by
    have hN := ok.1
    rw [L_looks_33]
    refine yc_c0 g ok (fun σ1 g1 => ?_)
    refine Hd.f (nI_ge (by omega) (by omega)) ?_
    refine yc_st g1 ok rfl (by omega) (fun σ2 g2 => ?_)
    show Hd Q (L_looks_33 K fu σ2 ((31 : Int64) * h + lkP (w_a w) k) (nI k + 1))
    rw [nI_1]
    exact lo_33 ok K r (k + 1) fu σ2 _ (by omega) (by omega) g2 hK
theorem lo_63 {Q : Mem × Int64 → Prop} {w : Wd} {T : Nat} (ok : AsOk T (w_a w)) (K : Mem → Int64 → Option (Mem × Int64)) : ∀ (r k fu : Nat) (σ : Mem) (h : Int64), k + r = 10 * en_m (as_E (w_a w)) → r < fu → Gd σ w → (∀ σ', Gd σ' w → Hd Q (K σ' (fl (lkE (w_a w)) r k h))) → Hd Q (L_looks_63 K fu σ h (nI k))
  | r, k, 0, _, _, _, h, _, _ => absurd h (by omega)
  | 0, k, fu + 1, σ, h, h1, _, g, hK => by
    have hm := ok.2.2.1.1
    rw [L_looks_63]
    refine yc_c4 g ok (fun σ1 g1 => ?_)
    refine Hd.t (show (10 : Int32) * nI (en_m (as_E (w_a w))) ≤ nI k by
      rw [show (10 : Int32) * nI (en_m (as_E (w_a w))) = nI (10 * en_m (as_E (w_a w))) from pk_mul 10 _]
      exact nI_le (by omega) (by omega)) ?_
    exact hK σ1 g1
  | r + 1, k, fu + 1, σ, h, h1, hf, g, hK => by
    have hm := ok.2.2.1.1
    have h10 := Nat.mod_lt k (show 0 < 10 by omega)
    rw [L_looks_63]
    refine yc_c4 g ok (fun σ1 g1 => ?_)
    refine Hd.f (show ¬ (10 : Int32) * nI (en_m (as_E (w_a w))) ≤ nI k by
      rw [show (10 : Int32) * nI (en_m (as_E (w_a w))) = nI (10 * en_m (as_E (w_a w))) from pk_mul 10 _]
      exact nI_ge (by omega) (by omega)) ?_
    refine yc_en g1 ok (pk_div (d := 10) (by omega) (by omega) (by omega)) (by omega) (pk_rem (d := 10) (by omega) (by omega) (by omega)) (by omega) rfl (fun σ2 g2 => ?_)
    show Hd Q (L_looks_63 K fu σ2 ((31 : Int64) * h + lkE (w_a w) k) (nI k + 1))
    rw [nI_1]
    exact lo_63 ok K r (k + 1) fu σ2 _ (by omega) (by omega) g2 hK
theorem lo_e {σ : Mem} {w : Wd} {T : Nat} (g : Gd σ w) (ok : AsOk T (w_a w)) : Hd (fun o => Gd o.1 w ∧ o.2 = lk (w_a w)) (L_looks σ) := by
  have hm := ok.2.2.1.1
  have hN := ok.1
  unfold L_looks
  refine lo_6 ok _ 9 0 FU σ 73 (by omega) (by unfold FU; omega) g (fun σ1 g1 => ?_)
  refine lo_33 ok _ (as_N (w_a w)) 0 FU σ1 _ (by omega) (by unfold FU; omega) g1 (fun σ2 g2 => ?_)
  refine lo_63 ok _ (10 * en_m (as_E (w_a w))) 0 FU σ2 _ (by omega) (by unfold FU; omega) g2 (fun σ3 g3 => ?_)
  refine yc_s0 g3 (fun σ4 g4 => ?_)
  refine yc_s1 g4 (fun σ5 g5 => ?_)
  exact Hd.i ⟨g5, rfl⟩
theorem yc_lo {β : Type} {Q : β → Prop} {f : Mem × Int64 → Option β} {σ : Mem} {w : Wd} {T : Nat} (g : Gd σ w) (ok : AsOk T (w_a w)) (k : ∀ σ', Gd σ' w → Hd Q (f (σ', lk (w_a w)))) : Hd Q ((L_looks σ).bind f) := by
  refine Hd.x (lo_e g ok) (fun o ho => ?_)
  obtain ⟨σ', v⟩ := o
  obtain ⟨h1, h2⟩ := ho
  have h2 : v = lk (w_a w) := h2
  subst h2
  exact k σ' h1
