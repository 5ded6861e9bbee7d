/-! isOn: an entry's strokes stand on the paper at a place; isEntry -/
theorem FU0 : 0 < FU := Nat.le_of_ble_eq_true rfl
theorem bI_1 (b : Bool) : bI b &&& 1 = bI b := by cases b <;> decide
theorem enAns_s {a : As} {e k : Nat} (hk : k < 4) : enAns a e (2 + k) = en_s (as_E a) e k := by
  unfold enAns
  rw [if_neg (by omega), if_neg (by omega), if_pos (by omega), Nat.add_sub_cancel_left]
theorem enAns_r {a : As} {e k : Nat} (hk : k < 4) (hl : k < en_l (as_E a) e) : enAns a e (2 + k) = nI (en_r (as_E a) e k) := (enAns_s hk).trans (if_pos hl)
def onF (a : As) (e pl k : Nat) : Bool := decide (∀ j, j < en_l (as_E a) e → k ≤ j → as_p a (pl + j) = en_r (as_E a) e j)
def onB (a : As) (e pl : Nat) : Bool := decide (pl + en_l (as_E a) e ≤ as_N a ∧ ∀ j, j < en_l (as_E a) e → as_p a (pl + j) = en_r (as_E a) e j)
theorem on_0 {Q : Mem × Int32 → Prop} {K : Mem → Int32 → Option (Mem × Int32)} {σ : Mem} {v1 v2 v3 v5 : Int32} (h : Hd Q (K σ 0)) : ∀ {fu : Nat}, 0 < fu → Hd Q (L_isOn_28 K fu σ v1 v2 v3 0 v5)
  | 0, hf => absurd hf (by omega)
  | fu + 1, _ => by
    rw [L_isOn_28]
    exact Hd.s (fun _ => h) (fun _ => Hd.t rfl h)
theorem on_28 {Q : Mem × Int32 → Prop} {w : Wd} {T e pl : Nat} (ok : AsOk T (w_a w)) (he : e < en_m (as_E (w_a w))) (hp : pl + en_l (as_E (w_a w)) e ≤ as_N (w_a w)) (K : Mem → Int32 → Option (Mem × Int32)) : ∀ (r k fu : Nat) (σ : Mem), k + r = en_l (as_E (w_a w)) e → r < fu → Gd σ w → (∀ σ', Gd σ' w → Hd Q (K σ' (bI (onF (w_a w) e pl k)))) → Hd Q (L_isOn_28 K fu σ (nI e) (nI pl) (nI (en_l (as_E (w_a w)) e)) 1 (nI k))
  | r, k, 0, _, _, h, _, _ => absurd h (by omega)
  | 0, k, fu + 1, σ, h1, _, g, hK => by
    have hl := (ok.2.2.1.2 e he).1
    rw [L_isOn_28]
    refine Hd.t (nI_le (by omega) (by omega)) ?_
    have h2 := hK σ g
    rw [show onF (w_a w) e pl k = true from decide_eq_true (fun j h3 h4 => absurd h3 (by omega))] at h2
    exact h2
  | r + 1, k, fu + 1, σ, h1, hf, g, hK => by
    have hl := (ok.2.2.1.2 e he).1
    have hN := ok.1
    have hq := ok.2.1 (pl + k) (by omega)
    have hr := (ok.2.2.1.2 e he).2.1 k (by omega)
    rw [L_isOn_28]
    refine Hd.f (nI_ge (by omega) (by omega)) (Hd.f one_ne ?_)
    refine yc_st g ok (nI_add pl k) (by omega) (fun σ1 g1 => ?_)
    refine yc_en g1 ok rfl he (nI_add 2 k) (by omega) (enAns_r (by omega) (by omega)) (fun σ2 g2 => ?_)
    refine Hd.s (fun c => ?_) (fun c => ?_)
    · have c : nI (as_p (w_a w) (pl + k)) = nI (en_r (as_E (w_a w)) e k) := c
      have c := (nI_eq (by omega) (by omega)).mp c
      show Hd Q (L_isOn_28 K fu σ2 (nI e) (nI pl) (nI (en_l (as_E (w_a w)) e)) 1 (nI k + 1))
      rw [nI_1]
      refine on_28 ok he hp K r (k + 1) fu σ2 (by omega) (by omega) g2 (fun σ' g' => ?_)
      have h2 := hK σ' g'
      rw [show onF (w_a w) e pl k = onF (w_a w) e pl (k + 1) from decide_eq_decide.mpr ⟨fun h j h3 h4 => h j h3 (by omega), fun h j h3 h4 => by
        by_cases c2 : j = k
        · rw [c2]; exact c
        · exact h j h3 (by omega)⟩] at h2
      exact h2
    · have c : ¬ nI (as_p (w_a w) (pl + k)) = nI (en_r (as_E (w_a w)) e k) := c
      refine on_0 ?_ (by omega)
      have h2 := hK σ2 g2
      rw [show onF (w_a w) e pl k = false from decide_eq_false (fun h => c (congrArg nI (h k (by omega) (Nat.le_refl _))))] at h2
      exact h2
theorem on_e {σ : Mem} {w : Wd} {T e pl : Nat} (g : Gd σ w) (ok : AsOk T (w_a w)) (he : e < en_m (as_E (w_a w))) (hpl : pl ≤ as_N (w_a w)) : Hd (fun o => Gd o.1 w ∧ o.2 = bI (onB (w_a w) e pl)) (L_isOn σ (nI e) (nI pl)) := by
  have hl := (ok.2.2.1.2 e he).1
  have hN := ok.1
  unfold L_isOn
  refine yc_en g ok rfl he (what := 1) rfl (by omega) (v := nI (en_l (as_E (w_a w)) e)) rfl (fun σ1 g1 => ?_)
  refine yc_c0 g1 ok (fun σ2 g2 => ?_)
  refine Hd.s (fun c => ?_) (fun c => ?_)
  · have c : nI (as_N (w_a w)) < nI pl + nI (en_l (as_E (w_a w)) e) := c
    rw [nI_add] at c
    have c := (nI_ltI (by omega) (by omega)).mp c
    refine on_0 ?_ FU0
    refine Hd.t (by decide) (Hd.i ⟨g2, ?_⟩)
    rw [show onB (w_a w) e pl = false from decide_eq_false (fun h => absurd h.1 (by omega))]
    rfl
  · have c : ¬ nI (as_N (w_a w)) < nI pl + nI (en_l (as_E (w_a w)) e) := c
    rw [nI_add] at c
    have c2 : pl + en_l (as_E (w_a w)) e ≤ as_N (w_a w) := by
      rcases Nat.lt_or_ge (as_N (w_a w)) (pl + en_l (as_E (w_a w)) e) with h | h
      · exact absurd (nI_lt h (by omega)) c
      · exact h
    refine on_28 ok he c2 _ (en_l (as_E (w_a w)) e) 0 FU σ2 (by omega) (by unfold FU; omega) g2 (fun σ' g' => ?_)
    refine Hd.t (bI_1 _) (Hd.i ⟨g', ?_⟩)
    show bI (onF (w_a w) e pl 0) = bI (onB (w_a w) e pl)
    congr 1
    exact decide_eq_decide.mpr ⟨fun h => ⟨c2, fun j hj => h j hj (Nat.zero_le _)⟩, fun h j hj _ => h.2 j hj⟩
theorem yc_on {β : Type} {Q : β → Prop} {f : Mem × Int32 → Option β} {σ : Mem} {w : Wd} {T e pl : Nat} {x y : Int32} (g : Gd σ w) (ok : AsOk T (w_a w)) (hx : x = nI e) (he : e < en_m (as_E (w_a w))) (hy : y = nI pl) (hpl : pl ≤ as_N (w_a w)) (k : ∀ σ', Gd σ' w → Hd Q (f (σ', bI (onB (w_a w) e pl)))) : Hd Q ((L_isOn σ x y).bind f) := by
  subst hx; subst hy
  refine Hd.x (on_e g ok he hpl) (fun o ho => ?_)
  obtain ⟨σ', v⟩ := o
  obtain ⟨h1, h2⟩ := ho
  have h2 : v = bI (onB (w_a w) e pl) := h2
  subst h2
  exact k σ' h1
/-- the strokes that the script tells -/
def sk (x : Int32) (k : Nat) : Nat := 1 + upn (x >>> (((2 : Int32) * nI k) &&& 31)) 7
theorem sk_b (x : Int32) (k : Nat) : 1 ≤ sk x k ∧ sk x k ≤ 7 := by
  have := upn_lt (p := x >>> (((2 : Int32) * nI k) &&& 31)) (n := 7) (by omega)
  unfold sk
  omega
def skF (E : En) (x : Int32) (n e k : Nat) : Bool := decide (∀ j, j < n → k ≤ j → en_r E e j = sk x j)
def peB (E : En) (x : Int32) (n wd e : Nat) : Bool := decide (en_w E e = wd ∧ en_l E e = n ∧ ∀ k, k < n → en_r E e k = sk x k)
def anB (p : Nat → Bool) : Nat → Bool
  | 0 => false
  | e + 1 => anB p e || p e
theorem anB_f {p : Nat → Bool} : ∀ {m : Nat}, anB p m = false → ∀ e, e < m → p e = false
  | 0, _, e, he => absurd he (by omega)
  | m + 1, h, e, he => by
    rw [anB, Bool.or_eq_false_iff] at h
    by_cases c : e = m
    · rw [c]; exact h.2
    · exact anB_f h.1 e (by omega)
def isB (E : En) (x : Int32) (n wd : Nat) : Bool := anB (peB E x n wd) (en_m E)
theorem Hd.or {α : Type} {Q : α → Prop} {F : Int32 → Option α} (b1 b2 : Bool) (h : Hd Q (F (bI (b1 || b2)))) : Hd Q (if bI b1 = 0 then (if bI b2 = 0 then F 0 else F 1) else F 1) := by
  cases b1
  · cases b2
    · exact Hd.t rfl (Hd.t rfl h)
    · exact Hd.t rfl (Hd.f (by decide) h)
  · exact Hd.f (by decide) h
theorem ie_0 {Q : Mem × Int32 → Prop} {K : Mem → Int32 → Int32 → Int32 → Int32 → Int32 → Int32 → Option (Mem × Int32)} {σ : Mem} {v1 v2 v3 v4 v5 v7 : Int32} (h : Hd Q (K σ v1 v2 v3 v4 v5 0)) : ∀ {fu : Nat}, 0 < fu → Hd Q (L_isEntry_48 K fu σ v1 v2 v3 v4 v5 0 v7)
  | 0, hf => absurd hf (by omega)
  | fu + 1, _ => by
    rw [L_isEntry_48]
    exact Hd.s (fun _ => h) (fun _ => Hd.t rfl h)
theorem ie_48 {Q : Mem × Int32 → Prop} {w : Wd} {T e n : Nat} {x v3 v4 : Int32} (ok : AsOk T (w_a w)) (he : e < en_m (as_E (w_a w))) (hn : en_l (as_E (w_a w)) e = n) (K : Mem → Int32 → Int32 → Int32 → Int32 → Int32 → Int32 → Option (Mem × Int32)) : ∀ (r k fu : Nat) (σ : Mem), k + r = n → r < fu → Gd σ w → (∀ σ', Gd σ' w → Hd Q (K σ' (nI n) x v3 v4 (nI e) (bI (skF (as_E (w_a w)) x n e k)))) → Hd Q (L_isEntry_48 K fu σ (nI n) x v3 v4 (nI e) 1 (nI k))
  | r, k, 0, _, _, h, _, _ => absurd h (by omega)
  | 0, k, fu + 1, σ, h1, _, g, hK => by
    have hl := (ok.2.2.1.2 e he).1
    rw [L_isEntry_48]
    refine Hd.t (nI_le (by omega) (by omega)) ?_
    have h2 := hK σ g
    rw [show skF (as_E (w_a w)) x n e k = true from decide_eq_true (fun j h3 h4 => absurd h3 (by omega))] at h2
    exact h2
  | r + 1, k, fu + 1, σ, h1, hf, g, hK => by
    have hl := (ok.2.2.1.2 e he).1
    have hr := (ok.2.2.1.2 e he).2.1 k (by omega)
    have hs := sk_b x k
    rw [L_isEntry_48]
    refine Hd.f (nI_ge (by omega) (by omega)) (Hd.f one_ne ?_)
    refine yc_en g ok rfl he (nI_add 2 k) (by omega) (enAns_r (by omega) (by omega)) (fun σ2 g2 => ?_)
    refine yc_up (n := 7) rfl (by omega) (by omega) ?_
    refine Hd.s (fun c => ?_) (fun c => ?_)
    · have c : nI (en_r (as_E (w_a w)) e k) = nI 1 + nI (upn (x >>> (((2 : Int32) * nI k) &&& 31)) 7) := c
      rw [nI_add] at c
      have c : nI (en_r (as_E (w_a w)) e k) = nI (sk x k) := c
      have c := (nI_eq (by omega) (by omega)).mp c
      show Hd Q (L_isEntry_48 K fu σ2 (nI n) x v3 v4 (nI e) 1 (nI k + 1))
      rw [nI_1]
      refine ie_48 ok he hn K r (k + 1) fu σ2 (by omega) (by omega) g2 (fun σ' g' => ?_)
      have h2 := hK σ' g'
      rw [show skF (as_E (w_a w)) x n e k = skF (as_E (w_a w)) x n e (k + 1) from decide_eq_decide.mpr ⟨fun h j h3 h4 => h j h3 (by omega), fun h j h3 h4 => by
        by_cases c2 : j = k
        · rw [c2]; exact c
        · exact h j h3 (by omega)⟩] at h2
      exact h2
    · have c : ¬ nI (en_r (as_E (w_a w)) e k) = nI 1 + nI (upn (x >>> (((2 : Int32) * nI k) &&& 31)) 7) := c
      rw [nI_add] at c
      have c : ¬ nI (en_r (as_E (w_a w)) e k) = nI (sk x k) := c
      refine ie_0 ?_ (by omega)
      have h2 := hK σ2 g2
      rw [show skF (as_E (w_a w)) x n e k = false from decide_eq_false (fun h => c (congrArg nI (h k (by omega) (Nat.le_refl _))))] at h2
      exact h2
theorem ie_6 {Q : Mem × Int32 → Prop} {w : Wd} {T n wd : Nat} {x : Int32} (ok : AsOk T (w_a w)) (hn : n ≤ 4) (hw : wd < 100) (K : Mem → Int32 → Option (Mem × Int32)) (hK : ∀ σ', Gd σ' w → Hd Q (K σ' (bI (isB (as_E (w_a w)) x n wd)))) : ∀ (r e fu : Nat) (σ : Mem), e + r = en_m (as_E (w_a w)) → r < fu → Gd σ w → Hd Q (L_isEntry_6 K fu σ (nI n) x (nI wd) (bI (anB (peB (as_E (w_a w)) x n wd) e)) (nI e))
  | r, e, 0, _, _, h, _ => absurd h (by omega)
  | 0, e, fu + 1, σ, h1, _, g => by
    have hm := ok.2.2.1.1
    rw [L_isEntry_6]
    refine yc_c4 g ok (fun σ1 g1 => ?_)
    refine Hd.t (nI_le (by omega) (by omega)) ?_
    have h2 := hK σ1 g1
    unfold isB at h2
    rw [← h1] at h2
    exact h2
  | r + 1, e, fu + 1, σ, h1, hf, g => by
    have hm := ok.2.2.1.1
    have he : e < en_m (as_E (w_a w)) := by omega
    have hE := ok.2.2.1.2 e he
    have ih : ∀ σ', Gd σ' w → Hd Q (L_isEntry_6 K fu σ' (nI n) x (nI wd) (bI (anB (peB (as_E (w_a w)) x n wd) e || peB (as_E (w_a w)) x n wd e)) (nI e + 1)) := fun σ' g' => by
      rw [nI_1]
      exact ie_6 ok hn hw K hK r (e + 1) fu σ' (by omega) (by omega) g'
    have ih0 : peB (as_E (w_a w)) x n wd e = false → ∀ σ', Gd σ' w → Hd Q (if bI (anB (peB (as_E (w_a w)) x n wd) e) = 0 then (if bI false = 0 then L_isEntry_6 K fu σ' (nI n) x (nI wd) 0 (nI e + 1) else L_isEntry_6 K fu σ' (nI n) x (nI wd) 1 (nI e + 1)) else L_isEntry_6 K fu σ' (nI n) x (nI wd) 1 (nI e + 1)) := fun hp σ' g' => by
      have h3 := ih σ' g'
      rw [hp] at h3
      exact Hd.or (F := fun v => L_isEntry_6 K fu σ' (nI n) x (nI wd) v (nI e + 1)) _ _ h3
    rw [L_isEntry_6]
    refine yc_c4 g ok (fun σ1 g1 => ?_)
    refine Hd.f (nI_ge (by omega) (by omega)) ?_
    refine yc_en g1 ok rfl he (what := 0) rfl (by omega) (v := nI (en_w (as_E (w_a w)) e)) rfl (fun σ2 g2 => ?_)
    refine Hd.s (fun c => ?_) (fun c => ?_)
    · have c : nI (en_w (as_E (w_a w)) e) = nI wd := c
      have c := (nI_eq (by omega) (by omega)).mp c
      refine yc_en g2 ok rfl he (what := 1) rfl (by omega) (v := nI (en_l (as_E (w_a w)) e)) rfl (fun σ3 g3 => ?_)
      refine Hd.s (fun c2 => ?_) (fun c2 => ?_)
      · have c2 : nI (en_l (as_E (w_a w)) e) = nI n := c2
        have c2 := (nI_eq (by omega) (by omega)).mp c2
        refine ie_48 ok he c2 _ n 0 FU σ3 (by omega) (by unfold FU; omega) g3 (fun σ' g' => ?_)
        have h3 := ih σ' g'
        rw [show peB (as_E (w_a w)) x n wd e = skF (as_E (w_a w)) x n e 0 from decide_eq_decide.mpr ⟨fun h j hj _ => h.2.2 j hj, fun h => ⟨c, c2, fun j hj => h j hj (Nat.zero_le _)⟩⟩] at h3
        exact Hd.or (F := fun v => L_isEntry_6 K fu σ' (nI n) x (nI wd) v (nI e + 1)) _ _ h3
      · have c2 : ¬ nI (en_l (as_E (w_a w)) e) = nI n := c2
        refine ie_0 ?_ FU0
        exact ih0 (decide_eq_false (fun h => c2 (congrArg nI h.2.1))) σ3 g3
    · have c : ¬ nI (en_w (as_E (w_a w)) e) = nI wd := c
      refine ie_0 ?_ FU0
      exact ih0 (decide_eq_false (fun h => c (congrArg nI h.1))) σ2 g2
theorem yc_ie {β : Type} {Q : β → Prop} {f : Mem × Int32 → Option β} {σ : Mem} {w : Wd} {T n wd : Nat} {x v1 v3 : Int32} (g : Gd σ w) (ok : AsOk T (w_a w)) (h1 : v1 = nI n) (hn : n ≤ 4) (h3 : v3 = nI wd) (hw : wd < 100) (k : ∀ σ', Gd σ' w → Hd Q (f (σ', bI (isB (as_E (w_a w)) x n wd)))) : Hd Q ((L_isEntry σ v1 x v3).bind f) := by
  subst h1; subst h3
  have hm := ok.2.2.1.1
  refine Hd.x (P := fun o => Gd o.1 w ∧ o.2 = bI (isB (as_E (w_a w)) x n wd)) ?_ (fun o ho => ?_)
  · unfold L_isEntry
    exact ie_6 ok hn hw _ (fun σ' g' => Hd.t (bI_1 _) (Hd.i ⟨g', rfl⟩)) (en_m (as_E (w_a w))) 0 FU σ (by omega) (by unfold FU; omega) g
  · obtain ⟨σ', v⟩ := o
    obtain ⟨h1, h2⟩ := ho
    have h2 : v = bI (isB (as_E (w_a w)) x n wd) := h2
    subst h2
    exact k σ' h1
