/-! WORLDS stay well made; no entry stands twice -/
theorem WdOk.push {T : Nat} {w : Wd} (h : WdOk T w) : WdOk T (wPush w) := by
  obtain ⟨h1, h2, h3, h4, h5⟩ := h
  refine ⟨h1, h2, ?_, fun j hj => ?_, h5⟩
  · show (svPush (w_v w) (w_a w)).1 ≤ 6
    unfold svPush
    split
    · rename_i c
      show (w_v w).1 + 1 ≤ 6
      omega
    · exact Nat.le_refl _
  · have hj : j < (svPush (w_v w) (w_a w)).1 := hj
    show AsOk T ((svPush (w_v w) (w_a w)).2 j)
    unfold svPush at hj ⊢
    by_cases c : (w_v w).1 < 6
    · rw [if_pos c] at hj ⊢
      have hj : j < (w_v w).1 + 1 := hj
      show AsOk T (updn (w_v w).2 (w_v w).1 (w_a w) j)
      by_cases c2 : j = (w_v w).1
      · rw [c2, updn_1]; exact h1
      · rw [updn_o _ _ c2]; exact h4 j (by omega)
    · rw [if_neg c] at hj ⊢
      have hj : j < 6 := hj
      show AsOk T (if j = 5 then w_a w else (w_v w).2 (j + 1))
      by_cases c2 : j = 5
      · rw [if_pos c2]; exact h1
      · rw [if_neg c2]; exact h4 (j + 1) (by omega)
theorem WdOk.A {T : Nat} {w : Wd} {a : As} (h : WdOk T w) (ha : AsOk T a) : WdOk T (wA w a) := ⟨ha, h.2⟩
theorem WdOk.mono {T U : Nat} {w : Wd} (h : WdOk T w) (hT : T ≤ U) : WdOk U w := ⟨h.1.mono hT, fun hk => (h.2.1 hk).mono hT, h.2.2.1, fun j hj => (h.2.2.2.1 j hj).mono hT, h.2.2.2.2⟩
theorem WdOk.txt {T n : Nat} {w : Wd} {t : Nat → Nat} (h : WdOk T w) (ht : TxOk n t) : WdOk T (wT w n t) := ⟨h.1, h.2.1, h.2.2.1, h.2.2.2.1, ht⟩
theorem WdOk.keep {T : Nat} {w : Wd} (h : WdOk T w) : WdOk T (wKeep w) := ⟨h.1, fun _ => h.1, h.2.2.1, h.2.2.2.1, h.2.2.2.2⟩
theorem WdOk.pop {T : Nat} {w : Wd} (h : WdOk T w) (hn : 0 < (w_v w).1) : WdOk T (wPop w) := by
  obtain ⟨h1, h2, h3, h4, h5⟩ := h
  exact ⟨h4 ((w_v w).1 - 1) (Nat.sub_lt hn (by omega)), h2, by show (w_v w).1 - 1 ≤ 6; omega, fun j hj => h4 j (by have hj : j < (w_v w).1 - 1 := hj; omega), h5⟩
theorem asTear_ok {a : As} {T : Nat} (h : AsOk T a) : AsOk T (asTear a) := by
  obtain ⟨h1, h2, h3, h4, h5, h6, h7, h8, h9⟩ := h
  exact ⟨Nat.zero_le _, fun t ht => absurd ht (Nat.not_lt_zero t), h3, h4, h5, h6, h7, h8, h9⟩
theorem asE_ok {a : As} {T U : Nat} {E : En} (h : AsOk T a) (hT : T ≤ U) (hE : EnOk E) (hp : ∀ e, e < en_m E → en_p E e ≤ U) : AsOk U (asE a E) := by
  obtain ⟨h1, h2, h3, h4, h5, h6, h7, h8, h9⟩ := h
  exact ⟨h1, h2, hE, h4, h5, by show as_k a ≤ 30 * U; omega, h7, h8, hp⟩
theorem enPick_ok {E : En} {T e : Nat} (ok : EnOk E) (hp : ∀ t, t < en_m E → en_p E t ≤ T) (hT : T + 1 ≤ 512) : EnOk (enPick E e) ∧ ∀ t, t < en_m (enPick E e) → en_p (enPick E e) t ≤ T + 1 := by
  have key : ∀ t, t < en_m E → updn (en_p E) e (en_p E e + 1) t ≤ T + 1 := fun t ht => by
    by_cases c : t = e
    · rw [c, updn_1]
      have := hp e (c ▸ ht)
      omega
    · rw [updn_o _ _ c]
      have := hp t ht
      omega
  exact ⟨⟨ok.1, fun t ht => ⟨(ok.2 t ht).1, (ok.2 t ht).2.1, (ok.2 t ht).2.2.1, Nat.le_trans (key t ht) hT⟩⟩, key⟩
theorem enPut_ok {E : En} {L wd T : Nat} {r : Nat → Nat} (ok : EnOk E) (hp : ∀ t, t < en_m E → en_p E t ≤ T) (hm : en_m E < 24) (hL : 1 ≤ L ∧ L ≤ 4) (hr : ∀ k, k < L → 1 ≤ r k ∧ r k < 1024) (hw : wd < 100) : EnOk (enPut E L r wd 0) ∧ ∀ t, t < en_m (enPut E L r wd 0) → en_p (enPut E L r wd 0) t ≤ T := by
  refine ⟨⟨by show en_m E + 1 ≤ 24; omega, fun t ht => ?_⟩, fun t ht => ?_⟩
  · have ht : t < en_m E + 1 := ht
    show (1 ≤ updn (en_l E) (en_m E) L t ∧ updn (en_l E) (en_m E) L t ≤ 4) ∧ (∀ k, k < updn (en_l E) (en_m E) L t → 1 ≤ updn (en_r E) (en_m E) r t k ∧ updn (en_r E) (en_m E) r t k < 1024) ∧ updn (en_w E) (en_m E) wd t < 100 ∧ updn (en_p E) (en_m E) 0 t ≤ 512
    by_cases c : t = en_m E
    · rw [c, updn_1, updn_1, updn_1, updn_1]
      exact ⟨hL, hr, hw, Nat.zero_le _⟩
    · rw [updn_o _ _ c, updn_o _ _ c, updn_o _ _ c, updn_o _ _ c]
      exact ok.2 t (by omega)
  · have ht : t < en_m E + 1 := ht
    show updn (en_p E) (en_m E) 0 t ≤ T
    by_cases c : t = en_m E
    · rw [c, updn_1]; exact Nat.zero_le _
    · rw [updn_o _ _ c]; exact hp t (by omega)
theorem enTake_ok {E : En} {e T : Nat} (ok : EnOk E) (hp : ∀ t, t < en_m E → en_p E t ≤ T) : EnOk (enTake E e) ∧ ∀ t, t < en_m (enTake E e) → en_p (enTake E e) t ≤ T := by
  have hs : ∀ t, t < en_m E - 1 → skp e t < en_m E := fun t ht => by unfold skp; split <;> omega
  exact ⟨⟨by show en_m E - 1 ≤ 24; have := ok.1; omega, fun t ht => ok.2 _ (hs t ht)⟩, fun t ht => hp _ (hs t ht)⟩
def En0 : En := (0, fun _ => 0, fun _ _ => 0, fun _ => 0, fun _ => 0)
def As0 : As := ((0, fun _ => 0), En0, (0, 4), (0, 0, 0, 0))
def Wd0 : Wd := (As0, As0, false, (0, fun _ => As0), (0, fun _ => 0))

def Ds (E : En) : Prop := ∀ e f, e < en_m E → f < en_m E → en_k E e = en_k E f → en_w E e = en_w E f → e = f
def Iv (T : Nat) (w : Wd) : Prop := WdOk T w ∧ w_k w = true ∧ Ds (as_E (w_a w)) ∧ Ds (as_E (w_s w)) ∧ ∀ j, j < (w_v w).1 → Ds (as_E ((w_v w).2 j))
theorem Iv.ok {T : Nat} {w : Wd} (h : Iv T w) : AsOk T (w_a w) := h.1.1
theorem Iv.ok2 {T : Nat} {w : Wd} (h : Iv T w) : AsOk T (w_s w) := h.1.2.1 h.2.1
theorem Iv.mono {T U : Nat} {w : Wd} (h : Iv T w) (hT : T ≤ U) : Iv U w := ⟨h.1.mono hT, h.2⟩
theorem Iv.push {T : Nat} {w : Wd} (h : Iv T w) : Iv T (wPush w) := by
  obtain ⟨h1, h2, h3, h4, h5⟩ := h
  refine ⟨h1.push, h2, h3, h4, fun j hj => ?_⟩
  have hj : j < (svPush (w_v w) (w_a w)).1 := hj
  show Ds (as_E ((svPush (w_v w) (w_a w)).2 j))
  unfold svPush at hj ⊢
  by_cases c : (w_v w).1 < 6
  · rw [if_pos c] at hj ⊢
    have hj : j < (w_v w).1 + 1 := hj
    show Ds (as_E (updn (w_v w).2 (w_v w).1 (w_a w) j))
    by_cases c2 : j = (w_v w).1
    · rw [c2, updn_1]; exact h3
    · rw [updn_o _ _ c2]; exact h5 j (by omega)
  · rw [if_neg c] at hj ⊢
    have hj : j < 6 := hj
    have h6 := h1.2.2.1
    show Ds (as_E (if j = 5 then w_a w else (w_v w).2 (j + 1)))
    by_cases c2 : j = 5
    · rw [if_pos c2]; exact h3
    · rw [if_neg c2]; exact h5 (j + 1) (by omega)
theorem Iv.A {T : Nat} {w : Wd} {a : As} (h : Iv T w) (ha : AsOk T a) (hd : Ds (as_E a)) : Iv T (wA w a) := ⟨h.1.A ha, h.2.1, hd, h.2.2.2⟩
theorem Iv.txt {T n : Nat} {w : Wd} {t : Nat → Nat} (h : Iv T w) (ht : TxOk n t) : Iv T (wT w n t) := ⟨h.1.txt ht, h.2⟩
theorem Iv.keep {T : Nat} {w : Wd} (h : Iv T w) : Iv T (wKeep w) := ⟨h.1.keep, rfl, h.2.2.1, h.2.2.1, h.2.2.2.2⟩
theorem Iv.pop {T : Nat} {w : Wd} (h : Iv T w) (hn : 0 < (w_v w).1) : Iv T (wPop w) := ⟨h.1.pop hn, h.2.1, h.2.2.2.2 _ (Nat.sub_lt hn (by omega)), h.2.2.2.1, fun j hj => h.2.2.2.2 j (by have hj : j < (w_v w).1 - 1 := hj; omega)⟩
theorem svPush_n (v : Sv) (a : As) (h : v.1 ≤ 6) : (svPush v a).1 = (if v.1 < 6 then v.1 + 1 else 6) ∧ (svPush v a).2 ((svPush v a).1 - 1) = a := by
  unfold svPush
  by_cases c : v.1 < 6
  · rw [if_pos c, if_pos c]
    exact ⟨rfl, by show updn v.2 v.1 a (v.1 + 1 - 1) = a; rw [Nat.add_sub_cancel, updn_1]⟩
  · rw [if_neg c, if_neg c]
    exact ⟨rfl, rfl⟩
theorem Ds.pick {E : En} (h : Ds E) (e : Nat) : Ds (enPick E e) := fun a b ha hb hk hw => h a b ha hb hk hw
theorem Ds.take {E : En} (h : Ds E) (e : Nat) : Ds (enTake E e) := fun a b ha hb hk hw => by
  have ha : a < en_m E - 1 := ha
  have hb : b < en_m E - 1 := hb
  have h1 : ∀ t, t < en_m E - 1 → skp e t < en_m E := fun t ht => by unfold skp; split <;> omega
  have h2 := h (skp e a) (skp e b) (h1 a ha) (h1 b hb) hk hw
  unfold skp at h2
  split at h2 <;> split at h2 <;> omega
theorem Ds.put {E : En} (h : Ds E) {L wd : Nat} {r : Nat → Nat} (hn : ∀ t, t < en_m E → en_k E t = pac r L → en_w E t ≠ wd) : Ds (enPut E L r wd 0) := fun a b ha hb hk hw => by
  have ha : a < en_m E + 1 := ha
  have hb : b < en_m E + 1 := hb
  have hw : updn (en_w E) (en_m E) wd a = updn (en_w E) (en_m E) wd b := hw
  by_cases ca : a = en_m E
  · by_cases cb : b = en_m E
    · omega
    · subst ca
      rw [enPut_k1, enPut_ko _ _ _ _ _ cb] at hk
      rw [updn_1, updn_o _ _ cb] at hw
      exact absurd hw.symm (hn b (by omega) hk.symm)
  · by_cases cb : b = en_m E
    · subst cb
      rw [enPut_k1, enPut_ko _ _ _ _ _ ca] at hk
      rw [updn_1, updn_o _ _ ca] at hw
      exact absurd hw (hn a (by omega) hk)
    · rw [enPut_ko _ _ _ _ _ ca, enPut_ko _ _ _ _ _ cb] at hk
      rw [updn_o _ _ ca, updn_o _ _ cb] at hw
      exact h a b (by omega) (by omega) hk hw
