/-! THE REFERENCE'S CALLS -/
def Rf (m : Option (Mem × Int32)) (σ : Mem) (w : Wd) (th r : Int32) : Prop := ∃ σ', m = some (σ', r) ∧ RfP σ' w ∧ σ'.1 82 0 = th ∧ Off 82 91 σ σ'
theorem Fr.off {P : Nat → Nat → Prop} {σ σ' : Mem} (h : Fr P σ σ') (hp : ∀ c j, P c j → 82 ≤ c ∧ c < 91) : Off 82 91 σ σ' := fun c hc => ⟨funext fun j => h.1 c j (fun x => by have := hp c j x; omega), by rw [h.2]⟩
theorem in_bad {σ : Mem} {x : Int32} {lo hi : Nat} (h : bad x lo hi) : X7_in σ x (nI lo) (nI hi) = some (σ, 0) := by
  unfold X7_in
  rcases h with h | h
  · rw [if_pos h]
  · by_cases c : x < nI lo
    · rw [if_pos c]
    · rw [if_neg c, if_pos h]
theorem in_good {σ : Mem} {j lo hi : Nat} (h1 : lo ≤ j) (h2 : j ≤ hi) (h3 : hi < 2147483648) : X7_in σ (nI j) (nI lo) (nI hi) = some (σ, 1) := by
  unfold X7_in
  rw [if_neg (nI_nlt h1 (by omega)), if_neg (nI_nlt h2 h3)]
theorem in_m_bad {σ : Mem} {x : Int32} {m : Nat} (hm : m < 1073741824) (h : x < 0 ∨ nI m ≤ x) : X7_in σ x (0 : Int32) (nI m - (1 : Int32)) = some (σ, 0) := by
  unfold X7_in
  by_cases c : x < 0
  · rw [if_pos c]
  · rw [if_neg c, if_pos]
    have h1 := pk_sub_toInt (a := m) (b := 1) (by omega) (by omega)
    have h2 := nI_toInt (n := m) (by omega)
    rcases h with h | h
    · exact absurd h c
    · rw [Int32.le_iff_toInt_le] at h
      rw [Int32.lt_iff_toInt_lt]
      show (nI m - nI 1).toInt < x.toInt
      omega
theorem in_m_good {σ : Mem} {j m : Nat} (h : j < m) (hm : m < 2147483648) : X7_in σ (nI j) (0 : Int32) (nI m - (1 : Int32)) = some (σ, 1) := by
  rw [show nI m - (1 : Int32) = nI (m - 1) from pk_sub (b := 1) (by omega)]
  exact in_good (lo := 0) (Nat.zero_le _) (by omega) (by omega)
theorem uZ {β : Type} {σ : Mem} {m : Option (Mem × Int32)} (e : m = some (σ, 0)) (A B : Mem × Int32 → Option β) : (m.bind fun q => if q.2 = 0 then A q else B q) = A (σ, 0) := by
  rw [e, uB]
  exact if_pos (show ((σ, (0 : Int32)) : Mem × Int32).2 = 0 from rfl)
theorem uN {β : Type} {σ : Mem} {m : Option (Mem × Int32)} {v : Int32} (e : m = some (σ, v)) (hv : ¬ v = 0) (A B : Mem × Int32 → Option β) : (m.bind fun q => if q.2 = 0 then A q else B q) = B (σ, v) := by
  rw [e, uB]
  exact if_neg hv
theorem uS {α β : Type} {σ : Mem} {m : Option (Mem × α)} {v : α} (e : m = some (σ, v)) (A : Mem × α → Option β) : m.bind A = A (σ, v) := by rw [e]; rfl
theorem h_0 (σ : Mem) : X7_holds σ (0 : Int32) = some (setI σ 82 0 0, 1) := by unfold X7_holds; rw [uB, if_pos rfl]
theorem h_n (σ : Mem) {p : Int32} (h : ¬ p = 0) : X7_holds σ p = some (setI σ 82 0 p, 0) := by unfold X7_holds; rw [uB, if_neg h]
theorem fr_th (σ : Mem) (p : Int32) : Fr pS σ (setI σ 82 0 p) := Fr.setI (by unfold pS; omega)
theorem RfP.th {σ : Mem} {w : Wd} (h : RfP σ w) (p : Int32) : RfP (setI σ 82 0 p) w := h.S (fr_th σ p)
theorem Rf.no {m : Option (Mem × Int32)} {σ σ1 : Mem} {w : Wd} {p : Int32} (h : RfP σ1 w) (o : Off 82 91 σ σ1) (e : m = some (setI σ1 82 0 p, 0)) : Rf m σ w p 0 := ⟨_, e, h.th p, si_1 _ _ _ _, o.trans (Off.setI (by omega) (by omega))⟩
/-- an answer that changes nothing -/
theorem Rf.an {m : Option (Mem × Int32)} {σ σ1 : Mem} {w : Wd} {r : Int32} (h : RfP σ w) (f : Fr pS σ σ1) (h0 : σ1.1 82 0 = 0) (e : m = some (σ1, r)) : Rf m σ w 0 r := ⟨σ1, e, h.S f, h0, f.off (fun c j hc => by unfold pS at hc; omega)⟩
theorem nn1 : ¬ (1 : Int32) = 0 := by decide
theorem nn2 : ¬ (2 : Int32) = 0 := by decide
theorem WdOk.push {T : Nat} {w : Wd} (h : WdOk T w) : WdOk T (wPush w) := by
  obtain ⟨h1, h2, h3, h4, h5⟩ := h
  refine ⟨h1, h2, ?_, fun j hj => ?_, h5⟩
  · show (svPush (w_v w) (w_a w)).1 ≤ 6
    unfold svPush
    split
    · rename_i c
      show (w_v w).1 + 1 ≤ 6
      omega
    · exact Nat.le_refl _
  · have hj : j < (svPush (w_v w) (w_a w)).1 := hj
    show AsOk T ((svPush (w_v w) (w_a w)).2 j)
    unfold svPush at hj ⊢
    by_cases c : (w_v w).1 < 6
    · rw [if_pos c] at hj ⊢
      have hj : j < (w_v w).1 + 1 := hj
      show AsOk T (updn (w_v w).2 (w_v w).1 (w_a w) j)
      by_cases c2 : j = (w_v w).1
      · rw [c2, updn_1]; exact h1
      · rw [updn_o _ _ c2]; exact h4 j (by omega)
    · rw [if_neg c] at hj ⊢
      have hj : j < 6 := hj
      show AsOk T (if j = 5 then w_a w else (w_v w).2 (j + 1))
      by_cases c2 : j = 5
      · rw [if_pos c2]; exact h1
      · rw [if_neg c2]; exact h4 (j + 1) (by omega)
theorem WdOk.A {T : Nat} {w : Wd} {a : As} (h : WdOk T w) (ha : AsOk T a) : WdOk T (wA w a) := ⟨ha, h.2⟩
theorem WdOk.mono {T U : Nat} {w : Wd} (h : WdOk T w) (hT : T ≤ U) : WdOk U w := ⟨h.1.mono hT, fun hk => (h.2.1 hk).mono hT, h.2.2.1, fun j hj => (h.2.2.2.1 j hj).mono hT, h.2.2.2.2⟩
theorem WdOk.txt {T n : Nat} {w : Wd} {t : Nat → Nat} (h : WdOk T w) (ht : TxOk n t) : WdOk T (wT w n t) := ⟨h.1, h.2.1, h.2.2.1, h.2.2.2.1, ht⟩
theorem WdOk.keep {T : Nat} {w : Wd} (h : WdOk T w) : WdOk T (wKeep w) := ⟨h.1, fun _ => h.1, h.2.2.1, h.2.2.2.1, h.2.2.2.2⟩
theorem WdOk.pop {T : Nat} {w : Wd} (h : WdOk T w) (hn : 0 < (w_v w).1) : WdOk T (wPop w) := by
  obtain ⟨h1, h2, h3, h4, h5⟩ := h
  exact ⟨h4 ((w_v w).1 - 1) (Nat.sub_lt hn (by omega)), h2, by show (w_v w).1 - 1 ≤ 6; omega, fun j hj => h4 j (by have hj : j < (w_v w).1 - 1 := hj; omega), h5⟩
/-! rows of the reference's state -/
theorem RE.cg {s s' : Nat → Int32} {E : En} (h : RE s 0 E) (hm : en_m E ≤ 24) (hs : ∀ k, (k = 1 ∨ 68 ≤ k) → k < 236 → s' k = s k) : RE s' 0 E := by
  refine ⟨(hs 1 (by omega) (by omega)).trans h.1, fun e he => ?_⟩
  obtain ⟨h1, h2, h3, h4⟩ := h.2 e he
  refine ⟨?_, fun k hk => ?_, ?_, ?_⟩
  · rw [← h1]; exact hs _ (by omega) (by omega)
  · rw [← h2 k hk]; exact hs _ (by omega) (by omega)
  · rw [← h3]; exact hs _ (by omega) (by omega)
  · rw [← h4]; exact hs _ (by omega) (by omega)
theorem RS.of {s : Nat → Int32} {a : As} (h : s 0 = nI (as_N a) ∧ (∀ j, j < as_N a → s (8 + j) = nI (as_p a j)) ∧ RE s 0 (as_E a) ∧ s 2 = nI (as_s a) ∧ s 3 = nI (as_g a) ∧ s 4 = nI (as_k a) ∧ s 5 = as_e a ∧ s 6 = as_a a ∧ s 7 = nI (as_y a)) : RS s 0 a := by
  obtain ⟨h1, h2, h3, h4, h5, h6, h7, h8, h9⟩ := h
  exact ⟨h1, fun j hj => by have := h2 j hj; rw [Nat.zero_add]; exact this, h3, h4, h5, h6, h7, h8, h9⟩
theorem RS.E {s s' : Nat → Int32} {a : As} {E : En} (h : RS s 0 a) (hN : as_N a ≤ 60) (hs : ∀ k, k ≠ 1 → k < 68 → s' k = s k) (hE : RE s' 0 E) : RS s' 0 (asE a E) := by
  obtain ⟨h1, h2, h3, h4, h5, h6, h7, h8, h9⟩ := h.z
  exact RS.of ⟨(hs 0 (by omega) (by omega)).trans h1, fun j hj => (hs (8 + j) (by omega) (by have hj : j < as_N a := hj; omega)).trans (h2 j hj), hE, (hs 2 (by omega) (by omega)).trans h4, (hs 3 (by omega) (by omega)).trans h5, (hs 4 (by omega) (by omega)).trans h6, (hs 5 (by omega) (by omega)).trans h7, (hs 6 (by omega) (by omega)).trans h8, (hs 7 (by omega) (by omega)).trans h9⟩
def pK (c j : Nat) : Prop := (c = 83 ∧ j < 236) ∨ pS c j
def pK2 (c j : Nat) : Prop := (c = 83 ∧ j < 236) ∨ pRp c j
theorem pK2_K {c j : Nat} (h : pK2 c j) : pK c j := h.imp id pRp_S
theorem pK_c {c j : Nat} (h : pK c j) : 82 ≤ c ∧ c < 91 := by unfold pK pS at h; omega
theorem pK2_c {c j : Nat} (h : pK2 c j) : 82 ≤ c ∧ c < 91 := pK_c (pK2_K h)
theorem pV_c {c j : Nat} (h : pV c j) : 82 ≤ c ∧ c < 91 := by unfold pV at h; omega
theorem pRp_c {c j : Nat} (h : pRp c j) : 82 ≤ c ∧ c < 91 := by unfold pRp at h; omega
theorem pS_c {c j : Nat} (h : pS c j) : 82 ≤ c ∧ c < 91 := by unfold pS at h; omega
theorem RfP.upd0 {σ σ' : Mem} {w : Wd} {a : As} {T : Nat} (ok : WdOk T w) (h : RfP σ w) (f : Fr pK σ σ') (ha : RS (σ'.1 83) 0 a) : RfP σ' (wA w a) := by
  obtain ⟨ok1, ok2, ok3, ok4, ok5⟩ := ok
  obtain ⟨g1, g2, g3, g4, g5, g6, g7⟩ := h
  refine ⟨ha, fun hk => (g2 hk).cong (ok2 hk).1 (ok2 hk).2.2.1.1 (fun k hk => f.1 83 _ (by unfold pK pS; omega)), (f.1 82 3 (by unfold pK pS; omega)).trans g3, (f.1 82 2 (by unfold pK pS; omega)).trans g4, fun j hj => (g5 j hj).cong (ok4 j hj).1 (ok4 j hj).2.2.1.1 (fun k hk => f.1 83 _ (by unfold pK pS; omega)), (f.1 82 5 (by unfold pK pS; omega)).trans g6, fun j hj => (f.1 84 j (by unfold pK pS; omega)).trans (g7 j hj)⟩
/-! striking -/
theorem x7_canStrike {σ : Mem} {a : As} {s T : Nat} (ok : AsOk T a) (h : RS (σ.1 83) 0 a) (hs : s < 1024) : X7_canStrike σ (nI s) = some (σ, bI (canS a s)) := by
  have hN := ok.1
  unfold X7_canStrike canS
  rw [h.z.1]
  by_cases c : s = 0
  · subst c
    rw [if_pos (show nI 0 = 0 from rfl), if_pos (rfl : (0 : Nat) = 0)]
    by_cases c2 : 0 < as_N a
    · rw [if_neg (nI_nle c2 (by omega)), decide_eq_true c2]; rfl
    · rw [show as_N a = 0 by omega]; rfl
  · rw [if_neg (nI_ne0 (by omega) (by omega)), if_neg c]
    by_cases c2 : as_N a < 60
    · rw [if_neg (show ¬ (60 : Int32) ≤ nI (as_N a) from nI_ge (b := 60) c2 (by omega)), decide_eq_true c2]; rfl
    · rw [if_pos (show (60 : Int32) ≤ nI (as_N a) from nI_le (a := 60) (by omega) (by omega)), decide_eq_false c2]; rfl
theorem x7_strikes {σ : Mem} {w : Wd} {T s : Nat} (ok : WdOk T w) (h : RfP σ w) (hs : s < 1024) (hc : canS (w_a w) s = true) : ∃ σ', X7_strikes σ (nI s) = some (σ', ()) ∧ RfP σ' (wA w (asStk (w_a w) s)) ∧ Fr pK2 σ σ' := by
  have hN := ok.1.1
  have hm := ok.1.2.2.1.1
  obtain ⟨z1, z2, z3, z4, z5, z6, z7, z8, z9⟩ := h.1.z
  unfold canS at hc
  unfold asStk
  by_cases c : s = 0
  · subst c
    rw [if_pos rfl] at hc
    have hN0 : 0 < as_N (w_a w) := of_decide_eq_true hc
    obtain ⟨l1, l2, l3⟩ := last_item hN0
    have hE := eatN_le hN0
    obtain ⟨σ1, e1, g1, f1⟩ := x7_readsPaper ok.1 h.1
    have h83 := f1.s83 n83p
    have ht := items_le (itn_ok (as_E (w_a w)) (as_g (w_a w)) (as_N (w_a w)) (as_p (w_a w)))
    have key : X7_strikes σ (nI 0) = X7_strikes_82 σ1 (nI (eatN (w_a w))) := by
      unfold X7_strikes
      rw [if_pos (show nI 0 ≤ 0 by decide), e1, uB]
      dsimp only
      rw [h83, z4]
      have hs1 := ok.1.2.2.2.1
      unfold eatN
      by_cases c1 : as_s (w_a w) = 1
      · rw [if_neg (nI_ne0 (by omega) (by omega)), if_pos c1, g1.1.1, show nI (as_t (w_a w)) - (1 : Int32) = nI (as_t (w_a w) - 1) from pk_sub (b := 1) l1, if_pos (nI_inA (show as_t (w_a w) - 1 < 61 from Nat.lt_of_le_of_lt (Nat.sub_le _ _) (Nat.lt_of_le_of_lt ht (by omega))) (by omega)), nI_clamp (Nat.lt_of_le_of_lt (Nat.sub_le _ _) (Nat.lt_of_le_of_lt ht (by omega))), (g1.1.2 (as_t (w_a w) - 1) (Nat.sub_lt l1 (by omega))).2.1]
        rw [show as_N (w_a w) - as_pos (w_a w) (as_t (w_a w) - 1) = as_sz (w_a w) (as_t (w_a w) - 1) by omega]
      · rw [if_pos (show nI (as_s (w_a w)) = 0 by rw [show as_s (w_a w) = 0 by omega]; rfl), if_neg c1]; rfl
    have f2 : Fr pK2 σ1 (setI (setI (setI σ1 83 0 (nI (as_N (w_a w) - eatN (w_a w)))) 83 5 (as_e (w_a w) + nI (eatN (w_a w)))) 83 6 (as_a (w_a w) + 1)) := ((Fr.setI (by unfold pK2; omega)).trans (Fr.setI (by unfold pK2; omega))).trans (Fr.setI (by unfold pK2; omega))
    have ff := (f1.mono (fun c j hc => (Or.inr hc : pK2 c j))).trans f2
    refine ⟨_, ?_, RfP.upd0 ok h (ff.mono fun c j => pK2_K) ?_, ff⟩
    · rw [key]
      unfold X7_strikes_82
      rw [h83, z1, uB, pk_sub hE.2, si_o _ _ (by omega), h83, z7, uB, si_o _ _ (by omega), si_o _ _ (by omega), h83, z8, uB]
    · rw [if_pos rfl]
      have hh : ∀ k, k ≠ 0 → k ≠ 5 → k ≠ 6 → (setI (setI (setI σ1 83 0 (nI (as_N (w_a w) - eatN (w_a w)))) 83 5 (as_e (w_a w) + nI (eatN (w_a w)))) 83 6 (as_a (w_a w) + 1)).1 83 k = σ.1 83 k := fun k k0 k5 k6 => by
        rw [si_o _ _ (by omega), si_o _ _ (by omega), si_o _ _ (by omega), h83]
      refine RS.of ⟨?_, fun j hj => ?_, z3.cg hm (fun k hk _ => hh k (by omega) (by omega) (by omega)), (hh 2 (by omega) (by omega) (by omega)).trans z4, (hh 3 (by omega) (by omega) (by omega)).trans z5, (hh 4 (by omega) (by omega) (by omega)).trans z6, ?_, ?_, (hh 7 (by omega) (by omega) (by omega)).trans z9⟩
      · rw [si_o _ _ (by omega), si_o _ _ (by omega), si_1]; rfl
      · have hj : j < as_N (w_a w) - eatN (w_a w) := hj
        exact (hh (8 + j) (by omega) (by omega) (by omega)).trans (z2 j (by omega))
      · rw [si_o _ _ (by omega), si_1]; rfl
      · rw [si_1]; rfl
  · rw [if_neg c] at hc ⊢
    have hN0 : as_N (w_a w) < 60 := of_decide_eq_true hc
    have f2 : Fr pK2 σ (setI (setI (setI (setI σ 83 (8 + as_N (w_a w)) (nI s)) 83 0 (nI (as_N (w_a w) + 1))) 83 4 (nI (as_k (w_a w) + 1))) 83 7 (nI (as_y (w_a w) + kys s))) := (((Fr.setI (by unfold pK2; omega)).trans (Fr.setI (by unfold pK2; omega))).trans (Fr.setI (by unfold pK2; omega))).trans (Fr.setI (by unfold pK2; omega))
    refine ⟨_, ?_, RfP.upd0 ok h (f2.mono fun c j => pK2_K) ?_, f2⟩
    · unfold X7_strikes
      rw [if_neg (nI_nle (by omega) (by omega)), z1, show (8 : Int32) + nI (as_N (w_a w)) = nI (8 + as_N (w_a w)) from nI_add 8 _, if_pos (nI_inA (by omega) (by omega)), nI_clamp (by omega), uB, si_o _ _ (by omega), z1, nI_1, uB, si_o _ _ (by omega), si_o _ _ (by omega), z6, nI_1, uB, x7_keysOf _ hs, uB]
      dsimp only
      rw [si_o _ _ (by omega), si_o _ _ (by omega), si_o _ _ (by omega), z9, nI_add, uB]
    · have hh : ∀ k, k ≠ 0 → k ≠ 4 → k ≠ 7 → k ≠ 8 + as_N (w_a w) → (setI (setI (setI (setI σ 83 (8 + as_N (w_a w)) (nI s)) 83 0 (nI (as_N (w_a w) + 1))) 83 4 (nI (as_k (w_a w) + 1))) 83 7 (nI (as_y (w_a w) + kys s))).1 83 k = σ.1 83 k := fun k k0 k4 k7 k8 => by
        rw [si_o _ _ (by omega), si_o _ _ (by omega), si_o _ _ (by omega), si_o _ _ (by omega)]
      refine RS.of ⟨?_, fun j hj => ?_, z3.cg hm (fun k hk _ => hh k (by omega) (by omega) (by omega) (by omega)), (hh 2 (by omega) (by omega) (by omega) (by omega)).trans z4, (hh 3 (by omega) (by omega) (by omega) (by omega)).trans z5, ?_, (hh 5 (by omega) (by omega) (by omega) (by omega)).trans z7, (hh 6 (by omega) (by omega) (by omega) (by omega)).trans z8, ?_⟩
      · rw [si_o _ _ (by omega), si_o _ _ (by omega), si_1]; rfl
      · have hj : j < as_N (w_a w) + 1 := hj
        show _ = nI (updn (as_p (w_a w)) (as_N (w_a w)) s j)
        by_cases c2 : j = as_N (w_a w)
        · rw [c2, si_o _ _ (by omega), si_o _ _ (by omega), si_o _ _ (by omega), si_1, updn_1]
        · rw [updn_o _ _ c2]
          exact (hh (8 + j) (by omega) (by omega) (by omega) (by omega)).trans (z2 j (by omega))
      · rw [si_o _ _ (by omega), si_1]; rfl
      · rw [si_1]; rfl
theorem r_strike_bad {σ : Mem} {w : Wd} {x : Int32} (h : RfP σ w) (hb : bad x 0 1023) : Rf (X7_strike σ x) σ w 1 0 := by
  refine Rf.no h Off.rfl' ?_
  unfold X7_strike
  rw [uZ (show X7_in σ x (0 : Int32) (1023 : Int32) = some (σ, 0) from in_bad (lo := 0) (hi := 1023) hb)]
  exact uZ (h_n σ nn1) _ _
theorem r_strike_no {σ : Mem} {w : Wd} {s T : Nat} (ok : WdOk T w) (h : RfP σ w) (hs : s < 1024) (hc : canS (w_a w) s = false) : Rf (X7_strike σ (nI s)) σ w 2 0 := by
  refine Rf.no h Off.rfl' ?_
  unfold X7_strike
  rw [uN (show X7_in σ (nI s) (0 : Int32) (1023 : Int32) = some (σ, 1) from in_good (lo := 0) (hi := 1023) (by omega) (by omega) (by omega)) nn1]
  dsimp only
  rw [uZ (show X7_canStrike σ (nI s) = some (σ, 0) by rw [x7_canStrike ok.1 h.1 hs, hc]; rfl)]
  exact uZ (h_n σ nn2) _ _
theorem r_strike {σ : Mem} {w : Wd} {s T : Nat} (ok : WdOk T w) (h : RfP σ w) (hs : s < 1024) (hc : canS (w_a w) s = true) (hk : as_k (w_a w) + 1 ≤ 30 * T) : Rf (X7_strike σ (nI s)) σ (wA (wPush w) (asStk (w_a w) s)) 0 (nI (as_t (asStk (w_a w) s))) := by
  obtain ⟨σ2, e2, g2, f2⟩ := x7_save ok (h.th 0)
  obtain ⟨σ3, e3, g3, f3⟩ := x7_strikes ok.push g2 hs hc
  have ok3 : AsOk T (asStk (w_a w) s) := asStk_ok hs ok.1 hc hk
  obtain ⟨σ4, e4, g4, f4⟩ := x7_readsPaper ok3 g3.1
  refine ⟨σ4, ?_, g3.p f4, ?_, (((Off.setI (by omega) (by omega)).trans (f2.off fun c j => pV_c)).trans (f3.off fun c j => pK2_c)).trans (f4.off fun c j => pRp_c)⟩
  · unfold X7_strike
    rw [uN (show X7_in σ (nI s) (0 : Int32) (1023 : Int32) = some (σ, 1) from in_good (lo := 0) (hi := 1023) (by omega) (by omega) (by omega)) nn1]
    dsimp only
    rw [uN (show X7_canStrike σ (nI s) = some (σ, 1) by rw [x7_canStrike ok.1 h.1 hs, hc]; rfl) nn1]
    dsimp only
    rw [uN (h_0 σ) nn1]
    dsimp only
    rw [e2, uB, e3, uB, e4, uB]
    dsimp only
    rw [g4.1.1]
  · rw [f4.1 82 0 (by unfold pRp; omega), f3.1 82 0 (by unfold pK2 pRp; omega), f2.1 82 0 (by unfold pV; omega), si_1]
/-! tear, append, the buffer -/
theorem r_tear {σ : Mem} {w : Wd} {T : Nat} (ok : WdOk T w) (h : RfP σ w) : Rf (X7_tear σ) σ (wA (wPush w) (asTear (w_a w))) 0 (nI (as_N (w_a w))) := by
  obtain ⟨σ2, e2, g2, f2⟩ := x7_save ok (h.th 0)
  have f3 : Fr pK σ2 (setI σ2 83 0 0) := Fr.setI (by unfold pK; omega)
  obtain ⟨z1, z2, z3, z4, z5, z6, z7, z8, z9⟩ := g2.1.z
  have hm := ok.1.2.2.1.1
  refine ⟨setI σ2 83 0 0, ?_, RfP.upd0 ok.push g2 f3 (RS.of ⟨si_1 _ _ _ _, fun j hj => absurd hj (Nat.not_lt_zero j), z3.cg hm (fun k hk _ => si_o _ _ (by omega)), ?_, ?_, ?_, ?_, ?_, ?_⟩), ?_, ((Off.setI (by omega) (by omega)).trans (f2.off fun c j => pV_c)).trans (f3.off fun c j => pK_c)⟩
  · unfold X7_tear
    rw [uB, e2, uB]
    dsimp only
    rw [uB, z1]
    rfl
  · exact (si_o _ _ (by omega)).trans z4
  · exact (si_o _ _ (by omega)).trans z5
  · exact (si_o _ _ (by omega)).trans z6
  · exact (si_o _ _ (by omega)).trans z7
  · exact (si_o _ _ (by omega)).trans z8
  · exact (si_o _ _ (by omega)).trans z9
  · rw [si_o _ _ (by omega), f2.1 82 0 (by unfold pV; omega), si_1]
theorem r_append_bad {σ : Mem} {w : Wd} {x : Int32} (h : RfP σ w) (hb : bad x 33 126) : Rf (X7_append σ x) σ w 1 0 := by
  refine Rf.no h Off.rfl' ?_
  unfold X7_append
  rw [uZ (show X7_in σ x (33 : Int32) (126 : Int32) = some (σ, 0) from in_bad (lo := 33) (hi := 126) hb)]
  exact uZ (h_n σ nn1) _ _
theorem r_append_full {σ : Mem} {w : Wd} {c : Nat} (h : RfP σ w) (hc : 33 ≤ c ∧ c ≤ 126) (hn : w_n w = 60) : Rf (X7_append σ (nI c)) σ w 2 0 := by
  refine Rf.no h Off.rfl' ?_
  unfold X7_append
  rw [uN (show X7_in σ (nI c) (33 : Int32) (126 : Int32) = some (σ, 1) from in_good (lo := 33) (hi := 126) (by omega) (by omega) (by omega)) nn1]
  dsimp only
  rw [h.2.2.2.2.2.1, hn, if_pos (show nI 60 = (60 : Int32) from rfl)]
  exact uZ (h_n σ nn2) _ _
theorem RfP.txt {σ σ' : Mem} {w : Wd} {n : Nat} {t : Nat → Nat} {P : Nat → Nat → Prop} (h : RfP σ w) (f : Fr P σ σ') (h1 : ∀ j, ¬ P 83 j) (h3 : ¬ P 82 2 ∧ ¬ P 82 3) (hn : σ'.1 82 5 = nI n) (ht : ∀ j, j < n → σ'.1 84 j = nI (t j)) : RfP σ' (wT w n t) := by
  obtain ⟨g1, g2, g3, g4, g5, g6, g7⟩ := h
  have e83 := f.s83 h1
  exact ⟨by rw [e83]; exact g1, by rw [e83]; exact g2, by rw [f.1 _ _ h3.2]; exact g3, by rw [f.1 _ _ h3.1]; exact g4, by rw [e83]; exact g5, hn, ht⟩
def pB5 (c j : Nat) : Prop := c = 84 ∨ (c = 82 ∧ (j = 5 ∨ j = 0))
theorem pB5_c {c j : Nat} (h : pB5 c j) : 82 ≤ c ∧ c < 91 := by unfold pB5 at h; omega
theorem r_append {σ : Mem} {w : Wd} {c : Nat} (h : RfP σ w) (hc : 33 ≤ c ∧ c ≤ 126) (hn : w_n w < 60) : Rf (X7_append σ (nI c)) σ (wT w (w_n w + 1) (updn (w_t w) (w_n w) c)) 0 (nI (w_n w + 1)) := by
  obtain ⟨g1, g2, g3, g4, g5, g6, g7⟩ := h
  have f : Fr pB5 σ (setI (setI (setI σ 82 0 0) 84 (w_n w) (nI c)) 82 5 (nI (w_n w + 1))) := ((Fr.setI (by unfold pB5; omega)).trans (Fr.setI (by unfold pB5; omega))).trans (Fr.setI (by unfold pB5; omega))
  refine ⟨_, ?_, RfP.txt ⟨g1, g2, g3, g4, g5, g6, g7⟩ f (fun j => by unfold pB5; omega) ⟨by unfold pB5; omega, by unfold pB5; omega⟩ (si_1 _ _ _ _) (fun j hj => ?_), ?_, f.off fun c j => pB5_c⟩
  · unfold X7_append
    rw [uN (show X7_in σ (nI c) (33 : Int32) (126 : Int32) = some (σ, 1) from in_good (lo := 33) (hi := 126) (by omega) (by omega) (by omega)) nn1]
    dsimp only
    rw [g6, if_neg (show ¬ nI (w_n w) = (60 : Int32) from fun x => by have := (nI_eq (b := 60) (by omega) (by omega)).mp x; omega)]
    unfold X7_append_30
    rw [uN (h_0 σ) nn1]
    dsimp only
    rw [si_o _ _ (by omega), g6, if_pos (nI_inA hn (by omega)), nI_clamp (by omega), uB, si_o _ _ (by omega), si_o _ _ (by omega), g6, nI_1, uB, si_1]
  · show _ = nI (updn (w_t w) (w_n w) c j)
    rw [si_o _ _ (by omega)]
    by_cases c2 : j = w_n w
    · rw [c2, si_1, updn_1]
    · rw [si_o _ _ (by omega), si_o _ _ (by omega), updn_o _ _ c2]; exact g7 j (by omega)
  · rw [si_o _ _ (by omega), si_o _ _ (by omega), si_1]
theorem RfP.wipe {σ : Mem} {w : Wd} (h : RfP σ w) : RfP (setI σ 82 5 0) (wT w 0 (w_t w)) := h.txt (P := pB5) (Fr.setI (by unfold pB5; omega)) (fun j => by unfold pB5; omega) ⟨by unfold pB5; omega, by unfold pB5; omega⟩ (si_1 _ _ _ _) (fun j hj => absurd hj (Nat.not_lt_zero j))
theorem r_clear {σ : Mem} {w : Wd} (h : RfP σ w) : Rf (X7_clearBuffer σ) σ (wT w 0 (w_t w)) 0 (nI (w_n w)) := by
  refine ⟨_, ?_, (h.th 0).wipe, ?_, (Off.setI (by omega) (by omega)).trans (Off.setI (by omega) (by omega))⟩
  · unfold X7_clearBuffer
    rw [uB, uB, si_o _ _ (by omega), h.2.2.2.2.2.1]
  · rw [si_o _ _ (by omega), si_1]
/-! the snapshot, undo -/
theorem r_keep {σ : Mem} {w : Wd} {T : Nat} (ok : WdOk T w) (h : RfP σ w) : Rf (X7_keep σ) σ (wKeep w) 0 (nI (as_N (w_a w))) := by
  obtain ⟨g1, g2, g3, g4, g5, g6, g7⟩ := h
  obtain ⟨σ2, e2, h2, f2⟩ := x7_copies (f := 0) (t := 7) (by omega) (by omega) (by omega) (setI σ 82 0 0)
  have hlow : ∀ k, k < 1652 → (setI σ2 82 3 1).1 83 k = σ.1 83 k := fun k hk => by
    rw [si_o _ _ (by omega), f2.1 83 _ (by unfold pB; omega), si_o _ _ (by omega)]
  have h82 : ∀ k, k ≠ 0 → k ≠ 3 → (setI σ2 82 3 1).1 82 k = σ.1 82 k := fun k k0 k3 => by
    rw [si_o _ _ (by omega), f2.1 82 _ (by unfold pB; omega), si_o _ _ (by omega)]
  have o2 := ok.2.2.2.1
  refine ⟨setI σ2 82 3 1, ?_, ⟨g1.cong ok.1.1 ok.1.2.2.1.1 (fun k hk => hlow _ (by omega)), fun _ => g1.cong ok.1.1 ok.1.2.2.1.1 (fun k hk => ?_), si_1 _ _ _ _, (h82 2 (by omega) (by omega)).trans g4, fun j hj => (g5 j hj).cong (o2 j hj).1 (o2 j hj).2.2.1.1 (fun k hk => hlow _ (by have := ok.2.2.1; have hj : j < (w_v w).1 := hj; omega)), (h82 5 (by omega) (by omega)).trans g6, fun j hj => ?_⟩, ?_, ((Off.setI (by omega) (by omega)).trans (f2.off fun c j hc => by unfold pB at hc; omega)).trans (Off.setI (by omega) (by omega))⟩
  · unfold X7_keep
    rw [uB, show X7_copies (setI σ 82 0 0) (0 : Int32) (7 : Int32) = _ from e2, uB, uB]
    dsimp only
    rw [hlow 0 (by omega), g1.z.1]
  · rw [si_o _ _ (by omega)]
    refine (h2 k hk).trans ?_
    rw [si_o _ _ (by omega)]
  · rw [si_o _ _ (by omega), f2.1 84 _ (by unfold pB; omega), si_o _ _ (by omega)]; exact g7 j hj
  · rw [si_o _ _ (by omega), f2.1 82 0 (by unfold pB; omega), si_1]
theorem r_goBack_no {σ : Mem} {w : Wd} (h : RfP σ w) (hk : w_k w = false) : Rf (X7_goBack σ) σ w 1 0 := by
  refine Rf.no h Off.rfl' ?_
  unfold X7_goBack
  rw [h.2.2.1, hk, if_pos (show bI false = 0 from rfl)]
  exact uZ (h_n σ nn1) _ _
theorem r_goBack {σ : Mem} {w : Wd} {T : Nat} (ok : WdOk T w) (h : RfP σ w) (hk : w_k w = true) : Rf (X7_goBack σ) σ (wA (wPush w) (w_s w)) 0 (nI (as_N (w_s w))) := by
  obtain ⟨σ2, e2, g2, f2⟩ := x7_save ok (h.th 0)
  obtain ⟨σ3, e3, h3, f3⟩ := x7_copies (f := 7) (t := 0) (by omega) (by omega) (by omega) σ2
  have ok2 := ok.2.1 hk
  have hs : RS (σ3.1 83) 0 (w_s w) := (g2.2.1 hk).cong ok2.1 ok2.2.2.1.1 (fun k hk => h3 k hk)
  refine ⟨σ3, ?_, RfP.upd0 ok.push g2 (f3.mono fun c j hc => by unfold pB at hc; unfold pK; omega) hs, ?_, ((Off.setI (by omega) (by omega)).trans (f2.off fun c j => pV_c)).trans (f3.off fun c j hc => by unfold pB at hc; omega)⟩
  · unfold X7_goBack
    rw [h.2.2.1, hk, if_neg (show ¬ bI true = 0 by decide)]
    unfold X7_goBack_13
    rw [uN (h_0 σ) nn1]
    dsimp only
    rw [e2, uB]
    dsimp only
    rw [show X7_copies σ2 (7 : Int32) (0 : Int32) = _ from e3, uB]
    dsimp only
    rw [hs.z.1]
  · rw [f3.1 82 0 (by unfold pB; omega), f2.1 82 0 (by unfold pV; omega), si_1]
theorem r_undo_no {σ : Mem} {w : Wd} (h : RfP σ w) (hn : (w_v w).1 = 0) : Rf (X7_undo σ) σ w 1 0 := by
  refine Rf.no h Off.rfl' ?_
  unfold X7_undo
  rw [h.2.2.2.1, hn, if_pos (show nI 0 ≤ 0 by decide)]
  exact uZ (h_n σ nn1) _ _
theorem r_undo {σ : Mem} {w : Wd} {T : Nat} (ok : WdOk T w) (h : RfP σ w) (hn : 0 < (w_v w).1) : Rf (X7_undo σ) σ (wPop w) 0 (nI ((w_v w).1 - 1)) := by
  have h6 := ok.2.2.1
  obtain ⟨g1, g2, g3, g4, g5, g6, g7⟩ := h
  obtain ⟨σ2, e2, h2, f2⟩ := x7_copies (f := (w_v w).1) (t := 0) (by omega) (by omega) (by omega) (setI σ 82 0 0)
  have h82 : ∀ k, k ≠ 0 → k ≠ 2 → (setI σ2 82 2 (nI ((w_v w).1 - 1))).1 82 k = σ.1 82 k := fun k k0 k3 => by
    rw [si_o _ _ (by omega), f2.1 82 _ (by unfold pB; omega), si_o _ _ (by omega)]
  have hup : ∀ k, 236 ≤ k → (setI σ2 82 2 (nI ((w_v w).1 - 1))).1 83 k = σ.1 83 k := fun k hk => by
    rw [si_o _ _ (by omega), f2.1 83 _ (by unfold pB; omega), si_o _ _ (by omega)]
  have o2 := ok.2.2.2.1
  refine ⟨setI σ2 82 2 (nI ((w_v w).1 - 1)), ?_, ⟨?_, fun hk => (g2 hk).cong (ok.2.1 hk).1 (ok.2.1 hk).2.2.1.1 (fun k hk => hup _ (by omega)), (h82 3 (by omega) (by omega)).trans g3, si_1 _ _ _ _, fun j hj => ?_, (h82 5 (by omega) (by omega)).trans g6, fun j hj => ?_⟩, ?_, ((Off.setI (by omega) (by omega)).trans (f2.off fun c j hc => by unfold pB at hc; omega)).trans (Off.setI (by omega) (by omega))⟩
  · unfold X7_undo
    rw [g4, if_neg (nI_nle hn (by omega))]
    unfold X7_undo_13
    rw [uN (h_0 σ) nn1]
    dsimp only
    rw [si_o _ _ (by omega), g4, show X7_copies (setI σ 82 0 0) (nI (w_v w).1) (0 : Int32) = _ from e2, uB]
    dsimp only
    rw [f2.1 82 2 (by unfold pB; omega), si_o _ _ (by omega), g4, show nI (w_v w).1 - (1 : Int32) = nI ((w_v w).1 - 1) from pk_sub (b := 1) hn, uB, si_1]
  · show RS _ 0 ((w_v w).2 ((w_v w).1 - 1))
    have := g5 ((w_v w).1 - 1) (by omega)
    rw [show 1 + ((w_v w).1 - 1) = (w_v w).1 by omega] at this
    refine this.cong (o2 _ (by omega)).1 (o2 _ (by omega)).2.2.1.1 (fun k hk => ?_)
    rw [si_o _ _ (by omega)]
    refine (h2 k hk).trans ?_
    rw [si_o _ _ (by omega)]
  · have hj : j < (w_v w).1 - 1 := hj
    exact (g5 j (by omega)).cong (o2 j (by omega)).1 (o2 j (by omega)).2.2.1.1 (fun k hk => hup _ (by omega))
  · rw [si_o _ _ (by omega), f2.1 84 _ (by unfold pB; omega), si_o _ _ (by omega)]; exact g7 j hj
  · rw [si_o _ _ (by omega), f2.1 82 0 (by unfold pB; omega), si_1]
/-! stroke, setting, set -/
theorem r_stroke_bad {σ : Mem} {w : Wd} {T : Nat} (ok : WdOk T w) (h : RfP σ w) {x : Int32} (hx : x < 0 ∨ nI (as_N (w_a w)) ≤ x) : Rf (X7_stroke σ x) σ w 1 0 := by
  have hN := ok.1.1
  refine Rf.no h Off.rfl' ?_
  unfold X7_stroke
  rw [h.1.z.1, uZ (in_m_bad (by omega) hx)]
  exact uZ (h_n σ nn1) _ _
theorem r_stroke {σ : Mem} {w : Wd} {T j : Nat} (ok : WdOk T w) (h : RfP σ w) (hj : j < as_N (w_a w)) : Rf (X7_stroke σ (nI j)) σ w 0 (nI (as_p (w_a w) j)) := by
  have hN := ok.1.1
  refine Rf.an h (fr_th σ 0) (si_1 _ _ _ _) ?_
  unfold X7_stroke
  rw [h.1.z.1, uN (in_m_good hj (by omega)) nn1]
  dsimp only
  rw [uN (h_0 σ) nn1]
  dsimp only
  rw [show (8 : Int32) + nI j = nI (8 + j) from nI_add 8 j, if_pos (nI_inA (by omega) (by omega)), nI_clamp (by omega), si_o _ _ (by omega), h.1.z.2.1 j hj]
theorem r_setting_bad {σ : Mem} {w : Wd} (h : RfP σ w) {x : Int32} (hx : bad x 0 1) : Rf (X7_setting σ x) σ w 1 0 := by
  refine Rf.no h Off.rfl' ?_
  unfold X7_setting
  rw [uZ (show X7_in σ x (0 : Int32) (1 : Int32) = some (σ, 0) from in_bad (lo := 0) (hi := 1) hx)]
  exact uZ (h_n σ nn1) _ _
theorem r_get {σ : Mem} {w : Wd} {i : Nat} (h : RfP σ w) (hi : i ≤ 1) : σ.1 83 (2 + i) = nI (asGet (w_a w) i) := by
  obtain ⟨z1, z2, z3, z4, z5, z6⟩ := h.1.z
  unfold asGet
  by_cases c : i = 0
  · rw [if_pos c, c]; exact z4
  · rw [if_neg c, show i = 1 by omega]; exact z5
theorem r_setting {σ : Mem} {w : Wd} {i : Nat} (h : RfP σ w) (hi : i ≤ 1) : Rf (X7_setting σ (nI i)) σ w 0 (nI (asGet (w_a w) i)) := by
  refine Rf.an h (fr_th σ 0) (si_1 _ _ _ _) ?_
  unfold X7_setting
  rw [uN (show X7_in σ (nI i) (0 : Int32) (1 : Int32) = some (σ, 1) from in_good (lo := 0) (hi := 1) (by omega) (by omega) (by omega)) nn1]
  dsimp only
  rw [uN (h_0 σ) nn1]
  dsimp only
  rw [show (2 : Int32) + nI i = nI (2 + i) from nI_add 2 i, if_pos (nI_inA (by omega) (by omega)), nI_clamp (by omega), si_o _ _ (by omega), r_get h hi]
theorem r_set_bad {σ : Mem} {w : Wd} (h : RfP σ w) {x y : Int32} (hx : bad x 0 1) : Rf (X7_set σ x y) σ w 1 0 := by
  refine Rf.no h Off.rfl' ?_
  unfold X7_set
  rw [uZ (show X7_in σ x (0 : Int32) (1 : Int32) = some (σ, 0) from in_bad (lo := 0) (hi := 1) hx)]
  exact uZ (h_n σ nn1) _ _
theorem x7_set1 {σ : Mem} {i : Nat} (hi : i ≤ 1) (y : Int32) : X7_set σ (nI i) y = X7_set_25 σ (nI i) y (nI (if i = 0 then 1 else 4)) (nI i) y := by
  unfold X7_set
  rw [uN (show X7_in σ (nI i) (0 : Int32) (1 : Int32) = some (σ, 1) from in_good (lo := 0) (hi := 1) (by omega) (by omega) (by omega)) nn1]
  by_cases c : i = 0
  · subst c; rfl
  · rw [show i = 1 by omega]; rfl
theorem r_set_no {σ : Mem} {w : Wd} {i : Nat} (h : RfP σ w) (hi : i ≤ 1) {y : Int32} (hy : bad y i (if i = 0 then 1 else 4)) : Rf (X7_set σ (nI i) y) σ w 2 0 := by
  refine Rf.no h Off.rfl' ?_
  rw [x7_set1 hi]
  unfold X7_set_25
  rw [uZ (in_bad hy)]
  exact uZ (h_n σ nn2) _ _
theorem r_set {σ : Mem} {w : Wd} {T i v : Nat} (ok : WdOk T w) (h : RfP σ w) (hi : i ≤ 1) (h1 : i ≤ v) (h2 : v ≤ (if i = 0 then 1 else 4)) : Rf (X7_set σ (nI i) (nI v)) σ (wA (wPush w) (asSet (w_a w) i v)) 0 (nI (asGet (w_a w) i)) := by
  obtain ⟨σ2, e2, g2, f2⟩ := x7_save ok (h.th 0)
  have f3 : Fr pK σ2 (setI σ2 83 (2 + i) (nI v)) := Fr.setI (by unfold pK; omega)
  obtain ⟨z1, z2, z3, z4, z5, z6, z7, z8, z9⟩ := g2.1.z
  have hm := ok.1.2.2.1.1
  have h4 : (if i = 0 then 1 else 4) ≤ 4 := by split <;> omega
  have hh : ∀ k, k ≠ 2 + i → (setI σ2 83 (2 + i) (nI v)).1 83 k = σ2.1 83 k := fun k hk => si_o _ _ (by omega)
  refine ⟨setI σ2 83 (2 + i) (nI v), ?_, RfP.upd0 ok.push g2 f3 (RS.of ⟨(hh 0 (by omega)).trans z1, fun j hj => (hh (8 + j) (by omega)).trans (z2 j hj), z3.cg hm (fun k hk _ => hh k (by omega)), ?_, ?_, (hh 4 (by omega)).trans z6, (hh 5 (by omega)).trans z7, (hh 6 (by omega)).trans z8, (hh 7 (by omega)).trans z9⟩), ?_, ((Off.setI (by omega) (by omega)).trans (f2.off fun c j => pV_c)).trans (f3.off fun c j => pK_c)⟩
  · rw [x7_set1 hi]
    unfold X7_set_25
    rw [uN (in_good h1 h2 (by omega)) nn1]
    unfold X7_set_36
    dsimp only
    rw [uN (h_0 σ) nn1]
    dsimp only
    rw [e2, uB]
    dsimp only
    rw [show (2 : Int32) + nI i = nI (2 + i) from nI_add 2 i, if_pos (nI_inA (by omega) (by omega)), if_pos (nI_inA (by omega) (by omega)), nI_clamp (by omega), uB, r_get g2 hi]
    rfl
  · unfold asSet
    show _ = nI (if i = 0 then (v, as_g (w_a w)) else (as_s (w_a w), v)).1
    by_cases c : i = 0
    · subst c; rw [si_1, if_pos rfl]
    · rw [if_neg c]; exact (hh 2 (by omega)).trans z4
  · unfold asSet
    show _ = nI (if i = 0 then (v, as_g (w_a w)) else (as_s (w_a w), v)).2
    by_cases c : i = 0
    · rw [if_pos c]; exact (hh 3 (by omega)).trans z5
    · rw [if_neg c, show i = 1 by omega, si_1]
  · rw [si_o _ _ (by omega), f2.1 82 0 (by unfold pV; omega), si_1]
