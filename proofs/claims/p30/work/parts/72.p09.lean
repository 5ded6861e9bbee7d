/-! acts: what the law does to the object in a turn -/
def bt (y : Int32) : Nat := y.toBitVec.toNat % 2
theorem bt_e (y : Int32) : y &&& (1 : Int32) = nI (bt y) := pk_and y (m := (1 : Int32)) 1 (by decide)
theorem bt_le (y : Int32) : bt y ≤ 1 := by have := Nat.mod_lt y.toBitVec.toNat (show 0 < 2 by omega); unfold bt; omega
def Po (T : Nat) (w : Wd) (a' : As) (o : Mem × Int32) : Prop := o.2 = 1 ∧ ∃ w', Gd o.1 w' ∧ w_a w' = a' ∧ w_v w' = svPush (w_v w) (w_a w) ∧ w_s w' = w_s w ∧ Iv (T + 1) w'
theorem po_mk {T : Nat} {w : Wd} {a' : As} {σ' : Mem} (h : Iv T w) (g : Gd σ' (wA (wPush w) a')) (ok' : AsOk (T + 1) a') (hd : Ds (as_E a')) : Hd (Po T w a') (some (σ', (1 : Int32))) :=
  Hd.i ⟨rfl, wA (wPush w) a', g, rfl, rfl, rfl, (h.mono (Nat.le_succ T)).push.A ok' hd⟩
theorem ac_set {T : Nat} {w : Wd} {σ : Mem} {y : Int32} (g : Gd σ w) (h : Iv T w) : Hd (Po T w (asSet (w_a w) 0 (bt y))) ((xlv (X6_set σ (0 : Int32) (y &&& (1 : Int32)))).bind fun q => (if q.2 < 0 then some (q.1, (0 : Int32)) else some (q.1, (1 : Int32)))) := by
  have ok := h.ok
  have hs := ok.2.2.2.1
  have hb := bt_le y
  refine yc_set g ok (i := 0) (v := bt y) rfl (by omega) (bt_e y) (by omega) hb (fun σ1 g1 => ?_)
  refine Hd.f (show ¬ nI (as_s (w_a w)) < 0 from nI_pos (by omega)) ?_
  exact po_mk h g1 ((asSet_ok ok (by omega) (by omega) hb).mono (Nat.le_succ T)) h.2.2.1
/-- a definition -/
def acD (σ : Mem) (y : Int32) : Option (Mem × Int32) := ((L_up σ y (4 : Int32)).bind fun q3 => ((L_up q3.1 (y >>> ((10 : Int32) &&& 31)) (4 : Int32)).bind fun q5 => ((xlv (X6_count q5.1 (4 : Int32))).bind fun q7 => (if q7.2 = (24 : Int32) then ((xlv (X6_set q7.1 (0 : Int32) (y &&& (1 : Int32)))).bind fun q9 => (if q9.2 < 0 then some (q9.1, (0 : Int32)) else some (q9.1, (1 : Int32)))) else ((L_isEntry q7.1 ((1 : Int32) + q3.2) (y >>> ((2 : Int32) &&& 31)) q5.2).bind fun q11 => (if q11.2 = 0 then ((xlv (X6_count q11.1 (4 : Int32))).bind fun q13 => ((L_types q13.1 ((1 : Int32) + q3.2) (y >>> ((2 : Int32) &&& 31))).bind fun q15 => (if q15.2 ≤ 0 then some (q15.1, (0 : Int32)) else ((xlv (X6_define q15.1 q5.2)).bind fun q17 => (if q17.2 = q13.2 then ((xlv (X6_entry q17.1 q13.2 (6 : Int32))).bind fun q19 => (if q19.2 = 0 then some (q19.1, (1 : Int32)) else some (q19.1, (0 : Int32)))) else some (q17.1, (0 : Int32))))))) else ((xlv (X6_set q11.1 (0 : Int32) (y &&& (1 : Int32)))).bind fun q21 => (if q21.2 < 0 then some (q21.1, (0 : Int32)) else some (q21.1, (1 : Int32))))))))))
abbrev dfx (y : Int32) : Int32 := y >>> ((2 : Int32) &&& 31)
abbrev dfw (y : Int32) : Nat := upn (y >>> ((10 : Int32) &&& 31)) 4
def defA (a : As) (y : Int32) : As := if en_m (as_E a) = 24 ∨ isB (as_E a) (dfx y) (upn y 4 + 1) (dfw y) = true then asSet a 0 (bt y) else asE a (enPut (as_E a) (upn y 4 + 1) (strT (dfx y) (upn y 4 + 1)) (dfw y) 0)
theorem ac_def {T : Nat} {w : Wd} {σ : Mem} {y : Int32} (g : Gd σ w) (h : Iv T w) (hT : T + 1 ≤ 512) : Hd (Po T w (defA (w_a w) y)) (acD σ y) := by
  have ok := h.ok
  have hm := ok.2.2.1.1
  have hq := upn_lt (p := y) (n := 4) (by omega)
  have hw : dfw y < 4 := upn_lt (by omega)
  have e1 : (1 : Int32) + nI (upn y 4) = nI (upn y 4 + 1) := (nI_add 1 _).trans (congrArg nI (Nat.add_comm 1 _))
  unfold acD
  refine yc_up (n := 4) rfl (by omega) (by omega) ?_
  refine yc_up (n := 4) rfl (by omega) (by omega) ?_
  refine yc_c4 g ok (fun σ1 g1 => ?_)
  refine Hd.s (fun c => ?_) (fun c => ?_)
  · have c : nI (en_m (as_E (w_a w))) = nI 24 := c
    have c := (nI_eq (by omega) (by omega)).mp c
    rw [show defA (w_a w) y = asSet (w_a w) 0 (bt y) from if_pos (Or.inl c)]
    exact ac_set g1 h
  · have c : ¬ nI (en_m (as_E (w_a w))) = nI 24 := c
    have hm24 : en_m (as_E (w_a w)) ≠ 24 := fun e => c (congrArg nI e)
    refine yc_ie g1 ok e1 (by omega) rfl (show dfw y < 100 by omega) (fun σ2 g2 => ?_)
    refine Hd.s (fun c2 => ?_) (fun c2 => ?_)
    · have c2 : isB (as_E (w_a w)) (dfx y) (upn y 4 + 1) (dfw y) = false := bI_0.mp c2
      rw [show defA (w_a w) y = asE (w_a w) (enPut (as_E (w_a w)) (upn y 4 + 1) (strT (dfx y) (upn y 4 + 1)) (dfw y) 0) from if_neg (fun hh => by
        rcases hh with hh | hh
        · exact hm24 hh
        · rw [c2] at hh; cases hh)]
      refine yc_c4 g2 ok (fun σ3 g3 => ?_)
      show Hd _ ((L_types σ3 ((1 : Int32) + nI (upn y 4)) (dfx y)).bind _)
      rw [e1]
      refine Hd.x (ty_e g3 h.1.2.2.2.2 (by omega)) (fun o ho => ?_)
      obtain ⟨σ4, v⟩ := o
      obtain ⟨n, t, hn1, hn60, hv, g4, hx, hr⟩ := ho
      have hv : v = nI n := hv
      subst hv
      have g4 : Gd σ4 (wT w n t) := g4
      have hrow : ∀ k, k < upn y 4 + 1 → 1 ≤ strT (dfx y) (upn y 4 + 1) k ∧ strT (dfx y) (upn y 4 + 1) k < 1024 := fun k hk => by
        rw [strT_at hk]
        have := sk_b (dfx y) k
        omega
      have hR : w_r (wT w n t) = (true, n, upn y 4 + 1, strT (dfx y) (upn y 4 + 1)) := hr
      have hB : rowB (w_r (wT w n t)) = true := by
        rw [hR]
        unfold rowB
        rw [Bool.and_eq_true, Bool.and_eq_true]
        exact ⟨⟨rfl, decide_eq_true (show upn y 4 + 1 ≤ 4 by omega)⟩, decide_eq_true (fun j hj => by have := (hrow j hj).1; show strT (dfx y) (upn y 4 + 1) j ≠ 0; omega)⟩
      have hno : ∀ e, e < en_m (as_E (w_a w)) → en_k (as_E (w_a w)) e = pac (strT (dfx y) (upn y 4 + 1)) (upn y 4 + 1) → en_w (as_E (w_a w)) e ≠ dfw y := fun e he hk hww => by
        have hf := anB_f c2 e he
        have hE := ok.2.2.1.2 e he
        unfold en_k at hk
        obtain ⟨k1, k2⟩ := (pac_inj hE.2.1 hrow).mp hk
        have : peB (as_E (w_a w)) (dfx y) (upn y 4 + 1) (dfw y) e = true := decide_eq_true ⟨hww, k1, fun k hk => by rw [k2 k (by omega), strT_at hk]⟩
        rw [this] at hf
        cases hf
      have hnd : ¬ deB (wT w n t) (dfw y) := fun ⟨e, he, hk, hww⟩ => by
        rw [hR] at hk
        exact hno e he hk hww
      have hD := q_define (σ := σ4) (w := wT w n t) (wd := dfw y) ok g4.1 g4.2 hx (by omega) hB hm24 hnd
      rw [hR] at hD
      refine Hd.f (show ¬ nI n ≤ 0 from nI_nle (by omega) (by omega)) ?_
      refine yc_ans (w' := wT (wA (wPush (wT w n t)) (asE (w_a w) (enPut (as_E (w_a w)) (upn y 4 + 1) (strT (dfx y) (upn y 4 + 1)) (dfw y) 0))) 0 t) (v := nI (en_m (as_E (w_a w)))) hD (fun σ5 g5 => ?_)
      obtain ⟨p1, p2⟩ := enPut_ok (L := upn y 4 + 1) (wd := dfw y) (r := strT (dfx y) (upn y 4 + 1)) ok.2.2.1 ok.2.2.2.2.2.2.2.2 (by omega) (by omega) hrow (by omega)
      have ok5 : AsOk (T + 1) (asE (w_a w) (enPut (as_E (w_a w)) (upn y 4 + 1) (strT (dfx y) (upn y 4 + 1)) (dfw y) 0)) := asE_ok ok (Nat.le_succ T) p1 (fun e he => Nat.le_succ_of_le (p2 e he))
      have hds : Ds (enPut (as_E (w_a w)) (upn y 4 + 1) (strT (dfx y) (upn y 4 + 1)) (dfw y) 0) := h.2.2.1.put hno
      refine Hd.t rfl ?_
      refine yc_en g5 ok5 (e := en_m (as_E (w_a w))) rfl (show en_m (as_E (w_a w)) < en_m (as_E (w_a w)) + 1 by omega) (what := 6) rfl (by omega) (v := nI 0) (show nI (updn (en_p (as_E (w_a w))) (en_m (as_E (w_a w))) 0 (en_m (as_E (w_a w)))) = nI 0 by rw [updn_1]) (fun σ6 g6 => ?_)
      refine Hd.t rfl (Hd.i ⟨rfl, _, g6, rfl, rfl, rfl, ?_⟩)
      have hx0 : TxOk 0 t := ⟨by omega, fun j hj => absurd hj (by omega)⟩
      exact ((((h.mono (Nat.le_succ T)).txt hx).push).A ok5 hds).txt hx0
    · have c2 : isB (as_E (w_a w)) (dfx y) (upn y 4 + 1) (dfw y) = true := by
        cases hb : isB (as_E (w_a w)) (dfx y) (upn y 4 + 1) (dfw y) with
        | true => rfl
        | false => exact absurd (show bI (isB (as_E (w_a w)) (dfx y) (upn y 4 + 1) (dfw y)) = 0 by rw [hb]; rfl) c2
      rw [show defA (w_a w) y = asSet (w_a w) 0 (bt y) from if_pos (Or.inr c2)]
      exact ac_set g2 h
/-- a removal -/
def acR (σ : Mem) (y : Int32) : Option (Mem × Int32) := ((xlv (X6_count σ (4 : Int32))).bind fun q63 => (if q63.2 = 0 then ((xlv (X6_set q63.1 (0 : Int32) (y &&& (1 : Int32)))).bind fun q73 => (if q73.2 < 0 then some (q73.1, (0 : Int32)) else some (q73.1, (1 : Int32)))) else ((xlv (X6_count q63.1 (4 : Int32))).bind fun q65 => ((L_up q65.1 y q65.2).bind fun q67 => ((xlv (X6_remove q67.1 q67.2)).bind fun q69 => ((xlv (X6_count q69.1 (4 : Int32))).bind fun q71 => (if q69.2 = q71.2 then some (q71.1, (1 : Int32)) else some (q71.1, (0 : Int32)))))))))
def remA (a : As) (y : Int32) : As := if en_m (as_E a) = 0 then asSet a 0 (bt y) else asE a (enTake (as_E a) (upn y (en_m (as_E a))))
theorem ac_rem {T : Nat} {w : Wd} {σ : Mem} {y : Int32} (g : Gd σ w) (h : Iv T w) : Hd (Po T w (remA (w_a w) y)) (acR σ y) := by
  have ok := h.ok
  have hm := ok.2.2.1.1
  unfold acR
  refine yc_c4 g ok (fun σ1 g1 => ?_)
  refine Hd.s (fun c => ?_) (fun c => ?_)
  · have c : nI (en_m (as_E (w_a w))) = nI 0 := c
    have c := (nI_eq (by omega) (by omega)).mp c
    rw [show remA (w_a w) y = asSet (w_a w) 0 (bt y) from if_pos c]
    exact ac_set g1 h
  · have c : ¬ nI (en_m (as_E (w_a w))) = nI 0 := c
    have hm0 : 0 < en_m (as_E (w_a w)) := by
      rcases Nat.eq_zero_or_pos (en_m (as_E (w_a w))) with hz | hz
      · exact absurd (congrArg nI hz) c
      · exact hz
    have hu := upn_lt (p := y) hm0
    rw [show remA (w_a w) y = asE (w_a w) (enTake (as_E (w_a w)) (upn y (en_m (as_E (w_a w))))) from if_neg (by omega)]
    obtain ⟨p1, p2⟩ := enTake_ok (e := upn y (en_m (as_E (w_a w)))) ok.2.2.1 ok.2.2.2.2.2.2.2.2
    have ok5 : AsOk (T + 1) (asE (w_a w) (enTake (as_E (w_a w)) (upn y (en_m (as_E (w_a w)))))) := asE_ok ok (Nat.le_succ T) p1 (fun e he => Nat.le_succ_of_le (p2 e he))
    refine yc_c4 g1 ok (fun σ2 g2 => ?_)
    refine yc_up rfl hm0 (by omega) ?_
    refine yc_remove g2 ok rfl hu (fun σ3 g3 => ?_)
    refine yc_c4 g3 ok5 (fun σ4 g4 => ?_)
    exact Hd.t rfl (po_mk h g4 ok5 (h.2.2.1.take _))
/-- the longest row that is read -/
def acL (σ : Mem) (y : Int32) : Option (Mem × Int32) := ((L_up σ y (4 : Int32)).bind fun q75 => ((xlv (X6_set q75.1 (1 : Int32) ((1 : Int32) + q75.2))).bind fun q77 => (if q77.2 ≤ 0 then some (q77.1, (0 : Int32)) else some (q77.1, (1 : Int32)))))
theorem ac_lg {T : Nat} {w : Wd} {σ : Mem} {y : Int32} (g : Gd σ w) (h : Iv T w) : Hd (Po T w (asSet (w_a w) 1 (1 + upn y 4))) (acL σ y) := by
  have ok := h.ok
  have hg := ok.2.2.2.2.1
  have hu := upn_lt (p := y) (n := 4) (by omega)
  have hv : 1 + upn y 4 ≤ (if (1 : Nat) = 0 then 1 else 4) := by rw [if_neg (by omega)]; omega
  unfold acL
  refine yc_up (n := 4) rfl (by omega) (by omega) ?_
  refine yc_set g ok (i := 1) (v := 1 + upn y 4) rfl (by omega) (nI_add 1 _) (by omega) hv (fun σ1 g1 => ?_)
  refine Hd.f (show ¬ nI (as_g (w_a w)) ≤ 0 from nI_nle (by omega) (by omega)) ?_
  exact po_mk h g1 ((asSet_ok ok (by omega) (by omega) hv).mono (Nat.le_succ T)) h.2.2.1
/-! a pick: the entry that leads goes on leading -/
theorem pk_ldr {E : En} {e R : Nat} : ldr (enPick E e) R (en_m E) = none ↔ ldr E R (en_m E) = none := by
  rw [ldr_none, ldr_none]
  exact Iff.rfl
theorem pk_lgst {E : En} {e : Nat} {q : Nat → Nat} {pl : Nat} : ∀ L, lgst (enPick E e) q pl L = lgst E q pl L
  | 0 => rfl
  | L + 1 => by
    have ih := pk_lgst (E := E) (e := e) (q := q) (pl := pl) L
    have hn := pk_ldr (E := E) (e := e) (R := pac (fun t => q (pl + t)) (L + 1))
    have h1 : ∀ F : En, en_m F = en_m E → lgst F q pl (L + 1) = (if ldr F (pac (fun t => q (pl + t)) (L + 1)) (en_m E) = none then lgst F q pl L else L + 1) := fun F hF => by
      rw [lgst, hF]
      cases ldr F (pac (fun t => q (pl + t)) (L + 1)) (en_m E) with
      | none => rw [if_pos rfl]
      | some _ => rw [if_neg (fun x => by cases x)]
    rw [h1 (enPick E e) rfl, h1 E rfl, ih]
    by_cases c : ldr E (pac (fun t => q (pl + t)) (L + 1)) (en_m E) = none
    · rw [if_pos c, if_pos (hn.mpr c)]
    · rw [if_neg c, if_neg (fun x => c (hn.mp x))]
theorem pk_szf {E : En} {e lg N pl : Nat} {q : Nat → Nat} : szf (enPick E e) lg N q pl = szf E lg N q pl := by
  unfold szf
  rw [pk_lgst]
theorem pk_posf {E : En} {e lg N : Nat} {q : Nat → Nat} : ∀ i, posf (enPick E e) lg N q i = posf E lg N q i
  | 0 => rfl
  | i + 1 => by rw [posf, posf, pk_posf i, pk_szf]
theorem pk_itn {E : En} {e lg N : Nat} {q : Nat → Nat} : itn (enPick E e) lg N q = itn E lg N q := by
  unfold itn
  exact cnt_cong (fun i _ => by rw [pk_posf])
theorem pk_stf {E : En} {e lg N pl : Nat} {q : Nat → Nat} (h : stf E lg N q pl = some e) : stf (enPick E e) lg N q pl = some e := by
  unfold stf at h ⊢
  rw [pk_szf]
  obtain ⟨h1, h2, h3⟩ := ldr_some h
  have hl : leadP (enPick E e) e := fun e' he' hk => by
    have h4 := h3 e' he' (hk.trans h2)
    show updn (en_p E) e (en_p E e + 1) e' < updn (en_p E) e (en_p E e + 1) e ∨ (updn (en_p E) e (en_p E e + 1) e' = updn (en_p E) e (en_p E e + 1) e ∧ e ≤ e')
    by_cases c : e' = e
    · rw [c]; exact Or.inr ⟨rfl, Nat.le_refl _⟩
    · rw [updn_o _ _ c, updn_1]
      left
      omega
  have h5 := (lead_ldr (E := enPick E e) (e := e) h1).mpr hl
  rw [enPick_k, h2] at h5
  exact h5
def pckA (a : As) (y : Int32) (i : Nat) : As := if as_t a = 0 then asSet a 0 (bt y) else match as_st a i with
  | none => asSet a 0 (bt y)
  | some e => asE a (enPick (as_E a) e)
theorem ac_260 {T : Nat} {w : Wd} {σ : Mem} {y : Int32} {i : Nat} (g : Gd σ w) (h : Iv T w) (hT : T + 1 ≤ 512) (hi : as_t (w_a w) ≠ 0 → i < as_t (w_a w)) : Hd (Po T w (pckA (w_a w) y i)) (L_acts_260 σ y (nI i)) := by
  have ok := h.ok
  have ht := as_t_le ok
  have hm := ok.2.2.1.1
  unfold L_acts_260
  refine yc_c2 g ok (fun σ1 g1 => ?_)
  refine Hd.s (fun c => ?_) (fun c => ?_)
  · have c : nI (as_t (w_a w)) = nI 0 := c
    have c := (nI_eq (by omega) (by omega)).mp c
    rw [show pckA (w_a w) y i = asSet (w_a w) 0 (bt y) from if_pos c]
    exact ac_set g1 h
  · have c : ¬ nI (as_t (w_a w)) = nI 0 := c
    have ht0 : as_t (w_a w) ≠ 0 := fun e => c (congrArg nI e)
    have hi := hi ht0
    refine yc_it g1 ok rfl hi (what := 3) rfl (by omega) (v := oN (as_st (w_a w) i)) rfl (fun σ2 g2 => ?_)
    have hso : as_st (w_a w) i = none ∨ ∃ e, as_st (w_a w) i = some e := by
      cases as_st (w_a w) i with
      | none => exact Or.inl rfl
      | some e => exact Or.inr ⟨e, rfl⟩
    rcases hso with hs | ⟨e, hs⟩
    · rw [show pckA (w_a w) y i = asSet (w_a w) 0 (bt y) by unfold pckA; rw [if_neg ht0, hs]]
      refine Hd.f (show ¬ 0 ≤ oN (as_st (w_a w) i) by rw [hs]; decide) ?_
      exact ac_set g2 h
    · rw [show pckA (w_a w) y i = asE (w_a w) (enPick (as_E (w_a w)) e) by unfold pckA; rw [if_neg ht0, hs]]
      have he : e < en_m (as_E (w_a w)) := as_st_m hs
      have hx : oN (as_st (w_a w) i) = nI e := by rw [hs]; rfl
      have hk : it_k (w_a w) i = en_k (as_E (w_a w)) e := (ldr_some hs).2.1.symm
      obtain ⟨p1, p2⟩ := enPick_ok (e := e) ok.2.2.1 ok.2.2.2.2.2.2.2.2 hT
      have ok5 : AsOk (T + 1) (asE (w_a w) (enPick (as_E (w_a w)) e)) := asE_ok ok (Nat.le_succ T) p1 p2
      have hs5 : as_st (asE (w_a w) (enPick (as_E (w_a w)) e)) i = some e := by
        show stf (enPick (as_E (w_a w)) e) (as_g (w_a w)) (as_N (w_a w)) (as_p (w_a w)) (posf (enPick (as_E (w_a w)) e) (as_g (w_a w)) (as_N (w_a w)) (as_p (w_a w)) i) = some e
        rw [pk_posf]
        exact pk_stf hs
      have ht5 : as_t (asE (w_a w) (enPick (as_E (w_a w)) e)) = as_t (w_a w) := pk_itn
      refine Hd.t (show 0 ≤ oN (as_st (w_a w) i) by rw [hx]; exact nI_pos' (by omega)) ?_
      refine yc_it g2 ok rfl hi (what := 3) rfl (by omega) (v := oN (as_st (w_a w) i)) rfl (fun σ3 g3 => ?_)
      refine yc_en g3 ok hx he (what := 6) rfl (by omega) (v := nI (en_p (as_E (w_a w)) e)) rfl (fun σ4 g4 => ?_)
      refine yc_pick g4 ok rfl hi hx he hk (fun σ5 g5 => ?_)
      refine Hd.t (nI_1 _).symm ?_
      refine yc_en g5 ok5 hx he (what := 6) rfl (by omega) (v := nI (en_p (as_E (w_a w)) e + 1)) (show nI (updn (en_p (as_E (w_a w))) e (en_p (as_E (w_a w)) e + 1) e) = _ by rw [updn_1]) (fun σ6 g6 => ?_)
      refine Hd.t (nI_1 _).symm ?_
      refine yc_it g6 ok5 rfl (show i < as_t (asE (w_a w) (enPick (as_E (w_a w)) e)) by rw [ht5]; exact hi) (what := 3) rfl (by omega) (v := oN (as_st (asE (w_a w) (enPick (as_E (w_a w)) e)) i)) rfl (fun σ7 g7 => ?_)
      refine Hd.t (show oN (as_st (asE (w_a w) (enPick (as_E (w_a w)) e)) i) = oN (as_st (w_a w) i) by rw [hs5, hs]) ?_
      exact po_mk h g7 ok5 (h.2.2.1.pick e)
def acP (σ : Mem) (y : Int32) : Option (Mem × Int32) := ((xlv (X6_count σ (2 : Int32))).bind fun q79 => (if q79.2 = 0 then L_acts_260 q79.1 y (0 : Int32) else ((xlv (X6_count q79.1 (2 : Int32))).bind fun q81 => ((L_up q81.1 y q81.2).bind fun q83 => L_acts_260 q83.1 y q83.2))))
def pikA (a : As) (y : Int32) : As := pckA a y (if as_t a = 0 then 0 else upn y (as_t a))
theorem ac_pick {T : Nat} {w : Wd} {σ : Mem} {y : Int32} (g : Gd σ w) (h : Iv T w) (hT : T + 1 ≤ 512) : Hd (Po T w (pikA (w_a w) y)) (acP σ y) := by
  have ok := h.ok
  have ht := as_t_le ok
  unfold acP pikA
  refine yc_c2 g ok (fun σ1 g1 => ?_)
  refine Hd.s (fun c => ?_) (fun c => ?_)
  · have c : nI (as_t (w_a w)) = nI 0 := c
    have c := (nI_eq (by omega) (by omega)).mp c
    rw [if_pos c]
    exact ac_260 g1 h hT (fun x => absurd c x)
  · have c : ¬ nI (as_t (w_a w)) = nI 0 := c
    have ht0 : as_t (w_a w) ≠ 0 := fun e => c (congrArg nI e)
    rw [if_neg ht0]
    refine yc_c2 g1 ok (fun σ2 g2 => ?_)
    refine yc_up rfl (by omega) (by omega) ?_
    exact ac_260 g2 h hT (fun _ => upn_lt (by omega))
/-- back to the snapshot, a tear, a setting -/
def acB (σ : Mem) (y : Int32) : Option (Mem × Int32) := (if (y &&& (7 : Int32)) = 0 then ((xlv (X6_goBack σ)).bind fun q115 => ((xlv (X6_count q115.1 (0 : Int32))).bind fun q117 => (if q115.2 = q117.2 then some (q117.1, (1 : Int32)) else some (q117.1, (0 : Int32))))) else (if (y &&& (7 : Int32)) = (1 : Int32) then ((X6_tear σ).bind fun q111 => (if q111.2 < 0 then some (q111.1, (0 : Int32)) else ((xlv (X6_count q111.1 (2 : Int32))).bind fun q113 => (if q113.2 = 0 then some (q113.1, (1 : Int32)) else some (q113.1, (0 : Int32)))))) else ((xlv (X6_set σ (0 : Int32) (y &&& (1 : Int32)))).bind fun q109 => (if q109.2 < 0 then some (q109.1, (0 : Int32)) else some (q109.1, (1 : Int32))))))
def bckA (a s : As) (y : Int32) : As := if (y &&& (7 : Int32)) = 0 then s else if (y &&& (7 : Int32)) = (1 : Int32) then asTear a else asSet a 0 (bt y)
theorem tear_t (a : As) : as_t (asTear a) = 0 := by
  have h := items_le (itn_ok (as_E (asTear a)) (as_g (asTear a)) (as_N (asTear a)) (as_p (asTear a)))
  have h : as_t (asTear a) ≤ 0 := h
  omega
theorem ac_back {T : Nat} {w : Wd} {σ : Mem} {y : Int32} (g : Gd σ w) (h : Iv T w) : Hd (Po T w (bckA (w_a w) (w_s w) y)) (acB σ y) := by
  have ok := h.ok
  have hN := ok.1
  unfold acB bckA
  refine Hd.s (fun c => ?_) (fun c => ?_)
  · rw [if_pos c]
    refine yc_goBack g ok h.2.1 h.ok2 (fun σ1 g1 => ?_)
    refine yc_c0 g1 (T := T) h.ok2 (fun σ2 g2 => ?_)
    exact Hd.t rfl (po_mk h g2 (h.ok2.mono (Nat.le_succ T)) h.2.2.2.1)
  · rw [if_neg c]
    refine Hd.s (fun c2 => ?_) (fun c2 => ?_)
    · rw [if_pos c2]
      refine yc_tear g ok (fun σ1 g1 => ?_)
      refine Hd.f (nI_pos (by omega)) ?_
      refine yc_c2 g1 (T := T) (asTear_ok ok) (fun σ2 g2 => ?_)
      exact Hd.t (show nI (as_t (asTear (w_a w))) = 0 by rw [tear_t]; rfl) (po_mk h g2 ((asTear_ok ok).mono (Nat.le_succ T)) h.2.2.1)
    · rw [if_neg c2]
      exact ac_set g h
theorem ac_str {T : Nat} {w : Wd} {σ : Mem} {s : Nat} (g : Gd σ w) (h : Iv T w) (hs : s < 1024) (hc : canS (w_a w) s = true) : Hd (Po T w (asStk (w_a w) s)) ((L_strikes σ (nI s)).bind fun q => (if q.2 &&& 1 = q.2 then some (q.1, q.2) else none)) := by
  have ok := h.ok
  have ok1 := ok.mono (Nat.le_succ T)
  have hk : as_k (w_a w) + 1 ≤ 30 * (T + 1) := by have := ok.2.2.2.2.2.1; omega
  have hE : as_E (asStk (w_a w) s) = as_E (w_a w) := by unfold asStk; split <;> rfl
  refine Hd.x (sr_e g ok1 hs hc hk) (fun o ho => ?_)
  obtain ⟨σ1, v⟩ := o
  obtain ⟨h1, h2⟩ := ho
  have h2 : v = 1 := h2
  subst h2
  refine Hd.t (show (1 : Int32) &&& 1 = 1 by decide) ?_
  exact po_mk h h1 (asStk_ok hs ok1 hc hk) (by rw [hE]; exact h.2.2.1)
/-- an asterisk -/
def acA (σ : Mem) (y : Int32) : Option (Mem × Int32) := ((xlv (X6_count σ (0 : Int32))).bind fun q119 => (if q119.2 = 0 then ((xlv (X6_set q119.1 (0 : Int32) (y &&& (1 : Int32)))).bind fun q123 => (if q123.2 < 0 then some (q123.1, (0 : Int32)) else some (q123.1, (1 : Int32)))) else ((L_strikes q119.1 (0 : Int32)).bind fun q121 => (if q121.2 &&& 1 = q121.2 then some (q121.1, q121.2) else none))))
def astA (a : As) (y : Int32) : As := if as_N a = 0 then asSet a 0 (bt y) else asStk a 0
theorem ac_ast {T : Nat} {w : Wd} {σ : Mem} {y : Int32} (g : Gd σ w) (h : Iv T w) : Hd (Po T w (astA (w_a w) y)) (acA σ y) := by
  have ok := h.ok
  have hN := ok.1
  unfold acA astA
  refine yc_c0 g ok (fun σ1 g1 => ?_)
  refine Hd.s (fun c => ?_) (fun c => ?_)
  · have c : nI (as_N (w_a w)) = nI 0 := c
    have c := (nI_eq (by omega) (by omega)).mp c
    rw [if_pos c]
    exact ac_set g1 h
  · have c : ¬ nI (as_N (w_a w)) = nI 0 := c
    have hN0 : as_N (w_a w) ≠ 0 := fun e => c (congrArg nI e)
    rw [if_neg hN0]
    exact ac_str (s := 0) g1 h (by omega) (by unfold canS; rw [if_pos rfl]; exact decide_eq_true (by omega))
/-- a stroke -/
def acS (σ : Mem) (y : Int32) : Option (Mem × Int32) := ((xlv (X6_count σ (0 : Int32))).bind fun q131 => (if q131.2 = (60 : Int32) then ((X6_tear q131.1).bind fun q141 => (if q141.2 = (60 : Int32) then some (q141.1, (1 : Int32)) else some (q141.1, (0 : Int32)))) else (if (y &&& (15 : Int32)) = 0 then ((L_up q131.1 (y >>> ((4 : Int32) &&& 31)) (1023 : Int32)).bind fun q137 => ((L_strikes q137.1 ((1 : Int32) + q137.2)).bind fun q139 => (if q139.2 &&& 1 = q139.2 then some (q139.1, q139.2) else none))) else ((L_up q131.1 (y >>> ((4 : Int32) &&& 31)) (7 : Int32)).bind fun q133 => ((L_strikes q133.1 ((1 : Int32) + q133.2)).bind fun q135 => (if q135.2 &&& 1 = q135.2 then some (q135.1, q135.2) else none))))))
def strA (a : As) (y : Int32) : As := if as_N a = 60 then asTear a else asStk a (if (y &&& (15 : Int32)) = 0 then 1 + upn (y >>> ((4 : Int32) &&& 31)) 1023 else 1 + upn (y >>> ((4 : Int32) &&& 31)) 7)
theorem ac_stk {T : Nat} {w : Wd} {σ : Mem} {y : Int32} (g : Gd σ w) (h : Iv T w) : Hd (Po T w (strA (w_a w) y)) (acS σ y) := by
  have ok := h.ok
  have hN := ok.1
  have u1 := upn_lt (p := y >>> ((4 : Int32) &&& 31)) (n := 1023) (by omega)
  have u2 := upn_lt (p := y >>> ((4 : Int32) &&& 31)) (n := 7) (by omega)
  unfold acS strA
  refine yc_c0 g ok (fun σ1 g1 => ?_)
  refine Hd.s (fun c => ?_) (fun c => ?_)
  · have c : nI (as_N (w_a w)) = nI 60 := c
    have c1 := (nI_eq (by omega) (by omega)).mp c
    rw [if_pos c1]
    refine yc_tear g1 ok (fun σ2 g2 => ?_)
    exact Hd.t c (po_mk h g2 ((asTear_ok ok).mono (Nat.le_succ T)) h.2.2.1)
  · have c : ¬ nI (as_N (w_a w)) = nI 60 := c
    have hN0 : as_N (w_a w) ≠ 60 := fun e => c (congrArg nI e)
    have hc : ∀ s, s ≠ 0 → canS (w_a w) s = true := fun s hs => by unfold canS; rw [if_neg hs]; exact decide_eq_true (by omega)
    rw [if_neg hN0]
    refine Hd.s (fun c2 => ?_) (fun c2 => ?_)
    · rw [if_pos c2]
      refine yc_up (n := 1023) rfl (by omega) (by omega) ?_
      show Hd _ ((L_strikes σ1 (nI 1 + nI (upn (y >>> ((4 : Int32) &&& 31)) 1023))).bind _)
      rw [nI_add]
      exact ac_str g1 h (by omega) (hc _ (by omega))
    · rw [if_neg c2]
      refine yc_up (n := 7) rfl (by omega) (by omega) ?_
      show Hd _ ((L_strikes σ1 (nI 1 + nI (upn (y >>> ((4 : Int32) &&& 31)) 7))).bind _)
      rw [nI_add]
      exact ac_str g1 h (by omega) (hc _ (by omega))
theorem ne_nI {u : Nat} (k : Nat) (h : u ≠ k) (hu : u < 16) (hk : k < 16) : ¬ nI u = nI k := fun e => h ((nI_eq (by omega) (by omega)).mp e)
def actA (a s : As) (x y : Int32) : As := if upn x 16 ≤ 2 then defA a y else if upn x 16 = 3 then remA a y else if upn x 16 = 4 then asSet a 1 (1 + upn y 4) else if upn x 16 ≤ 6 then pikA a y else if upn x 16 = 7 then bckA a s y else if upn x 16 ≤ 9 then astA a y else strA a y
theorem ac_e {T : Nat} {w : Wd} {σ : Mem} {x y : Int32} (g : Gd σ w) (h : Iv T w) (hT : T + 1 ≤ 512) : Hd (Po T w (actA (w_a w) (w_s w) x y)) (L_acts σ x y) := by
  have hu := upn_lt (p := x) (n := 16) (by omega)
  unfold L_acts actA
  refine yc_up (n := 16) rfl (by omega) (by omega) ?_
  generalize upn x 16 = u at hu ⊢
  have hc : u = 0 ∨ u = 1 ∨ u = 2 ∨ u = 3 ∨ u = 4 ∨ u = 5 ∨ u = 6 ∨ u = 7 ∨ u = 8 ∨ u = 9 ∨ 10 ≤ u := by omega
  rcases hc with c | c | c | c | c | c | c | c | c | c | c
  · rw [if_pos (show u ≤ 2 by omega)]
    refine Hd.t (congrArg nI c) ?_
    exact ac_def g h hT
  · rw [if_pos (show u ≤ 2 by omega)]
    refine Hd.f (ne_nI 0 (by omega) hu (by omega)) ?_
    refine Hd.t (congrArg nI c) ?_
    exact ac_def g h hT
  · rw [if_pos (show u ≤ 2 by omega)]
    refine Hd.f (ne_nI 0 (by omega) hu (by omega)) ?_
    refine Hd.f (ne_nI 1 (by omega) hu (by omega)) ?_
    refine Hd.t (congrArg nI c) ?_
    exact ac_def g h hT
  · rw [if_neg (show ¬ u ≤ 2 by omega), if_pos (show u = 3 by omega)]
    refine Hd.f (ne_nI 0 (by omega) hu (by omega)) ?_
    refine Hd.f (ne_nI 1 (by omega) hu (by omega)) ?_
    refine Hd.f (ne_nI 2 (by omega) hu (by omega)) ?_
    refine Hd.t (congrArg nI c) ?_
    exact ac_rem g h
  · rw [if_neg (show ¬ u ≤ 2 by omega), if_neg (show ¬ u = 3 by omega), if_pos (show u = 4 by omega)]
    refine Hd.f (ne_nI 0 (by omega) hu (by omega)) ?_
    refine Hd.f (ne_nI 1 (by omega) hu (by omega)) ?_
    refine Hd.f (ne_nI 2 (by omega) hu (by omega)) ?_
    refine Hd.f (ne_nI 3 (by omega) hu (by omega)) ?_
    refine Hd.t (congrArg nI c) ?_
    exact ac_lg g h
  · rw [if_neg (show ¬ u ≤ 2 by omega), if_neg (show ¬ u = 3 by omega), if_neg (show ¬ u = 4 by omega), if_pos (show u ≤ 6 by omega)]
    refine Hd.f (ne_nI 0 (by omega) hu (by omega)) ?_
    refine Hd.f (ne_nI 1 (by omega) hu (by omega)) ?_
    refine Hd.f (ne_nI 2 (by omega) hu (by omega)) ?_
    refine Hd.f (ne_nI 3 (by omega) hu (by omega)) ?_
    refine Hd.f (ne_nI 4 (by omega) hu (by omega)) ?_
    refine Hd.t (congrArg nI c) ?_
    exact ac_pick g h hT
  · rw [if_neg (show ¬ u ≤ 2 by omega), if_neg (show ¬ u = 3 by omega), if_neg (show ¬ u = 4 by omega), if_pos (show u ≤ 6 by omega)]
    refine Hd.f (ne_nI 0 (by omega) hu (by omega)) ?_
    refine Hd.f (ne_nI 1 (by omega) hu (by omega)) ?_
    refine Hd.f (ne_nI 2 (by omega) hu (by omega)) ?_
    refine Hd.f (ne_nI 3 (by omega) hu (by omega)) ?_
    refine Hd.f (ne_nI 4 (by omega) hu (by omega)) ?_
    refine Hd.f (ne_nI 5 (by omega) hu (by omega)) ?_
    refine Hd.t (congrArg nI c) ?_
    exact ac_pick g h hT
  · rw [if_neg (show ¬ u ≤ 2 by omega), if_neg (show ¬ u = 3 by omega), if_neg (show ¬ u = 4 by omega), if_neg (show ¬ u ≤ 6 by omega), if_pos (show u = 7 by omega)]
    refine Hd.f (ne_nI 0 (by omega) hu (by omega)) ?_
    refine Hd.f (ne_nI 1 (by omega) hu (by omega)) ?_
    refine Hd.f (ne_nI 2 (by omega) hu (by omega)) ?_
    refine Hd.f (ne_nI 3 (by omega) hu (by omega)) ?_
    refine Hd.f (ne_nI 4 (by omega) hu (by omega)) ?_
    refine Hd.f (ne_nI 5 (by omega) hu (by omega)) ?_
    refine Hd.f (ne_nI 6 (by omega) hu (by omega)) ?_
    refine Hd.t (congrArg nI c) ?_
    exact ac_back g h
  · rw [if_neg (show ¬ u ≤ 2 by omega), if_neg (show ¬ u = 3 by omega), if_neg (show ¬ u = 4 by omega), if_neg (show ¬ u ≤ 6 by omega), if_neg (show ¬ u = 7 by omega), if_pos (show u ≤ 9 by omega)]
    refine Hd.f (ne_nI 0 (by omega) hu (by omega)) ?_
    refine Hd.f (ne_nI 1 (by omega) hu (by omega)) ?_
    refine Hd.f (ne_nI 2 (by omega) hu (by omega)) ?_
    refine Hd.f (ne_nI 3 (by omega) hu (by omega)) ?_
    refine Hd.f (ne_nI 4 (by omega) hu (by omega)) ?_
    refine Hd.f (ne_nI 5 (by omega) hu (by omega)) ?_
    refine Hd.f (ne_nI 6 (by omega) hu (by omega)) ?_
    refine Hd.f (ne_nI 7 (by omega) hu (by omega)) ?_
    refine Hd.t (congrArg nI c) ?_
    exact ac_ast g h
  · rw [if_neg (show ¬ u ≤ 2 by omega), if_neg (show ¬ u = 3 by omega), if_neg (show ¬ u = 4 by omega), if_neg (show ¬ u ≤ 6 by omega), if_neg (show ¬ u = 7 by omega), if_pos (show u ≤ 9 by omega)]
    refine Hd.f (ne_nI 0 (by omega) hu (by omega)) ?_
    refine Hd.f (ne_nI 1 (by omega) hu (by omega)) ?_
    refine Hd.f (ne_nI 2 (by omega) hu (by omega)) ?_
    refine Hd.f (ne_nI 3 (by omega) hu (by omega)) ?_
    refine Hd.f (ne_nI 4 (by omega) hu (by omega)) ?_
    refine Hd.f (ne_nI 5 (by omega) hu (by omega)) ?_
    refine Hd.f (ne_nI 6 (by omega) hu (by omega)) ?_
    refine Hd.f (ne_nI 7 (by omega) hu (by omega)) ?_
    refine Hd.f (ne_nI 8 (by omega) hu (by omega)) ?_
    refine Hd.t (congrArg nI c) ?_
    exact ac_ast g h
  · rw [if_neg (show ¬ u ≤ 2 by omega), if_neg (show ¬ u = 3 by omega), if_neg (show ¬ u = 4 by omega), if_neg (show ¬ u ≤ 6 by omega), if_neg (show ¬ u = 7 by omega), if_neg (show ¬ u ≤ 9 by omega)]
    refine Hd.f (ne_nI 0 (by omega) hu (by omega)) ?_
    refine Hd.f (ne_nI 1 (by omega) hu (by omega)) ?_
    refine Hd.f (ne_nI 2 (by omega) hu (by omega)) ?_
    refine Hd.f (ne_nI 3 (by omega) hu (by omega)) ?_
    refine Hd.f (ne_nI 4 (by omega) hu (by omega)) ?_
    refine Hd.f (ne_nI 5 (by omega) hu (by omega)) ?_
    refine Hd.f (ne_nI 6 (by omega) hu (by omega)) ?_
    refine Hd.f (ne_nI 7 (by omega) hu (by omega)) ?_
    refine Hd.f (ne_nI 8 (by omega) hu (by omega)) ?_
    refine Hd.f (ne_nI 9 (by omega) hu (by omega)) ?_
    exact ac_stk g h
