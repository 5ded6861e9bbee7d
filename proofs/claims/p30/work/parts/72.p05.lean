/-! types: a row of strokes is typed, and read as it was meant -/
def Rn (n : Nat) (t : Nat → Nat) (s m k : Nat) (tl : Nat → Nat) : Prop := ∀ (N : Nat) (t' : Nat → Nat) (r : Nat), N = n + r → (∀ j, j < n → t' j = t j) → cpr N t' N 0 0 0 0 (fun _ => 0) = cpr N t' r n s m k tl
theorem Rn.z (t : Nat → Nat) : Rn 0 t 0 0 0 (fun _ => 0) := fun N t' r hN _ => by
  have : N = r := by omega
  subst this
  rfl
theorem Rn.key {n s m k c s' : Nat} {t tl : Nat → Nat} (h : Rn n t s m k tl) (hs : stp s c = some s') (h0 : s' ≠ 0) (h11 : s' ≠ 11) : Rn (n + 1) (updn t n c) s' (m + 2 ^ (s' - 1)) k tl := fun N t' r hN ht => by
  rw [h N t' (r + 1) (by omega) (fun j hj => (ht j (by omega)).trans (updn_o _ _ (by omega))), cpr, (ht n (by omega)).trans (updn_1 _ _ _), hs]
  dsimp only
  rw [if_neg h0, if_neg h11]
theorem Rn.slash {n s m k : Nat} {t tl : Nat → Nat} (h : Rn n t s m k tl) (h0 : s ≠ 0) : Rn (n + 1) (updn t n 47) 0 0 (k + 1) (updn tl k m) := fun N t' r hN ht => by
  have hs : stp s 47 = some 0 := by unfold stp; rw [if_pos rfl, if_neg h0]
  rw [h N t' (r + 1) (by omega) (fun j hj => (ht j (by omega)).trans (updn_o _ _ (by omega))), cpr, (ht n (by omega)).trans (updn_1 _ _ _), hs]
  dsimp only
  rw [if_pos rfl]
theorem Rn.fin {n s m k : Nat} {t tl : Nat → Nat} (h : Rn n t s m k tl) (hs : s ≠ 0) : tRead n t = (true, n, k + 1, updn tl k m) := by
  unfold tRead
  rw [h n t 0 rfl (fun _ _ => rfl), cpr, decide_eq_true hs]
def strT (x : Int32) : Nat → Nat → Nat
  | 0 => fun _ => 0
  | k + 1 => updn (strT x k) k (sk x k)
theorem strT_at {x : Int32} : ∀ {n j : Nat}, j < n → strT x n j = sk x j
  | 0, j, h => absurd h (by omega)
  | n + 1, j, h => by
    rw [strT]
    by_cases c : j = n
    · rw [c, updn_1]
    · rw [updn_o _ _ c]; exact strT_at (by omega)
theorem TxOk.ap {n c : Nat} {t : Nat → Nat} (h : TxOk n t) (hn : n < 60) (hc : 33 ≤ c ∧ c ≤ 126) : TxOk (n + 1) (updn t n c) := ⟨by omega, fun j hj => by
  by_cases e : j = n
  · rw [e, updn_1]; exact hc
  · rw [updn_o _ _ e]; exact h.2 j (by omega)⟩
theorem ty_ap {β : Type} {Q : β → Prop} {f : Mem × Int32 → Option β} {σ : Mem} {w : Wd} {n s m k c s' : Nat} {t tl : Nat → Nat} {x : Int32} (g : Gd σ (wT w n t)) (hr : Rn n t s m k tl) (hx : TxOk n t) (hn : n < 60) (hxc : x = nI c) (hc : 33 ≤ c ∧ c ≤ 126) (hs : stp s c = some s') (h0 : s' ≠ 0) (h11 : s' ≠ 11) (kk : ∀ σ', Gd σ' (wT w (n + 1) (updn t n c)) → Rn (n + 1) (updn t n c) s' (m + 2 ^ (s' - 1)) k tl → TxOk (n + 1) (updn t n c) → Hd Q (f (σ', nI (n + 1)))) : Hd Q ((xlv (X6_append σ x)).bind f) :=
  yc_append g hxc hc hn (fun σ' g' => kk σ' g' (hr.key hs h0 h11) (hx.ap hn hc))
theorem ty_44 {Q : Mem × Int32 → Prop} {σ : Mem} {w : Wd} {n k b : Nat} {t tl : Nat → Nat} (K : Mem → Int32 → Option (Mem × Int32)) (rc : Mem → Int32 → Int32 → Int32 → Int32 → Option (Mem × Int32)) (hb : 1 ≤ b ∧ b ≤ 7) (hr : Rn n t 0 0 k tl) (hx : TxOk n t) (hn : n + 3 ≤ 60) (g : Gd σ (wT w n t)) {v1 v2 v4 s0 : Int32} (hrc : ∀ (σ' : Mem) (n' : Nat) (t' : Nat → Nat) (s : Nat), Gd σ' (wT w n' t') → Rn n' t' s b k tl → TxOk n' t' → s ≠ 0 → n < n' ∧ n' ≤ n + 3 → Hd Q (rc σ' v1 v2 (nI n') (v4 + 1))) : Hd Q (L_types_44 K rc σ v1 v2 v4 (nI b) s0) := by
  have h7 : b = 1 ∨ b = 2 ∨ b = 3 ∨ b = 4 ∨ b = 5 ∨ b = 6 ∨ b = 7 := by omega
  rcases h7 with rfl | rfl | rfl | rfl | rfl | rfl | rfl
  · unfold L_types_44 L_types_63
    refine Hd.t (by decide) ?_
    refine ty_ap (c := 115) (s' := 1) g hr hx (by omega) rfl (by decide) (by decide) (by decide) (by decide) (fun σ1 g1 r1 x1 => ?_)
    refine Hd.f (by decide) ?_
    refine Hd.f (by decide) ?_
    exact hrc _ _ _ 1 g1 r1 x1 (by decide) ⟨by omega, by omega⟩
  · unfold L_types_44 L_types_63
    refine Hd.f (by decide) ?_
    refine Hd.t (by decide) ?_
    refine ty_ap (c := 116) (s' := 2) g hr hx (by omega) rfl (by decide) (by decide) (by decide) (by decide) (fun σ1 g1 r1 x1 => ?_)
    refine Hd.f (by decide) ?_
    exact hrc _ _ _ 2 g1 r1 x1 (by decide) ⟨by omega, by omega⟩
  · unfold L_types_44 L_types_63
    refine Hd.t (by decide) ?_
    refine ty_ap (c := 115) (s' := 1) g hr hx (by omega) rfl (by decide) (by decide) (by decide) (by decide) (fun σ1 g1 r1 x1 => ?_)
    refine Hd.t (by decide) ?_
    refine ty_ap (c := 116) (s' := 2) g1 r1 x1 (by omega) rfl (by decide) (by decide) (by decide) (by decide) (fun σ2 g2 r2 x2 => ?_)
    refine Hd.f (by decide) ?_
    exact hrc _ _ _ 2 g2 r2 x2 (by decide) ⟨by omega, by omega⟩
  · unfold L_types_44 L_types_63
    refine Hd.f (by decide) ?_
    refine Hd.f (by decide) ?_
    refine Hd.t (by decide) ?_
    refine ty_ap (c := 107) (s' := 3) g hr hx (by omega) rfl (by decide) (by decide) (by decide) (by decide) (fun σ1 g1 r1 x1 => ?_)
    exact hrc _ _ _ 3 g1 r1 x1 (by decide) ⟨by omega, by omega⟩
  · unfold L_types_44 L_types_63
    refine Hd.t (by decide) ?_
    refine ty_ap (c := 115) (s' := 1) g hr hx (by omega) rfl (by decide) (by decide) (by decide) (by decide) (fun σ1 g1 r1 x1 => ?_)
    refine Hd.f (by decide) ?_
    refine Hd.t (by decide) ?_
    refine ty_ap (c := 107) (s' := 3) g1 r1 x1 (by omega) rfl (by decide) (by decide) (by decide) (by decide) (fun σ2 g2 r2 x2 => ?_)
    exact hrc _ _ _ 3 g2 r2 x2 (by decide) ⟨by omega, by omega⟩
  · unfold L_types_44 L_types_63
    refine Hd.f (by decide) ?_
    refine Hd.t (by decide) ?_
    refine ty_ap (c := 116) (s' := 2) g hr hx (by omega) rfl (by decide) (by decide) (by decide) (by decide) (fun σ1 g1 r1 x1 => ?_)
    refine Hd.t (by decide) ?_
    refine ty_ap (c := 107) (s' := 3) g1 r1 x1 (by omega) rfl (by decide) (by decide) (by decide) (by decide) (fun σ2 g2 r2 x2 => ?_)
    exact hrc _ _ _ 3 g2 r2 x2 (by decide) ⟨by omega, by omega⟩
  · unfold L_types_44 L_types_63
    refine Hd.t (by decide) ?_
    refine ty_ap (c := 115) (s' := 1) g hr hx (by omega) rfl (by decide) (by decide) (by decide) (by decide) (fun σ1 g1 r1 x1 => ?_)
    refine Hd.t (by decide) ?_
    refine ty_ap (c := 116) (s' := 2) g1 r1 x1 (by omega) rfl (by decide) (by decide) (by decide) (by decide) (fun σ2 g2 r2 x2 => ?_)
    refine Hd.t (by decide) ?_
    refine ty_ap (c := 107) (s' := 3) g2 r2 x2 (by omega) rfl (by decide) (by decide) (by decide) (by decide) (fun σ3 g3 r3 x3 => ?_)
    exact hrc _ _ _ 3 g3 r3 x3 (by decide) ⟨by omega, by omega⟩
theorem ty_8 {Q : Mem × Int32 → Prop} {w : Wd} {q : Nat} {x : Int32} (hq : q ≤ 3) (K : Mem → Int32 → Option (Mem × Int32)) (hK : ∀ (σ' : Mem) (n' : Nat) (t' : Nat → Nat) (s' : Nat), Gd σ' (wT w n' t') → Rn n' t' s' (sk x q) q (strT x q) → s' ≠ 0 → TxOk n' t' → 1 ≤ n' → Hd Q (K σ' (nI n'))) : ∀ (r k fu : Nat) (σ : Mem) (n : Nat) (t : Nat → Nat) (s : Nat), k + r = q → r < fu → Gd σ (wT w n t) → Rn n t s (sk x k) k (strT x k) → s ≠ 0 → TxOk n t → n ≤ 4 * (k + 1) → 1 ≤ n → Hd Q (L_types_8 K fu σ (nI (q + 1)) x (nI n) (nI (k + 1)))
  | r, k, 0, _, _, _, _, _, h, _, _, _, _, _, _ => absurd h (by omega)
  | 0, k, fu + 1, σ, n, t, s, h1, _, g, hr, hs, hx, hn, hn1 => by
    have e : k = q := by omega
    subst e
    rw [L_types_8]
    refine Hd.t (nI_le (by omega) (by omega)) ?_
    exact hK σ n t s g hr hs hx hn1
  | r + 1, k, fu + 1, σ, n, t, s, h1, hf, g, hr, hs, hx, hn, hn1 => by
    rw [L_types_8]
    refine Hd.f (nI_ge (by omega) (by omega)) ?_
    refine yc_up (n := 7) rfl (by omega) (by omega) ?_
    refine Hd.f (nI_nle (by omega) (by omega)) ?_
    refine yc_append g (c := 47) rfl (by decide) (show n < 60 by omega) (fun σ2 g2 => ?_)
    have g2 : Gd σ2 (wT w (n + 1) (updn t n 47)) := g2
    show Hd Q (L_types_44 K (L_types_8 K fu) σ2 (nI (q + 1)) x (nI (k + 1)) (nI 1 + nI (upn (x >>> (((2 : Int32) * nI (k + 1)) &&& 31)) 7)) (nI (n + 1)))
    rw [nI_add]
    have hr2 : Rn (n + 1) (updn t n 47) 0 0 (k + 1) (strT x (k + 1)) := hr.slash hs
    have hx2 := hx.ap (c := 47) (by omega) (by decide)
    refine ty_44 (b := sk x (k + 1)) K _ (sk_b x (k + 1)) hr2 hx2 (by omega) g2 (fun σ3 n3 t3 s3 g3 r3 x3 hs3 hn3 => ?_)
    rw [nI_1]
    exact ty_8 hq K hK r (k + 1) fu σ3 n3 t3 s3 (by omega) (by omega) g3 r3 hs3 x3 (by omega) (by omega)
/-- behind the typing: the text tells the strokes -/
def TyQ (w : Wd) (x : Int32) (ns : Nat) (o : Mem × Int32) : Prop := ∃ (n : Nat) (t : Nat → Nat), 1 ≤ n ∧ n ≤ 60 ∧ o.2 = nI n ∧ Gd o.1 (wT w n t) ∧ TxOk n t ∧ tRead n t = (true, n, ns, strT x ns)
theorem ty_e {σ : Mem} {w : Wd} {q : Nat} {x : Int32} (g : Gd σ w) (hx : TxOk (w_n w) (w_t w)) (hq : q ≤ 3) : Hd (TyQ w x (q + 1)) (L_types σ (nI (q + 1)) x) := by
  unfold L_types
  refine yc_clear g hx.1 (fun σ1 g1 => ?_)
  have hx0 : TxOk 0 (w_t w) := ⟨by omega, fun j hj => absurd hj (by omega)⟩
  rw [show FU = 999 + 1 from rfl, L_types_8]
  refine Hd.f (show ¬ nI (q + 1) ≤ nI 0 from nI_ge (by omega) (by omega)) ?_
  refine yc_up (n := 7) rfl (by omega) (by omega) ?_
  refine Hd.t (by decide) ?_
  show Hd _ (L_types_44 _ _ σ1 (nI (q + 1)) x (0 : Int32) (nI 1 + nI (upn (x >>> (((2 : Int32) * nI 0) &&& 31)) 7)) _)
  rw [nI_add]
  refine ty_44 (b := sk x 0) (k := 0) (tl := strT x 0) _ _ (sk_b x 0) (Rn.z (w_t w)) hx0 (by omega) g1 (fun σ3 n3 t3 s3 g3 r3 x3 hs3 hn3 => ?_)
  refine ty_8 hq _ (fun σ' n' t' s' g' r' hs' x' hn' => ?_) q 0 999 σ3 n3 t3 s3 (by omega) (by omega) g3 r3 hs3 x3 (by omega) (by omega)
  exact Hd.i ⟨n', t', hn', x'.1, rfl, g', x', r'.fin hs'⟩
