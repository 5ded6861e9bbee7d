/-! THE LAW'S OWN METHODS: over any memory that holds the class's world -/
def Gd (σ : Mem) (w : Wd) : Prop := ClP σ w ∧ ClS σ
/-- a walk that ends, and how -/
def Hd {α : Type} (Q : α → Prop) (m : Option α) : Prop := ∃ o, m = some o ∧ Q o
theorem Hd.i {α : Type} {Q : α → Prop} {a : α} (h : Q a) : Hd Q (some a) := ⟨a, rfl, h⟩
theorem Hd.t {α : Type} {Q : α → Prop} {c : Prop} [Decidable c] {a b : Option α} (hc : c) (h : Hd Q a) : Hd Q (if c then a else b) := by rw [if_pos hc]; exact h
theorem Hd.f {α : Type} {Q : α → Prop} {c : Prop} [Decidable c] {a b : Option α} (hc : ¬ c) (h : Hd Q b) : Hd Q (if c then a else b) := by rw [if_neg hc]; exact h
theorem Hd.s {α : Type} {Q : α → Prop} {c : Prop} [Decidable c] {a b : Option α} (h1 : c → Hd Q a) (h2 : ¬ c → Hd Q b) : Hd Q (if c then a else b) := by
  by_cases hc : c
  · exact Hd.t hc (h1 hc)
  · exact Hd.f hc (h2 hc)
theorem Hd.b {α β : Type} {Q : β → Prop} {m : Option α} {x : α} {f : α → Option β} (e : m = some x) (h : Hd Q (f x)) : Hd Q (m.bind f) := by rw [e]; exact h
theorem Hd.x {α β : Type} {P : α → Prop} {Q : β → Prop} {m : Option α} {f : α → Option β} (h : Hd P m) (k : ∀ o, P o → Hd Q (f o)) : Hd Q (m.bind f) := by
  obtain ⟨o, e, hp⟩ := h
  exact Hd.b e (k o hp)
theorem Hd.m {α : Type} {P Q : α → Prop} {m : Option α} (h : Hd P m) (k : ∀ o, P o → Q o) : Hd Q m := by
  obtain ⟨o, e, hp⟩ := h
  exact ⟨o, e, k o hp⟩
theorem Hd.r {α : Type} {Q : α → Prop} {m m' : Option α} (e : m = m') (h : Hd Q m') : Hd Q m := e ▸ h
section CALLS
variable {β : Type} {Q : β → Prop} {σ : Mem} {w : Wd} {T : Nat} {f : Mem × Int32 → Option β}
theorem yc_ans {m : Option (Mem × (Int32 ⊕ Nat))} {w' : Wd} {v : Int32} (h : Ans m σ w' (Sum.inl v)) (k : ∀ σ', Gd σ' w' → Hd Q (f (σ', v))) : Hd Q ((xlv m).bind f) := by
  obtain ⟨σ', e, h1, h2, -⟩ := h
  exact Hd.b (x := (σ', v)) (by rw [e]; rfl) (k σ' ⟨h1, h2⟩)
theorem yc_ans1 {m : Option (Mem × Int32)} {w' : Wd} {v : Int32} (h : Ans1 m σ w' v) (k : ∀ σ', Gd σ' w' → Hd Q (f (σ', v))) : Hd Q (m.bind f) := by
  obtain ⟨σ', e, h1, h2, -⟩ := h
  exact Hd.b e (k σ' ⟨h1, h2⟩)
theorem yc_c (g : Gd σ w) (ok : AsOk T (w_a w)) {what : Nat} {x v : Int32} (hx : x = nI what) (hw : what ≤ 9) (hv : coAns w what = v) (k : ∀ σ', Gd σ' w → Hd Q (f (σ', v))) : Hd Q ((xlv (X6_count σ x)).bind f) := by
  subst hx; subst hv
  exact yc_ans (q_count g.1 g.2 ok hw) k
theorem yc_c0 (g : Gd σ w) (ok : AsOk T (w_a w)) (k : ∀ σ', Gd σ' w → Hd Q (f (σ', nI (as_N (w_a w))))) : Hd Q ((xlv (X6_count σ (0 : Int32))).bind f) := yc_c g ok (what := 0) rfl (by omega) rfl k
theorem yc_c1 (g : Gd σ w) (ok : AsOk T (w_a w)) (k : ∀ σ', Gd σ' w → Hd Q (f (σ', nI (as_t (w_a w))))) : Hd Q ((xlv (X6_count σ (1 : Int32))).bind f) := yc_c g ok (what := 1) rfl (by omega) rfl k
theorem yc_c2 (g : Gd σ w) (ok : AsOk T (w_a w)) (k : ∀ σ', Gd σ' w → Hd Q (f (σ', nI (as_t (w_a w))))) : Hd Q ((xlv (X6_count σ (2 : Int32))).bind f) := yc_c g ok (what := 2) rfl (by omega) rfl k
theorem yc_c3 (g : Gd σ w) (ok : AsOk T (w_a w)) (k : ∀ σ', Gd σ' w → Hd Q (f (σ', nI (stN (w_a w) (-1))))) : Hd Q ((xlv (X6_count σ (3 : Int32))).bind f) := yc_c g ok (what := 3) rfl (by omega) rfl k
theorem yc_c4 (g : Gd σ w) (ok : AsOk T (w_a w)) (k : ∀ σ', Gd σ' w → Hd Q (f (σ', nI (en_m (as_E (w_a w)))))) : Hd Q ((xlv (X6_count σ (4 : Int32))).bind f) := yc_c g ok (what := 4) rfl (by omega) rfl k
theorem yc_c5 (g : Gd σ w) (ok : AsOk T (w_a w)) (k : ∀ σ', Gd σ' w → Hd Q (f (σ', nI (as_k (w_a w))))) : Hd Q ((xlv (X6_count σ (5 : Int32))).bind f) := yc_c g ok (what := 5) rfl (by omega) rfl k
theorem yc_c6 (g : Gd σ w) (ok : AsOk T (w_a w)) (k : ∀ σ', Gd σ' w → Hd Q (f (σ', as_e (w_a w)))) : Hd Q ((xlv (X6_count σ (6 : Int32))).bind f) := yc_c g ok (what := 6) rfl (by omega) rfl k
theorem yc_c9 (g : Gd σ w) (ok : AsOk T (w_a w)) (k : ∀ σ', Gd σ' w → Hd Q (f (σ', nI (w_v w).1))) : Hd Q ((xlv (X6_count σ (9 : Int32))).bind f) := yc_c g ok (what := 9) rfl (by omega) rfl k
theorem yc_st (g : Gd σ w) (ok : AsOk T (w_a w)) {j : Nat} {x : Int32} (hx : x = nI j) (hj : j < as_N (w_a w)) (k : ∀ σ', Gd σ' w → Hd Q (f (σ', nI (as_p (w_a w) j)))) : Hd Q ((xlv (X6_stroke σ x)).bind f) := by
  subst hx
  exact yc_ans (Ans.ex g.1 g.2 (q_stroke g.1 ok hj)) k
theorem yc_it (g : Gd σ w) (ok : AsOk T (w_a w)) {i what : Nat} {x y v : Int32} (hx : x = nI i) (hi : i < as_t (w_a w)) (hy : y = nI what) (hw : what ≤ 4) (hv : itAns (w_a w) i what = v) (k : ∀ σ', Gd σ' w → Hd Q (f (σ', v))) : Hd Q ((xlv (X6_item σ x y)).bind f) := by
  subst hx; subst hy; subst hv
  exact yc_ans (q_item g.1 g.2 ok hi hw) k
theorem yc_en (g : Gd σ w) (ok : AsOk T (w_a w)) {e what : Nat} {x y v : Int32} (hx : x = nI e) (he : e < en_m (as_E (w_a w))) (hy : y = nI what) (hw : what ≤ 9) (hv : enAns (w_a w) e what = v) (k : ∀ σ', Gd σ' w → Hd Q (f (σ', v))) : Hd Q ((xlv (X6_entry σ x y)).bind f) := by
  subst hx; subst hy; subst hv
  exact yc_ans (q_entry g.1 g.2 ok he hw) k
theorem yc_s0 (g : Gd σ w) (k : ∀ σ', Gd σ' w → Hd Q (f (σ', nI (as_s (w_a w))))) : Hd Q ((xlv (X6_setting σ (0 : Int32))).bind f) := yc_ans (v := nI (asGet (w_a w) 0)) (Ans.ex g.1 g.2 (q_setting (i := 0) g.1 (by omega))) k
theorem yc_s1 (g : Gd σ w) (k : ∀ σ', Gd σ' w → Hd Q (f (σ', nI (as_g (w_a w))))) : Hd Q ((xlv (X6_setting σ (1 : Int32))).bind f) := yc_ans (v := nI (asGet (w_a w) 1)) (Ans.ex g.1 g.2 (q_setting (i := 1) g.1 (by omega))) k
theorem yc_if (g : Gd σ w) (ok : AsOk T (w_a w)) {s what : Nat} {x y : Int32} (hx : x = nI s) (hs : 1 ≤ s ∧ s < 1024) (hy : y = nI what) (hw : what ≤ 2) (k : ∀ σ', Gd σ' w → Hd Q (f (σ', ifAns (w_a w) s what))) : Hd Q ((xlv (X6_ifStruck σ x y)).bind f) := by
  subst hx; subst hy
  exact yc_ans (q_if g.1 g.2 ok hs hw).1 k
theorem yc_be (g : Gd σ w) (ok : AsOk T (w_a w)) {s : Nat} {x : Int32} (hx : x = nI s) (hs : 1 ≤ s ∧ s ≤ 3) (k : ∀ σ', Gd σ' w → Hd Q (f (σ', nI (beAns (w_a w) s)))) : Hd Q ((xlv (X6_begun σ x)).bind f) := by
  subst hx
  exact yc_ans (Ans.ex g.1 g.2 (q_begun g.1 ok hs)) k
theorem yc_sh (g : Gd σ w) (ok : AsOk T (w_a w)) {wd : Nat} {x : Int32} (hx : x = nI wd) (hw : wd ≤ 99) (k : ∀ σ', Gd σ' w → Hd Q (f (σ', oN (shF (w_a w) wd (en_m (as_E (w_a w))))))) : Hd Q ((xlv (X6_shortest σ x)).bind f) := by
  subst hx
  exact yc_ans (Ans.ex g.1 g.2 (q_shortest g.1 ok hw)) k
theorem yc_bh (g : Gd σ w) (ok : AsOk T (w_a w)) {a b : Nat} {x y : Int32} (hx : x = nI a) (ha : a < en_m (as_E (w_a w))) (hy : y = nI b) (hb : b < en_m (as_E (w_a w))) (k : ∀ σ', Gd σ' w → Hd Q (f (σ', nI (bhV (as_E (w_a w)) (as_g (w_a w)) a b)))) : Hd Q ((xlv (X6_behind σ x y)).bind f) := by
  subst hx; subst hy
  exact yc_ans (q_behind g.1 g.2 ok ha hb) k
theorem yc_cl (g : Gd σ w) (ok : AsOk T (w_a w)) (k : ∀ σ', Gd σ' w → Hd Q (f (σ', nI (clAns (w_a w))))) : Hd Q ((X6_clashes σ).bind f) := yc_ans1 (q_clashes g.1 g.2 ok) k
theorem yc_le (g : Gd σ w) (ok : AsOk T (w_a w)) (k : ∀ σ' x, LeastIs (w_a w) x → x ≤ 60 → Gd σ' w → Hd Q (f (σ', nI x))) : Hd Q ((X6_least σ).bind f) := by
  obtain ⟨x, h1, h2, h3⟩ := q_least g.1 g.2 ok
  exact yc_ans1 h3 (fun σ' g' => k σ' x h1 h2 g')
theorem yc_rs {f : Mem × UInt64 → Option β} (g : Gd σ w) (ok : AsOk T (w_a w)) (k : ∀ σ', Gd σ' w → Hd Q (f (σ', shAns (w_a w)))) : Hd Q ((X6_readShare σ).bind f) := by
  obtain ⟨σ', e, h1, h2, -⟩ := q_share g.1 g.2 ok
  exact Hd.b e (k σ' ⟨h1, h2⟩)
theorem yc_mk {f : Mem × UInt32 → Option β} (g : Gd σ w) (ok : AsOk T (w_a w)) (hT : T ≤ 512) (k : Hd Q (f (σ, meAns (w_a w)))) : Hd Q ((X6_meanKeys σ).bind f) := Hd.b (x6_meanKeys ok hT g.1.1) k
theorem yc_strike (g : Gd σ w) (ok : AsOk T (w_a w)) {s : Nat} {x : Int32} (hx : x = nI s) (hs : s < 1024) (hc : canS (w_a w) s = true) (hk : as_k (w_a w) + 1 ≤ 30 * T) (k : ∀ σ', Gd σ' (wA (wPush w) (asStk (w_a w) s)) → Hd Q (f (σ', nI (as_t (asStk (w_a w) s))))) : Hd Q ((xlv (X6_strike σ x)).bind f) := by
  subst hx
  exact yc_ans (q_strike g.1 g.2 ok hs hc hk) k
theorem yc_tear (g : Gd σ w) (ok : AsOk T (w_a w)) (k : ∀ σ', Gd σ' (wA (wPush w) (asTear (w_a w))) → Hd Q (f (σ', nI (as_N (w_a w))))) : Hd Q ((X6_tear σ).bind f) := yc_ans1 (q_tear g.1 g.2 ok) k
theorem yc_pick (g : Gd σ w) (ok : AsOk T (w_a w)) {i e : Nat} {x y : Int32} (hx : x = nI i) (hi : i < as_t (w_a w)) (hy : y = nI e) (he : e < en_m (as_E (w_a w))) (hk : it_k (w_a w) i = en_k (as_E (w_a w)) e) (k : ∀ σ', Gd σ' (wA (wPush w) (asE (w_a w) (enPick (as_E (w_a w)) e))) → Hd Q (f (σ', nI (en_p (as_E (w_a w)) e + 1)))) : Hd Q ((xlv (X6_pick σ x y)).bind f) := by
  subst hx; subst hy
  exact yc_ans (q_pick g.1 g.2 ok hi he hk) k
theorem yc_remove (g : Gd σ w) (ok : AsOk T (w_a w)) {e : Nat} {x : Int32} (hx : x = nI e) (he : e < en_m (as_E (w_a w))) (k : ∀ σ', Gd σ' (wA (wPush w) (asE (w_a w) (enTake (as_E (w_a w)) e))) → Hd Q (f (σ', nI (en_m (as_E (w_a w)) - 1)))) : Hd Q ((xlv (X6_remove σ x)).bind f) := by
  subst hx
  exact yc_ans (q_remove g.1 g.2 ok he) k
theorem yc_set (g : Gd σ w) (ok : AsOk T (w_a w)) {i v : Nat} {x y : Int32} (hx : x = nI i) (hi : i ≤ 1) (hy : y = nI v) (h1 : i ≤ v) (h2 : v ≤ (if i = 0 then 1 else 4)) (k : ∀ σ', Gd σ' (wA (wPush w) (asSet (w_a w) i v)) → Hd Q (f (σ', nI (asGet (w_a w) i)))) : Hd Q ((xlv (X6_set σ x y)).bind f) := by
  subst hx; subst hy
  exact yc_ans (q_set g.1 g.2 ok hi h1 h2) k
theorem yc_append (g : Gd σ w) {c : Nat} {x : Int32} (hx : x = nI c) (hc : 33 ≤ c ∧ c ≤ 126) (hn : w_n w < 60) (k : ∀ σ', Gd σ' (wT w (w_n w + 1) (updn (w_t w) (w_n w) c)) → Hd Q (f (σ', nI (w_n w + 1)))) : Hd Q ((xlv (X6_append σ x)).bind f) := by
  subst hx
  exact yc_ans (q_append g.1 g.2 hc hn) k
theorem yc_clear (g : Gd σ w) (hn : w_n w ≤ 60) (k : ∀ σ', Gd σ' (wT w 0 (w_t w)) → Hd Q (f (σ', nI (w_n w)))) : Hd Q ((X6_clearBuffer σ).bind f) := yc_ans1 (q_clear g.1 g.2 hn) k
theorem yc_keep (g : Gd σ w) (ok : AsOk T (w_a w)) (k : ∀ σ', Gd σ' (wKeep w) → Hd Q (f (σ', nI (as_N (w_a w))))) : Hd Q ((X6_keep σ).bind f) := yc_ans1 (q_keep g.1 g.2 ok) k
theorem yc_goBack (g : Gd σ w) (ok : AsOk T (w_a w)) (hk : w_k w = true) (ok2 : AsOk T (w_s w)) (k : ∀ σ', Gd σ' (wA (wPush w) (w_s w)) → Hd Q (f (σ', nI (as_N (w_s w))))) : Hd Q ((xlv (X6_goBack σ)).bind f) := yc_ans (q_goBack g.1 g.2 ok hk ok2) k
theorem yc_undo (g : Gd σ w) (hn : 0 < (w_v w).1) (ok : AsOk T ((w_v w).2 ((w_v w).1 - 1))) (k : ∀ σ', Gd σ' (wPop w) → Hd Q (f (σ', nI ((w_v w).1 - 1)))) : Hd Q ((xlv (X6_undo σ)).bind f) := yc_ans (q_undo g.1 g.2 hn ok) k
/-- a number of the script, made small -/
def upn (p : Int32) (n : Nat) : Nat := p.toBitVec.toNat % 2147483648 % n
theorem upn_lt {p : Int32} {n : Nat} (h : 0 < n) : upn p n < n := Nat.mod_lt _ h
theorem up_e (σ : Mem) (p : Int32) {n : Nat} (h0 : 0 < n) (h : n < 2147483648) : L_up σ p (nI n) = some (σ, nI (upn p n)) := by
  unfold L_up
  rw [if_pos (nI_ne0 h0 h), pk_and p (m := (2147483647 : Int32)) 31 (by decide), pk_rem (Nat.mod_lt _ (by decide)) h0 h]
  rfl
theorem yc_up {n : Nat} {p x : Int32} (hx : x = nI n) (h0 : 0 < n) (h : n < 2147483648) (k : Hd Q (f (σ, nI (upn p n)))) : Hd Q ((L_up σ p x).bind f) := by
  subst hx
  exact Hd.b (up_e σ p h0 h) k
end CALLS
