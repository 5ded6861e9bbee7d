abbrev lsh (p : Int64) (s : Int32) : Int64 := (p.toUInt64 >>> (s.toInt64.toUInt64 &&& Int64.toUInt64 63)).toInt64
def g1 (p : Int64) : Int64 := p - (lsh p 1 &&& (6148914691236517205 : Int64))
def g2 (p : Int64) : Int64 := (p &&& (3689348814741910323 : Int64)) + (lsh p 2 &&& (3689348814741910323 : Int64))
def g3 (p : Int64) : Int64 := (p + lsh p 4) &&& (1085102592571150095 : Int64)
def g4 (p : Int64) : Int64 := p + lsh p 8
def g5 (p : Int64) : Int64 := p + lsh p 16
def g6 (p : Int64) : Int64 := p + lsh p 32
theorem j13_g (σ : Mem) (p : Int64) : J13_bitCount_95d88 σ p = some (σ, (g6 (g5 (g4 (g3 (g2 (g1 p)))))).toInt32 &&& (127 : Int32)) := rfl
theorem lsh_n {x : Nat} {s : Int32} (k : Nat) (e : s = nI k) (hx : x < 2 ^ 64) (hk : k < 64) : lsh (lN x) s = lN (x / 2 ^ k) := by
  rw [e]; exact wb_shr hx hk
theorem j13_bc (σ : Mem) {R : Nat} (hR : R < 1099511627776) : J13_bitCount_95d88 σ (lN R) = some (σ, nI (kb 40 R)) := by
  obtain ⟨z, h1, h2, h3⟩ := pop40 hR
  have a1 : (R / 2 ^ 1) &&& m5 ≤ R / 2 ^ 1 := Nat.and_le_left
  have e1 : g1 (lN R) = lN (f1 m5 R) := by
    unfold g1
    rw [lsh_n (s := 1) 1 rfl (by omega) (by omega), show (6148914691236517205 : Int64) = lN m5 from rfl, wb_and (by omega) (by decide), lN_sub (by omega)]
    rfl
  have b1 : f1 m5 R ≤ R := Nat.sub_le _ _
  have a2 : f1 m5 R &&& m3 ≤ f1 m5 R := Nat.and_le_left
  have a3 : (f1 m5 R / 4) &&& m3 ≤ f1 m5 R / 4 := Nat.and_le_left
  have e2 : g2 (lN (f1 m5 R)) = lN (f2 m3 (f1 m5 R)) := by
    unfold g2
    rw [lsh_n (s := 2) 2 rfl (by omega) (by omega), show (3689348814741910323 : Int64) = lN m3 from rfl, wb_and (by omega) (by decide), wb_and (by omega) (by decide), lN_add]
    rfl
  have b2 : f2 m3 (f1 m5 R) ≤ f1 m5 R + f1 m5 R / 4 := by unfold f2; omega
  have e3 : g3 (lN (f2 m3 (f1 m5 R))) = lN z := by
    unfold g3
    rw [lsh_n (s := 4) 4 rfl (by omega) (by omega), lN_add, show (1085102592571150095 : Int64) = lN mF from rfl, wb_and (by omega) (by decide), ← h1]
    rfl
  rw [j13_g, e1, e2, e3]
  unfold g4 g5 g6
  rw [lsh_n (s := 8) 8 rfl (by omega) (by omega), lN_add, lsh_n (s := 16) 16 rfl (by omega) (by omega), lN_add, lsh_n (s := 32) 32 rfl (by omega) (by omega), lN_add, lN_i, show (127 : Int32) = nI (2 ^ 7 - 1) from rfl, fa_mask, ← h3]
theorem kb_pac {r : Nat → Nat} : ∀ {L : Nat}, (∀ t, t < L → r t < 1024) → kb (10 * L) (pac r L) = (match L with | 0 => 0 | l + 1 => kb (10 * l) (pac r l) + kys (r l))
  | 0, _ => rfl
  | L + 1, h => by
    have h1 := pac_lt (k := L) (fun t ht => h t (by omega))
    rw [p_1024] at h1
    have := kb_add (10 * L) h1 (r L) 10
    show kb (10 * L + 10) (pac r L + r L * 1024 ^ L) = _
    rw [p_1024, Nat.mul_comm (r L)]
    exact this
/-- keys of the first strokes of a row -/
def ksum (r : Nat → Nat) : Nat → Nat
  | 0 => 0
  | k + 1 => ksum r k + kys (r k)
theorem kb_ksum {r : Nat → Nat} : ∀ {L : Nat}, (∀ t, t < L → r t < 1024) → kb (10 * L) (pac r L) = ksum r L
  | 0, _ => rfl
  | L + 1, h => by rw [kb_pac h, ksum, ← kb_ksum (L := L) (fun t ht => h t (by omega))]
theorem kb40 {r : Nat → Nat} {L : Nat} (hL : L ≤ 4) (h : ∀ t, t < L → r t < 1024) : kb 40 (pac r L) = ksum r L := by
  have h1 := pac_lt h
  rw [p_1024] at h1
  have h2 := kb_add (10 * L) h1 0 (40 - 10 * L)
  rw [Nat.mul_zero, Nat.add_zero, kb_0, Nat.add_zero, show 10 * L + (40 - 10 * L) = 40 by omega] at h2
  rw [h2, kb_ksum h]
theorem ksum_le {r : Nat → Nat} : ∀ {L : Nat}, (∀ t, t < L → r t < 1024) → ksum r L ≤ 10 * L
  | 0, _ => Nat.le_refl _
  | L + 1, h => by
    have := ksum_le (L := L) (fun t ht => h t (by omega))
    have := (kys_b (r L) (h L (by omega))).2
    rw [ksum]; omega
def en_y (E : En) (e : Nat) : Nat := ksum (en_r E e) (en_l E e)
theorem EnOk.r {E : En} (ok : EnOk E) {e : Nat} (he : e < en_m E) : ∀ t, t < en_l E e → en_r E e t < 1024 := fun t ht => ((ok.2 e he).2.1 t ht).2
theorem en_bc {E : En} (ok : EnOk E) {e : Nat} (he : e < en_m E) (σ : Mem) : J13_bitCount_95d88 σ (lN (en_k E e)) = some (σ, nI (en_y E e)) := by
  rw [j13_bc σ (ok.klt he)]
  rw [show kb 40 (en_k E e) = en_y E e from kb40 (ok.2 e he).1.2 (ok.r he)]
theorem en_len {E : En} (ok : EnOk E) {e : Nat} (he : e < en_m E) (σ : Mem) : X6_strokesOf σ (lN (en_k E e)) = some (σ, nI (en_l E e)) := by
  rw [x6_strokesOf (ok.klt he)]
  rw [show cnt (nz (en_k E e)) 4 = en_l E e from pac_cnt (fun t ht => (ok.2 e he).2.1 t ht) (ok.2 e he).1.2]
theorem en_y_le {E : En} (ok : EnOk E) {e : Nat} (he : e < en_m E) : en_y E e ≤ 40 := by
  have := ksum_le (ok.r he)
  have := (ok.2 e he).1.2
  show ksum (en_r E e) (en_l E e) ≤ 40
  omega
/-- a stroke of an entry; none -/
def en_s (E : En) (e k : Nat) : Int32 := if k < en_l E e then nI (en_r E e k) else -1
theorem en_stroke {E : En} (ok : EnOk E) {e k : Nat} (he : e < en_m E) (hk : k < 4) (σ : Mem) {β : Type} (f : Mem → Int32 → Option β) : ((X6_strokeOf σ (lN (en_k E e)) (nI k)).bind fun q => (if q.2 = 0 then f q.1 (-1 : Int32) else f q.1 q.2)) = f σ (en_s E e k) := by
  have h := (ok.2 e he).2.1
  rw [x6_strokeOf σ (ok.klt he) hk, uB]
  unfold en_s
  by_cases c : k < en_l E e
  · have := h k c
    rw [if_pos c, show en_k E e / 1024 ^ k % 1024 = en_r E e k from pac_div (ok.r he) c]
    dsimp only
    rw [if_neg (nI_ne0 (by omega) (by omega))]
  · rw [if_neg c, show en_k E e / 1024 ^ k = 0 from pac_out (ok.r he) (by omega)]
    exact if_pos rfl
/-! items -/
theorem cap62' : cap 62 = 61 := by decide +kernel
theorem cap64' : cap 64 = 61 := by decide +kernel
theorem cap66' : cap 66 = 61 := by decide +kernel
theorem cap69' : cap 69 = 61 := by decide +kernel
theorem cap71' : cap 71 = 61 := by decide +kernel
theorem cap73' : cap 73 = 61 := by decide +kernel
theorem as_t_le {a : As} {T : Nat} (ok : AsOk T a) : as_t a ≤ 60 := by
  have := items_le (itn_ok (as_E a) (as_g a) (as_N a) (as_p a))
  exact Nat.le_trans this ok.1
theorem as_pos_lt {a : As} {i : Nat} (hi : i < as_t a) : as_pos a i < as_N a := (itn_ok (as_E a) (as_g a) (as_N a) (as_p a)).2 i hi
theorem r_place {σ : Mem} {a : As} {T i : Nat} (ok : AsOk T a) (h : RdA σ 61 a) (hi : i < as_t a) : X2_placeAt 61 σ (nI i) = some (σ, nI (as_pos a i)) := by
  have := as_t_le ok
  unfold X2_placeAt
  rw [x3_at h.1 (by rw [cap62']; exact Nat.le_trans this (by omega)) (by rw [cap62']; omega) hi, uB]
theorem r_length {σ : Mem} {a : As} {T i : Nat} (ok : AsOk T a) (h : RdA σ 61 a) (hi : i < as_t a) : X2_lengthAt 61 σ (nI i) = some (σ, nI (as_sz a i)) := by
  have := as_t_le ok
  unfold X2_lengthAt
  rw [x3_at h.2.1 (by rw [cap64']; exact Nat.le_trans this (by omega)) (by rw [cap64']; omega) hi, uB]
theorem r_leader {σ : Mem} {a : As} {T i : Nat} (ok : AsOk T a) (h : RdA σ 61 a) (hi : i < as_t a) : X2_leaderAt 61 σ (nI i) = some (σ, oN (as_st a i)) := by
  have := as_t_le ok
  unfold X2_leaderAt
  rw [x3_at h.2.2 (by rw [cap66']; exact Nat.le_trans this (by omega)) (by rw [cap66']; omega) hi, uB]
theorem r_has_t {σ : Mem} {a : As} {T i : Nat} (ok : AsOk T a) (h : RdA σ 61 a) (hi : i < as_t a) : X2_has 61 σ (nI i) = some (σ, 1) := by
  have := as_t_le ok
  unfold X2_has
  rw [x3_has_t h.1 (by rw [cap62']; exact Nat.le_trans this (by omega)) (by rw [cap62']; omega) hi, uB]
  exact if_pos and1_1
theorem r_has_f {σ : Mem} {a : As} (h : RdA σ 61 a) {x : Int32} (hx : x < 0 ∨ nI (as_t a) ≤ x) : X2_has 61 σ x = some (σ, 0) := by
  unfold X2_has
  rw [x3_has_f h.1 hx, uB]
  exact if_pos and1_0
theorem StC.p {σ : Mem} {a : As} {T : Nat} (ok : AsOk T a) (h : StC σ 0 a) {pl L : Nat} (hL : L ≤ 4) (hp : pl + L ≤ as_N a) : X3_packed 1 σ (nI pl) (nI L) = some (σ, lN (pac (shf (as_p a) pl) L)) :=
  x3_packed (q := shf (as_p a) pl) hL h.1 (by rw [cap1']; exact ok.1) (by rw [cap1']; omega) hp (fun t ht => ⟨rfl, (ok.2.1 (pl + t) (by omega)).2⟩)
theorem as_sz_b {a : As} {T i : Nat} (ok : AsOk T a) (hi : i < as_t a) : as_sz a i ≤ 4 ∧ as_pos a i + as_sz a i ≤ as_N a := ⟨szf_4 ok.2.2.2.2.1.2, szf_N (as_pos_lt hi)⟩
def it_k (a : As) (i : Nat) : Nat := pac (shf (as_p a) (as_pos a i)) (as_sz a i)
theorem it_k_lt {a : As} {T i : Nat} (ok : AsOk T a) (hi : i < as_t a) : it_k a i < 1099511627776 := pac_lt4 (as_sz_b ok hi).1 (fun t ht => (ok.2.1 _ (by have := (as_sz_b ok hi).2; omega)).2)
theorem r_rowOf {σ : Mem} {a : As} {T i : Nat} (ok : AsOk T a) (ha : StC σ 0 a) (h : RdA σ 61 a) (hi : i < as_t a) : X6_rowOfItem σ (nI i) = some (σ, lN (it_k a i)) := by
  unfold X6_rowOfItem
  rw [r_place ok h hi, uB, r_length ok h hi, uB]
  dsimp only
  rw [ha.p ok (as_sz_b ok hi).1 (as_sz_b ok hi).2, uB]
  rfl
/-- what is told of an item -/
def itAns (a : As) (i what : Nat) : Int32 := if what = 0 then oN ((as_st a i).map (en_w (as_E a))) else if what = 1 then nI (as_pos a i) else if what = 2 then nI (as_sz a i) else if what = 3 then oN (as_st a i) else nI (cnt (fun t => decide (en_k (as_E a) t = it_k a i)) (en_m (as_E a)))
theorem as_st_m {a : As} {i : Nat} {e : Nat} (h : as_st a i = some e) : e < en_m (as_E a) := (ldr_some h).1
theorem x6_itemNumber {σ : Mem} {a : As} {T i what : Nat} (ok : AsOk T a) (ha : StC σ 0 a) (h : RdA σ 61 a) (hi : i < as_t a) (hw : what < 5) : X6_itemNumber σ (nI i) (nI what) = some (σ, itAns a i what) := by
  unfold X6_itemNumber itAns
  rcases (show what = 0 ∨ what = 1 ∨ what = 2 ∨ what = 3 ∨ what = 4 by omega) with c | c | c | c | c <;> subst c
  · rw [if_pos (show nI 0 = 0 from rfl), r_leader ok h hi, uB, x0_wordOf_o ha.2.1 ok.2.2.1 (fun e he => as_st_m he), uB]; rfl
  · rw [if_neg (show ¬ nI 1 = 0 by decide), if_pos (show nI 1 = 1 from rfl), r_place ok h hi, uB]; rfl
  · rw [if_neg (show ¬ nI 2 = 0 by decide), if_neg (show ¬ nI 2 = 1 by decide), if_pos (show nI 2 = 2 from rfl), r_length ok h hi, uB]; rfl
  · rw [if_neg (show ¬ nI 3 = 0 by decide), if_neg (show ¬ nI 3 = 1 by decide), if_neg (show ¬ nI 3 = 2 by decide), if_pos (show nI 3 = 3 from rfl), r_leader ok h hi, uB]; rfl
  · rw [if_neg (show ¬ nI 4 = 0 by decide), if_neg (show ¬ nI 4 = 1 by decide), if_neg (show ¬ nI 4 = 2 by decide), if_neg (show ¬ nI 4 = 3 by decide), r_rowOf ok ha h hi, uB]
    dsimp only
    have := it_k_lt ok hi
    rw [x0_rivals ha.2.1 ok.2.2.1 (by omega), uB]; rfl
