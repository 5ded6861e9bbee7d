theorem ten_sh : ∀ k, k < 4 → ((10 : Int32) * nI k).toInt64 &&& 63 = lN (10 * k) := by decide +kernel
theorem lN_l (n : Nat) (h : n < 2 ^ 31) : (nI n).toInt64 = lN n := nI_l h
theorem sh_l (n k : Nat) (hk : k < 64) : lN n <<< lN k = lN (n * 2 ^ k) := by
  have h1 : (lN k).toBitVec.smod 64 = BitVec.ofNat 64 k := by
    have : ∀ k, k < 64 → (BitVec.ofNat 64 k).smod 64 = BitVec.ofNat 64 k := by decide +kernel
    exact this k hk
  apply Int64.toBitVec_inj.mp
  show (lN n).toBitVec <<< ((lN k).toBitVec.smod 64) = BitVec.ofNat 64 (n * 2 ^ k)
  rw [h1]
  apply BitVec.eq_of_toNat_eq
  rw [BitVec.shiftLeft_eq', BitVec.toNat_shiftLeft, BitVec.toNat_ofNat, BitVec.toNat_ofNat, Nat.shiftLeft_eq]
  show (BitVec.ofNat 64 n).toNat * _ % _ = _
  rw [BitVec.toNat_ofNat, Nat.mod_eq_of_lt (a := k) (by omega), Nat.mod_mul_mod]
theorem or_l {a b : Nat} (k : Nat) (ha : a < 2 ^ k) : lN a ||| lN (b * 2 ^ k) = lN (a + b * 2 ^ k) := by
  apply Int64.toBitVec_inj.mp
  show BitVec.ofNat 64 a ||| BitVec.ofNat 64 (b * 2 ^ k) = BitVec.ofNat 64 (a + b * 2 ^ k)
  apply BitVec.eq_of_toNat_eq
  rw [BitVec.toNat_or, BitVec.toNat_ofNat, BitVec.toNat_ofNat, BitVec.toNat_ofNat, ← Nat.or_mod_two_pow, Nat.or_comm, Nat.mul_comm, ← Nat.two_pow_add_eq_or_of_lt ha, Nat.add_comm]
theorem p_1024 (k : Nat) : 1024 ^ k = 2 ^ (10 * k) := by rw [show (1024 : Nat) = 2 ^ 10 from rfl, ← Nat.pow_mul]
/-- a stroke more in the long -/
theorem pac_or {r : Nat → Nat} {k : Nat} (hk : k < 4) (h : ∀ t, t < k → r t < 1024) (hr : r k < 1024) : lN (pac r k) ||| ((nI (r k)).toInt64 <<< (((10 : Int32) * nI k).toInt64 &&& 63)) = lN (pac r (k + 1)) := by
  have h1 := pac_lt h
  rw [p_1024] at h1
  rw [ten_sh k hk, nI_l (by omega), sh_l _ _ (by omega), or_l _ h1, pac, p_1024]
theorem x3_packed_5 {i n L pl : Nat} {f : Nat → Int32} {q : Nat → Nat} (K : Mem → Int64 → Option (Mem × Int64)) {σ : Mem} (hL : L ≤ 4) (h : RowIs σ i n f) (hn : n ≤ cap i) (hc : cap i ≤ 62) (hp : pl + L ≤ n) (hq : ∀ t, t < L → f (pl + t) = nI (q t) ∧ q t < 1024) : ∀ (r k fu : Nat), k + r = L → r < fu → X3_packed_5 i K fu σ (nI pl) (nI L) (lN (pac q k)) (nI k) = K σ (lN (pac q L))
  | 0, k, 0, _, h => absurd h (by omega)
  | r + 1, k, 0, _, h => absurd h (by omega)
  | 0, k, fu + 1, h1, _ => by
    have : k = L := by omega
    subst this
    rw [X3_packed_5, if_pos (nI_le (by omega) (by omega))]
  | r + 1, k, fu + 1, h1, h2 => by
    rw [X3_packed_5, h.1]
    simp (disch := omega) only [uB, ofn, k_0, k_1, k_2, k_3, k_4, k_5, k_6, k_7, k_8, k_9, k_10, k_24, k_60, k_68, k_236, c_le_t, c_le_f, c_lt_t, c_lt_f, c_eq_t, c_eq_f, c_m1_f, c_m1_f', c_m1_lt, c_m1_nlt, c_m1_le, c_m1_nle, c_inA, c_cl, c_sub, c_add, if_false, if_true]
    rw [h.2 (pl + k) (by omega), (hq k (by omega)).1, ← k_10, pac_or (by omega) (fun t ht => (hq t (by omega)).2) (hq k (by omega)).2]
    exact x3_packed_5 K hL h hn hc hp hq r (k + 1) fu (by omega) (by omega)
theorem x3_packed {i n L pl : Nat} {f : Nat → Int32} {q : Nat → Nat} {σ : Mem} (hL : L ≤ 4) (h : RowIs σ i n f) (hn : n ≤ cap i) (hc : cap i ≤ 62) (hp : pl + L ≤ n) (hq : ∀ t, t < L → f (pl + t) = nI (q t) ∧ q t < 1024) : X3_packed i σ (nI pl) (nI L) = some (σ, lN (pac q L)) :=
  x3_packed_5 _ hL h hn hc hp hq L 0 FU (by omega) (by unfold FU; omega)
