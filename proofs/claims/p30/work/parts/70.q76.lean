theorem pf_lI {a : Nat} (h : a < 2 ^ 63) : (lN a).toInt = (a : Int) := lg_ofNat_toInt h
theorem pf_shr {a d : Nat} {D : Int64} (hD : (D.toBitVec.smod 64).toNat = d) (h : a < 2 ^ 62) : lN a >>> D = lN (a / 2 ^ d) := by
  have hd : a / 2 ^ d ≤ a := Nat.div_le_self _ _
  apply Int64.toInt_inj.mp
  have e : (lN a >>> D).toInt = (lN a).toInt >>> d := by
    rw [← hD]
    exact BitVec.toInt_sshiftRight ..
  rw [e, Int.shiftRight_eq_div_pow, pf_lI (by omega), pf_lI (by omega)]
  rfl
theorem fa_and (a b : Nat) : nI a &&& nI b = nI (a &&& b) := by
  apply Int32.toBitVec_inj.1
  show BitVec.ofNat 32 a &&& BitVec.ofNat 32 b = BitVec.ofNat 32 (a &&& b)
  apply BitVec.eq_of_getLsbD_eq
  intro i hi
  simp [hi]
theorem fa_mask (n k : Nat) : nI n &&& nI (2 ^ k - 1) = nI (n % 2 ^ k) := by rw [fa_and, Nat.and_two_pow_sub_one_eq_mod]
theorem wb_tb (n : Nat) : (lN n).toBitVec = BitVec.ofNat 64 n := rfl
theorem wb_inj {a b : Int64} (h : a.toBitVec = b.toBitVec) : a = b := Int64.toBitVec_inj.mp h
theorem wb_tn {n : Nat} (h : n < 2 ^ 64) : (lN n).toBitVec.toNat = n := by rw [wb_tb, BitVec.toNat_ofNat, Nat.mod_eq_of_lt h]
theorem wb_cu : ∀ k, k < 64 → ((nI k).toInt64.toUInt64 &&& Int64.toUInt64 63) = UInt64.ofNat k := by decide +kernel
theorem wb_shr {n k : Nat} (hn : n < 2 ^ 64) (hk : k < 64) : ((lN n).toUInt64 >>> ((nI k).toInt64.toUInt64 &&& Int64.toUInt64 63)).toInt64 = lN (n / 2 ^ k) := by
  rw [wb_cu k hk]
  apply wb_inj
  apply BitVec.eq_of_toNat_eq
  show ((lN n).toUInt64 >>> UInt64.ofNat k).toNat = (BitVec.ofNat 64 _).toNat
  have h1 : (UInt64.ofNat k).toNat = k := by
    show (BitVec.ofNat 64 k).toNat = k
    rw [BitVec.toNat_ofNat, Nat.mod_eq_of_lt (by omega)]
  have h2 : (lN n).toUInt64.toNat = n := wb_tn hn
  rw [UInt64.toNat_shiftRight, h1, h2, Nat.mod_eq_of_lt hk, Nat.shiftRight_eq_div_pow, BitVec.toNat_ofNat, Nat.mod_eq_of_lt (Nat.lt_of_le_of_lt (Nat.div_le_self _ _) hn)]
theorem wb_and {a b : Nat} (ha : a < 2 ^ 64) (hb : b < 2 ^ 64) : lN a &&& lN b = lN (a &&& b) := by
  apply wb_inj
  rw [Int64.toBitVec_and, wb_tb, wb_tb, wb_tb]
  apply BitVec.eq_of_toNat_eq
  rw [BitVec.toNat_and, BitVec.toNat_ofNat, BitVec.toNat_ofNat, BitVec.toNat_ofNat, Nat.mod_eq_of_lt ha, Nat.mod_eq_of_lt hb, Nat.mod_eq_of_lt (Nat.and_lt_two_pow _ hb)]
/-! STROKES OUT OF A LONG; KEYS OF A LONG -/
theorem ten_sm : ∀ k, k < 4 → ((((10 : Int32) * nI k).toInt64 &&& 63).toBitVec.smod 64).toNat = 10 * k := by decide +kernel
theorem x6_strokeOf (σ : Mem) {R k : Nat} (hR : R < 1099511627776) (hk : k < 4) : X6_strokeOf σ (lN R) (nI k) = some (σ, nI (R / 1024 ^ k % 1024)) := by
  unfold X6_strokeOf
  rw [pf_shr (ten_sm k hk) (by omega), lN_i, ← p_1024]
  rw [show (1023 : Int32) = nI (2 ^ 10 - 1) from rfl, fa_mask]
def nz (R k : Nat) : Bool := decide (R / 1024 ^ k % 1024 ≠ 0)
theorem x6_strokesOf_4 {R : Nat} (hR : R < 1099511627776) (K : Mem → Int32 → Option (Mem × Int32)) {σ : Mem} : ∀ (r k fu : Nat), k + r = 4 → r < fu → X6_strokesOf_4 K fu σ (lN R) (nI (cnt (nz R) k)) (nI k) = K σ (nI (cnt (nz R) 4))
  | 0, k, 0, _, h => absurd h (by omega)
  | r + 1, k, 0, _, h => absurd h (by omega)
  | 0, k, fu + 1, h, _ => by
    have : k = 4 := by omega
    subst this
    rw [X6_strokesOf_4, if_pos (by decide)]
  | r + 1, k, fu + 1, h, hf => by
    have ih := x6_strokesOf_4 hR K (σ := σ) r (k + 1) fu (by omega) (by omega)
    have hm := Nat.mod_lt (R / 1024 ^ k) (show 0 < 1024 by omega)
    rw [X6_strokesOf_4, if_neg (show ¬ (4 : Int32) ≤ nI k from nI_ge (b := 4) (by omega) (by omega)), x6_strokeOf σ hR (by omega), uB]
    by_cases c : R / 1024 ^ k % 1024 = 0
    · rw [cnt_f (show nz R k = false by unfold nz; simp [c])] at ih
      dsimp only
      rw [c, if_pos (show nI 0 = 0 from rfl), nI_1]
      exact ih
    · rw [cnt_t (show nz R k = true by unfold nz; simp [c])] at ih
      dsimp only
      rw [if_neg (nI_ne0 (by omega) (by omega)), nI_1, nI_1]
      exact ih
theorem x6_strokesOf {R : Nat} (hR : R < 1099511627776) (σ : Mem) : X6_strokesOf σ (lN R) = some (σ, nI (cnt (nz R) 4)) := x6_strokesOf_4 hR _ 4 0 FU (by omega) (by unfold FU; omega)
theorem pac_nz {r : Nat → Nat} {L : Nat} (h : ∀ t, t < L → 1 ≤ r t ∧ r t < 1024) (k : Nat) : nz (pac r L) k = decide (k < L) := by
  have h' : ∀ t, t < L → r t < 1024 := fun t ht => (h t ht).2
  unfold nz
  by_cases c : k < L
  · have := h k c
    rw [pac_div h' c]; simp [c]; omega
  · rw [pac_out h' (by omega)]; simp [c]
theorem pac_cnt {r : Nat → Nat} {L : Nat} (h : ∀ t, t < L → 1 ≤ r t ∧ r t < 1024) (hL : L ≤ 4) : cnt (nz (pac r L)) 4 = L := by
  rw [cnt_pre (t := L) (fun k => pac_nz h k)]; omega
theorem and_256 {a c y m : Nat} (ha : a < 256) (hc : c < 256) : (a + 256 * y) &&& (c + 256 * m) = (a &&& c) + 256 * (y &&& m) := by
  have e : ∀ u v : Nat, u + 256 * v = 2 ^ 8 * v + u := fun u v => by omega
  have h1 : a &&& c < 2 ^ 8 := Nat.and_lt_two_pow _ hc
  apply Nat.eq_of_testBit_eq
  intro i
  rw [e a y, e c m, e (a &&& c) (y &&& m), Nat.testBit_and, Nat.testBit_two_pow_mul_add _ (show a < 2 ^ 8 from ha), Nat.testBit_two_pow_mul_add _ (show c < 2 ^ 8 from hc), Nat.testBit_two_pow_mul_add _ h1]
  by_cases c1 : i < 8
  · rw [if_pos c1, if_pos c1, if_pos c1, Nat.testBit_and]
  · rw [if_neg c1, if_neg c1, if_neg c1, Nat.testBit_and]
def f1 (m x : Nat) : Nat := x - ((x / 2) &&& m)
def f2 (m x : Nat) : Nat := (x &&& m) + ((x / 4) &&& m)
def f3 (m x : Nat) : Nat := (x + x / 16) &&& m
theorem b1 : ∀ a, a < 256 → ∀ b, b < 2 → (a / 2 + 128 * b) &&& 85 = (a / 2) &&& 85 := by decide +kernel
theorem b2 : ∀ a, a < 256 → ∀ b, b < 4 → (a / 4 + 64 * b) &&& 51 = (a / 4) &&& 51 := by decide +kernel
theorem b3 : ∀ a, a < 69 → ∀ b, b < 5 → (a + a / 16 + 16 * b) &&& 15 = (a + a / 16) &&& 15 := by decide +kernel
theorem f1_256 {a y m : Nat} (ha : a < 256) : f1 (85 + 256 * m) (a + 256 * y) = f1 85 a + 256 * f1 m y := by
  unfold f1
  have e : (a + 256 * y) / 2 = (a / 2 + 128 * (y % 2)) + 256 * (y / 2) := by omega
  rw [e, and_256 (by omega) (by omega), b1 a ha (y % 2) (by omega)]
  have h1 : (a / 2) &&& 85 ≤ a / 2 := Nat.and_le_left
  have h2 : (y / 2) &&& m ≤ y / 2 := Nat.and_le_left
  omega
theorem f2_256 {a y m : Nat} (ha : a < 256) : f2 (51 + 256 * m) (a + 256 * y) = f2 51 a + 256 * f2 m y := by
  unfold f2
  have e : (a + 256 * y) / 4 = (a / 4 + 64 * (y % 4)) + 256 * (y / 4) := by omega
  rw [e, and_256 (by omega) (by omega), and_256 (by omega) (by omega), b2 a ha (y % 4) (by omega)]
  omega
theorem f3_256 {a y m : Nat} (ha : a < 69) (hy : y % 16 < 5) : f3 (15 + 256 * m) (a + 256 * y) = f3 15 a + 256 * f3 m y := by
  unfold f3
  have e : (a + 256 * y) + (a + 256 * y) / 16 = (a + a / 16 + 16 * (y % 16)) + 256 * (y + y / 16) := by omega
  rw [e, and_256 (by omega) (by omega), b3 a ha (y % 16) hy]
theorem b4 : ∀ a, a < 256 → f1 85 a < 256 ∧ f2 51 (f1 85 a) < 69 ∧ f2 51 (f1 85 a) % 16 < 5 ∧ f3 15 (f2 51 (f1 85 a)) = kb 8 a ∧ kb 8 a ≤ 8 := by decide +kernel
theorem kb_0 : ∀ n, kb n 0 = 0
  | 0 => rfl
  | n + 1 => by rw [kb, kb_0 n, Nat.zero_div]
theorem kb_cong {x y : Nat} : ∀ {n : Nat}, x % 2 ^ n = y % 2 ^ n → kb n x = kb n y
  | 0, _ => rfl
  | n + 1, h => by
    have h1 : x % 2 ^ n = y % 2 ^ n := by
      have := congrArg (· % 2 ^ n) h
      simp only [Nat.pow_succ, Nat.mod_mul_right_mod] at this
      exact this
    have h2 : x / 2 ^ n % 2 = y / 2 ^ n % 2 := by
      have := congrArg (· / 2 ^ n) h
      simp only [Nat.pow_succ, Nat.mod_mul_right_div_self] at this
      exact this
    rw [kb, kb, kb_cong h1, h2]
theorem kb_add (n : Nat) {a : Nat} (ha : a < 2 ^ n) (y : Nat) : ∀ m, kb (n + m) (a + 2 ^ n * y) = kb n a + kb m y
  | 0 => by
    show kb n _ = kb n a + 0
    rw [Nat.add_zero]
    exact kb_cong (by rw [Nat.add_mul_mod_self_left])
  | m + 1 => by
    show kb (n + m) _ + (a + 2 ^ n * y) / 2 ^ (n + m) % 2 = kb n a + (kb m y + _)
    rw [kb_add n ha y m, Nat.pow_add, ← Nat.div_div_eq_div_mul, Nat.add_mul_div_left _ _ (Nat.two_pow_pos n), Nat.div_eq_of_lt ha, Nat.zero_add]
    omega
def m5 : Nat := 6148914691236517205
def m3 : Nat := 3689348814741910323
def mF : Nat := 1085102592571150095
theorem fold40 {a b c d e : Nat} (h1 : a ≤ 8) (h2 : b ≤ 8) (h3 : c ≤ 8) (h4 : d ≤ 8) (h5 : e ≤ 8) {z : Nat} (hz : z = a + 256 * b + 65536 * c + 16777216 * d + 4294967296 * e) : (z + z / 256 + (z + z / 256) / 65536 + (z + z / 256 + (z + z / 256) / 65536) / 4294967296) % 128 = a + (b + (c + (d + e))) := by
  have e1 : z / 256 = b + 256 * c + 65536 * d + 16777216 * e := by omega
  rw [e1]
  have e2 : (z + (b + 256 * c + 65536 * d + 16777216 * e)) / 65536 = (c + d) + 256 * (d + e) + 65536 * e := by omega
  rw [e2]
  have e3 : (z + (b + 256 * c + 65536 * d + 16777216 * e) + ((c + d) + 256 * (d + e) + 65536 * e)) / 4294967296 = e := by omega
  rw [e3]
  omega
theorem pop40 {x : Nat} (hx : x < 1099511627776) : ∃ z, f3 mF (f2 m3 (f1 m5 x)) = z ∧ z < 68719476736 ∧ (z + z / 256 + (z + z / 256) / 65536 + (z + z / 256 + (z + z / 256) / 65536) / 4294967296) % 128 = kb 40 x := by
  obtain ⟨a0, y0, h0, e0⟩ : ∃ a y, a < 256 ∧ x = a + 256 * y := ⟨x % 256, x / 256, by omega, by omega⟩
  obtain ⟨a1, y1, h1, e1⟩ : ∃ a y, a < 256 ∧ y0 = a + 256 * y := ⟨y0 % 256, y0 / 256, by omega, by omega⟩
  obtain ⟨a2, y2, h2, e2⟩ : ∃ a y, a < 256 ∧ y1 = a + 256 * y := ⟨y1 % 256, y1 / 256, by omega, by omega⟩
  obtain ⟨a3, a4, h3, e3⟩ : ∃ a y, a < 256 ∧ y2 = a + 256 * y := ⟨y2 % 256, y2 / 256, by omega, by omega⟩
  have h4 : a4 < 256 := by omega
  have q5 : m5 = 85 + 256 * (85 + 256 * (85 + 256 * (85 + 256 * (85 + 256 * 5592405)))) := rfl
  have q3 : m3 = 51 + 256 * (51 + 256 * (51 + 256 * (51 + 256 * (51 + 256 * 3355443)))) := rfl
  have qF : mF = 15 + 256 * (15 + 256 * (15 + 256 * (15 + 256 * (15 + 256 * 986895)))) := rfl
  have z4 : a4 = a4 + 256 * 0 := rfl
  obtain ⟨p00, p01, p02, p03, p04⟩ := b4 a0 h0
  obtain ⟨p10, p11, p12, p13, p14⟩ := b4 a1 h1
  obtain ⟨p20, p21, p22, p23, p24⟩ := b4 a2 h2
  obtain ⟨p30, p31, p32, p33, p34⟩ := b4 a3 h3
  obtain ⟨p40, p41, p42, p43, p44⟩ := b4 a4 h4
  have g1 : f1 m5 x = f1 85 a0 + 256 * (f1 85 a1 + 256 * (f1 85 a2 + 256 * (f1 85 a3 + 256 * (f1 85 a4 + 256 * 0)))) := by
    rw [e0, e1, e2, e3, q5, f1_256 h0, f1_256 h1, f1_256 h2, f1_256 h3]
    rw [show f1 (85 + 256 * 5592405) a4 = f1 (85 + 256 * 5592405) (a4 + 256 * 0) from rfl, f1_256 h4]
    rfl
  have g2 : f2 m3 (f1 m5 x) = f2 51 (f1 85 a0) + 256 * (f2 51 (f1 85 a1) + 256 * (f2 51 (f1 85 a2) + 256 * (f2 51 (f1 85 a3) + 256 * (f2 51 (f1 85 a4) + 256 * 0)))) := by
    rw [g1, q3, f2_256 p00, f2_256 p10, f2_256 p20, f2_256 p30, f2_256 p40]
    rfl
  have g3 : f3 mF (f2 m3 (f1 m5 x)) = kb 8 a0 + 256 * (kb 8 a1 + 256 * (kb 8 a2 + 256 * (kb 8 a3 + 256 * (kb 8 a4 + 256 * 0)))) := by
    rw [g2, qF, f3_256 p01 (by omega), f3_256 p11 (by omega), f3_256 p21 (by omega), f3_256 p31 (by omega), f3_256 p41 (by omega), p03, p13, p23, p33, p43]
    rfl
  have g4 : kb 40 x = kb 8 a0 + (kb 8 a1 + (kb 8 a2 + (kb 8 a3 + kb 8 a4))) := by
    rw [e0, e1, e2, e3]
    have k1 := kb_add 8 h0 (a1 + 256 * (a2 + 256 * (a3 + 256 * a4))) 32
    have k2 := kb_add 8 h1 (a2 + 256 * (a3 + 256 * a4)) 24
    have k3 := kb_add 8 h2 (a3 + 256 * a4) 16
    have k4 := kb_add 8 h3 a4 8
    exact k1.trans (by rw [show kb 32 (a1 + 256 * (a2 + 256 * (a3 + 256 * a4))) = _ from k2, show kb 24 (a2 + 256 * (a3 + 256 * a4)) = _ from k3, show kb 16 (a3 + 256 * a4) = _ from k4])
  refine ⟨_, g3, by omega, ?_⟩
  rw [g4]
  exact fold40 p04 p14 p24 p34 p44 (by omega)
