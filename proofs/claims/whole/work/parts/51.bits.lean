/-! A wire's registers in one long: what reading, writing, moving does to its bits. -/
theorem am_k (k : Nat) (hk : k < 32) : ((2 * nI k).toInt64 &&& 63) = Int64.ofNat (2 * k) := by
  revert hk; revert k; decide
theorem am_u (k : Nat) (hk : k < 32) : ((2 * nI k).toInt64.toUInt64 &&& Int64.toUInt64 63) = UInt64.ofNat (2 * k) := by
  revert hk; revert k; decide
theorem i3_bit (i : Nat) : (3 : Int32).toBitVec.getLsbD i = decide (i < 2) := by
  by_cases h : i < 32
  · revert h; revert i; decide
  · rw [BitVec.getLsbD_of_ge _ _ (by omega)]; simp; omega
theorem rd_bit (v : Int64) {k : Nat} (hk : k < 32) (i : Nat) : (bRd v (nI k)).toBitVec.getLsbD i = (decide (i < 2) && v.toBitVec.getLsbD (2 * k + i)) := by
  unfold bRd
  rw [am_u k hk, Int32.toBitVec_and, BitVec.getLsbD_and, i3_bit, Bool.and_comm]
  by_cases h : i < 2
  · have e : (UInt64.ofNat (2 * k)).toBitVec.toNat = 2 * k := by
      show (2 * k) % 2 ^ 64 = 2 * k
      omega
    have e2 : (UInt64.toInt64 (v.toUInt64 >>> UInt64.ofNat (2 * k))).toInt32.toBitVec.getLsbD i = (v.toUInt64 >>> UInt64.ofNat (2 * k)).toBitVec.getLsbD i := by
      show ((v.toUInt64 >>> UInt64.ofNat (2 * k)).toBitVec.signExtend 32).getLsbD i = _
      rw [BitVec.getLsbD_signExtend]
      simp [show i < 32 by omega, show i < 64 by omega]
    rw [e2, UInt64.toBitVec_shiftRight]
    show (decide (i < 2) && (v.toBitVec >>> ((UInt64.ofNat (2 * k)).toBitVec % 64)).getLsbD i) = _
    rw [BitVec.ushiftRight_eq', BitVec.getLsbD_ushiftRight, BitVec.toNat_umod, e]
    rw [show 2 * k % BitVec.toNat (64 : BitVec 64) = 2 * k from by show 2 * k % 64 = 2 * k; omega]
  · simp [h]
theorem sh_bit (v : Int64) (j : Nat) : (bSh v).toBitVec.getLsbD j = v.toBitVec.getLsbD (2 + j) := by
  unfold bSh
  rw [show ((2 : Int32).toInt64.toUInt64 &&& Int64.toUInt64 63) = 2 from by decide]
  show (v.toUInt64 >>> 2).toBitVec.getLsbD j = _
  rw [UInt64.toBitVec_shiftRight]
  show (v.toBitVec >>> ((2 : UInt64).toBitVec % 64)).getLsbD j = _
  rw [BitVec.ushiftRight_eq', BitVec.getLsbD_ushiftRight]
  rfl
theorem i64_bit {n : Nat} (hn : n < 4) (j : Nat) : (nI n).toInt64.toBitVec.getLsbD j = n.testBit j := by
  have e : (nI n).toInt64.toBitVec = BitVec.ofNat 64 n := by
    revert hn; revert n; decide
  rw [e, BitVec.getLsbD_ofNat]
  by_cases h : j < 64
  · simp [h]
  · simp [h]
    exact (Nat.testBit_lt_two_pow (Nat.lt_of_lt_of_le hn (show 4 ≤ 2 ^ j from Nat.le_trans (show 4 ≤ 2 ^ 2 by decide) (Nat.pow_le_pow_right (by decide) (by omega)))))
theorem ps_bit (v : Int64) {n : Nat} (hn : n < 4) {j : Nat} (hj : j < 64) : (bPs v (nI n)).toBitVec.getLsbD j = if j < 2 then n.testBit j else v.toBitVec.getLsbD (j - 2) := by
  unfold bPs
  rw [show ((2 : Int32).toInt64 &&& 63) = 2 from by decide, Int64.toBitVec_or, BitVec.getLsbD_or, i64_bit hn, Int64.toBitVec_shiftLeft]
  rw [show ((2 : Int64).toBitVec.smod 64) = 2#64 from by decide]
  rw [BitVec.shiftLeft_eq', BitVec.getLsbD_shiftLeft]
  show (decide (j < 64) && !decide (j < 2) && v.toBitVec.getLsbD (j - 2) || n.testBit j) = _
  by_cases h : j < 2
  · simp [h]
  · have : n.testBit j = false := Nat.testBit_lt_two_pow (Nat.lt_of_lt_of_le hn (show 4 ≤ 2 ^ j from Nat.le_trans (show 4 ≤ 2 ^ 2 by decide) (Nat.pow_le_pow_right (by decide) (by omega))))
    simp [h, hj, this]
theorem wr_bit (v : Int64) {k : Nat} (hk : k < 32) {n : Nat} (hn : n < 4) {j : Nat} (hj : j < 64) : (bWr v (nI k) (nI n)).toBitVec.getLsbD j = if 2 * k ≤ j ∧ j < 2 * k + 2 then n.testBit (j - 2 * k) else v.toBitVec.getLsbD j := by
  unfold bWr
  rw [am_k k hk]
  have es : ((Int64.ofNat (2 * k)).toBitVec.smod 64) = BitVec.ofNat 64 (2 * k) := by revert hk; revert k; decide
  have et : (BitVec.ofNat 64 (2 * k)).toNat = 2 * k := by
    show (2 * k) % 2 ^ 64 = 2 * k
    omega
  rw [Int64.toBitVec_or, BitVec.getLsbD_or, Int64.toBitVec_and, BitVec.getLsbD_and, Int64.toBitVec_xor, BitVec.getLsbD_xor, Int64.toBitVec_shiftLeft, Int64.toBitVec_shiftLeft, es, BitVec.shiftLeft_eq', BitVec.shiftLeft_eq', BitVec.getLsbD_shiftLeft, BitVec.getLsbD_shiftLeft, et, i64_bit hn]
  have e3 : ∀ i, (3 : Int64).toBitVec.getLsbD i = decide (i < 2) := fun i => by
    by_cases h : i < 64
    · revert h; revert i; decide
    · rw [BitVec.getLsbD_of_ge _ _ (by omega)]; simp; omega
  have e1 : (-1 : Int64).toBitVec.getLsbD j = true := by revert hj; revert j; decide
  rw [e3, e1]
  by_cases h1 : j < 2 * k
  · simp [h1, hj, show ¬ (2 * k ≤ j) by omega]
  · by_cases h2 : j < 2 * k + 2
    · simp [h1, hj, h2, show 2 * k ≤ j by omega, show j - 2 * k < 2 by omega]
    · have : n.testBit (j - 2 * k) = false := Nat.testBit_lt_two_pow (Nat.lt_of_lt_of_le hn (show 4 ≤ 2 ^ (j - 2 * k) from Nat.le_trans (show 4 ≤ 2 ^ 2 by decide) (Nat.pow_le_pow_right (by decide) (by omega))))
      simp [h1, hj, h2, this, show ¬ (j - 2 * k < 2) by omega]
theorem rd_ext {v v2 : Int64} {k k2 : Nat} (hk : k < 32) (hk2 : k2 < 32) (h : ∀ i, i < 2 → v.toBitVec.getLsbD (2 * k + i) = v2.toBitVec.getLsbD (2 * k2 + i)) : bRd v (nI k) = bRd v2 (nI k2) := by
  apply Int32.toBitVec_inj.mp
  apply BitVec.eq_of_getLsbD_eq
  intro i _
  rw [rd_bit v hk, rd_bit v2 hk2]
  by_cases h2 : i < 2
  · rw [h i h2]
  · simp [h2]
theorem i32_bit {n : Nat} (hn : n < 4) (j : Nat) : (nI n).toBitVec.getLsbD j = n.testBit j := by
  have e : (nI n).toBitVec = BitVec.ofNat 32 n := by
    revert hn; revert n; decide
  rw [e, BitVec.getLsbD_ofNat]
  by_cases h : j < 32
  · simp [h]
  · simp [h]
    exact (Nat.testBit_lt_two_pow (Nat.lt_of_lt_of_le hn (show 4 ≤ 2 ^ j from Nat.le_trans (show 4 ≤ 2 ^ 2 by decide) (Nat.pow_le_pow_right (by decide) (by omega)))))
theorem rd_is {v : Int64} {k n : Nat} (hk : k < 32) (hn : n < 4) (h : ∀ i, i < 2 → v.toBitVec.getLsbD (2 * k + i) = n.testBit i) : bRd v (nI k) = nI n := by
  apply Int32.toBitVec_inj.mp
  apply BitVec.eq_of_getLsbD_eq
  intro i _
  rw [rd_bit v hk, i32_bit hn]
  by_cases h2 : i < 2
  · rw [h i h2]; simp [h2]
  · have : n.testBit i = false := Nat.testBit_lt_two_pow (Nat.lt_of_lt_of_le hn (show 4 ≤ 2 ^ i from Nat.le_trans (show 4 ≤ 2 ^ 2 by decide) (Nat.pow_le_pow_right (by decide) (by omega))))
    simp [h2, this]
theorem rd_wr (v : Int64) {k n : Nat} (hk : k < 32) (hn : n < 4) : bRd (bWr v (nI k) (nI n)) (nI k) = nI n := rd_is hk hn (fun i hi => by
  rw [wr_bit v hk hn (by omega), if_pos (by omega), show 2 * k + i - 2 * k = i from by omega])
theorem rd_wr_ne (v : Int64) {k k2 n : Nat} (hk : k < 32) (hk2 : k2 < 32) (hn : n < 4) (h : k2 ≠ k) : bRd (bWr v (nI k) (nI n)) (nI k2) = bRd v (nI k2) := rd_ext hk2 hk2 (fun i hi => by
  rw [wr_bit v hk hn (by omega), if_neg (by omega)])
theorem rd_sh (v : Int64) {k : Nat} (hk : k + 1 < 32) : bRd (bSh v) (nI k) = bRd v (nI (k + 1)) := rd_ext (by omega) hk (fun i hi => by
  rw [sh_bit, show 2 + (2 * k + i) = 2 * (k + 1) + i from by omega])
theorem rd_ps0 (v : Int64) {n : Nat} (hn : n < 4) : bRd (bPs v (nI n)) (nI 0) = nI n := rd_is (by decide) hn (fun i hi => by
  rw [ps_bit v hn (by omega), if_pos (by omega)]
  simp)
theorem rd_ps (v : Int64) {k n : Nat} (hk : k + 1 < 32) (hn : n < 4) : bRd (bPs v (nI n)) (nI (k + 1)) = bRd v (nI k) := rd_ext hk (by omega) (fun i hi => by
  rw [ps_bit v hn (by omega), if_neg (by omega), show 2 * (k + 1) + i - 2 = 2 * k + i from by omega])
