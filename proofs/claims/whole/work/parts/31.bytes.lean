/-! bytes of words -/
theorem sh8 : ∀ k, k < 8 → (Int32.toInt64 (8 * nI k) &&& 63).toBitVec.smod 64 = BitVec.ofNat 64 (8 * k) := by decide +kernel
theorem bL_bit (v : Int64) {k i : Nat} (hk : k < 8) (hi : i < 32) : (bL v k).toBitVec.getLsbD i = (decide (i < 8) && v.toBitVec.getLsbD (8 * k + i)) := by
  have e255 : ∀ j, j < 64 → (255 : Int64).toBitVec.getLsbD j = decide (j < 8) := by decide +kernel
  unfold bL
  rw [Int64.toBitVec_toInt32, BitVec.getLsbD_signExtend, Int64.toBitVec_and, BitVec.getLsbD_and, e255 i (by omega), Int64.toBitVec_shiftRight, sh8 k hk]
  have e1 : (BitVec.ofNat 64 (8 * k)).toNat = 8 * k := by simp; omega
  simp only [BitVec.sshiftRight', e1, BitVec.getLsbD_sshiftRight]
  have h2 : ¬ 64 ≤ i := by omega
  simp [hi, h2]
  by_cases h8 : i < 8
  · have h3 : 8 * k + i < 64 := by omega
    simp [h8, h3]
    omega
  · simp [h8]
    intro q
    omega
theorem i32_ext {x y : Int32} (h : ∀ i, i < 32 → x.toBitVec.getLsbD i = y.toBitVec.getLsbD i) : x = y := by
  have : x.toBitVec = y.toBitVec := BitVec.eq_of_getLsbD_eq (fun i hi => h i hi)
  exact Int32.toBitVec_inj.mp this
theorem lo_bit (v : Int64) {j : Nat} (hj : j < 32) : (Int32.toInt64 (loW v)).toBitVec.getLsbD j = v.toBitVec.getLsbD j := by
  unfold loW
  rw [Int32.toBitVec_toInt64, BitVec.getLsbD_signExtend, Int64.toBitVec_toInt32]
  simp only [BitVec.getLsbD_signExtend]
  have h2 : j < 64 := by omega
  simp [hj, h2]
theorem hi_bit (v : Int64) {j : Nat} (hj : j < 32) : (Int32.toInt64 (hiW v)).toBitVec.getLsbD j = v.toBitVec.getLsbD (32 + j) := by
  have e : ((Int32.toInt64 32).toUInt64 &&& Int64.toUInt64 63) = 32 := by decide +kernel
  unfold hiW
  rw [e, Int32.toBitVec_toInt64, BitVec.getLsbD_signExtend, Int64.toBitVec_toInt32]
  simp only [BitVec.getLsbD_signExtend]
  have e2 : (v.toUInt64 >>> (32 : UInt64)).toInt64.toBitVec = v.toBitVec >>> 32 := by
    show (v.toUInt64 >>> (32 : UInt64)).toBitVec = _
    rw [UInt64.toBitVec_shiftRight]
    rfl
  rw [e2]
  simp [hj]
  omega
theorem bL_lo (v : Int64) {k : Nat} (hk : k < 4) : bL (Int32.toInt64 (loW v)) k = bL v k := i32_ext fun i hi => by
  rw [bL_bit _ (by omega) hi, bL_bit _ (by omega) hi]
  by_cases h8 : i < 8
  · rw [lo_bit v (by omega)]
  · simp [h8]
theorem bL_hi (v : Int64) {k : Nat} (hk : k < 4) : bL (Int32.toInt64 (hiW v)) k = bL v (k + 4) := i32_ext fun i hi => by
  rw [bL_bit _ (by omega) hi, bL_bit _ (by omega) hi]
  by_cases h8 : i < 8
  · rw [hi_bit v (by omega)]
    congr 2
    omega
  · simp [h8]
