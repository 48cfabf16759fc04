/-! bits of longs -/
theorem bt_ext {x y : Int64} (h : ∀ c, c < 64 → bt x c = bt y c) : x = y := Int64.toBitVec_inj.mp (BitVec.eq_of_getLsbD_eq fun i hi => h i hi)
theorem bt_or (x y : Int64) (c : Nat) : bt (x ||| y) c = (bt x c || bt y c) := by unfold bt; rw [Int64.toBitVec_or, BitVec.getLsbD_or]
theorem bt_and (x y : Int64) (c : Nat) : bt (x &&& y) c = (bt x c && bt y c) := by unfold bt; rw [Int64.toBitVec_and, BitVec.getLsbD_and]
theorem bt_0 (c : Nat) : bt 0 c = false := by unfold bt; simp
theorem bt_1 (c : Nat) : bt 1 c = decide (c = 0) := by
  unfold bt
  rw [show (1 : Int64).toBitVec = 1#64 from rfl, BitVec.getLsbD_one]
  simp
theorem bt_not (x : Int64) {c : Nat} (hc : c < 64) : bt (x ^^^ (-1)) c = !bt x c := by
  unfold bt
  rw [Int64.toBitVec_xor, BitVec.getLsbD_xor, show (-1 : Int64).toBitVec = BitVec.allOnes 64 from by decide +kernel, BitVec.getLsbD_allOnes]
  simp [hc]
theorem sh63 : ∀ c, c < 64 → (Int32.toInt64 (nI c) &&& 63) = Int64.ofNat c := by decide +kernel
theorem sh63s : ∀ c, c < 64 → (Int64.ofNat c).toBitVec.smod 64 = BitVec.ofNat 64 c := by decide +kernel
theorem sh63u : ∀ c, c < 64 → ((Int32.toInt64 (nI c)).toUInt64 &&& Int64.toUInt64 63).toBitVec % 64 = BitVec.ofNat 64 c := by decide +kernel
theorem bt_shl {c : Nat} (hc : c < 64) (i : Nat) (hi : i < 64) : bt (1 <<< (Int32.toInt64 (nI c) &&& 63)) i = decide (i = c) := by
  unfold bt
  rw [Int64.toBitVec_shiftLeft, sh63 c hc, sh63s c hc]
  have e1 : (BitVec.ofNat 64 c).toNat = c := by simp; omega
  show BitVec.getLsbD ((1#64) <<< (BitVec.ofNat 64 c).toNat) i = _
  rw [e1]
  simp
  rw [Bool.eq_iff_iff]
  simp
  omega
theorem bt_sar {x : Int64} {c : Nat} (hc : c < 64) : ((x >>> (Int32.toInt64 (nI c) &&& 63)) &&& 1 = 0) = (bt x c = false) := by
  have e1 : (BitVec.ofNat 64 c).toNat = c := by simp; omega
  have key : ∀ i, i < 64 → bt ((x >>> (Int32.toInt64 (nI c) &&& 63)) &&& 1) i = (decide (i = 0) && bt x c) := by
    intro i hi
    rw [bt_and, bt_1]
    by_cases h0 : i = 0
    · subst h0
      simp only [decide_true, Bool.and_true, Bool.true_and]
      unfold bt
      rw [Int64.toBitVec_shiftRight, sh63 c hc, sh63s c hc]
      show BitVec.getLsbD (BitVec.sshiftRight x.toBitVec (BitVec.ofNat 64 c).toNat) 0 = _
      rw [e1, BitVec.getLsbD_sshiftRight]
      simp [hc]
    · simp [h0]
  apply propext
  constructor
  · intro h
    have := key 0 (by omega)
    rw [h, bt_0] at this
    simpa using this.symm
  · intro h
    exact bt_ext fun i hi => by rw [key i hi, bt_0, h, Bool.and_false]
theorem bt_shr {x : Int64} {c : Nat} (hc : c < 64) : ((Int64.toUInt64 x >>> ((Int32.toInt64 (nI c)).toUInt64 &&& Int64.toUInt64 63)).toInt64 &&& 1 = 0) = (bt x c = false) := by
  have e1 : (BitVec.ofNat 64 c).toNat = c := by simp; omega
  have key : ∀ i, i < 64 → bt ((Int64.toUInt64 x >>> ((Int32.toInt64 (nI c)).toUInt64 &&& Int64.toUInt64 63)).toInt64 &&& 1) i = (decide (i = 0) && bt x c) := by
    intro i hi
    rw [bt_and, bt_1]
    by_cases h0 : i = 0
    · subst h0
      simp only [decide_true, Bool.and_true, Bool.true_and]
      unfold bt
      show BitVec.getLsbD (Int64.toUInt64 x >>> ((Int32.toInt64 (nI c)).toUInt64 &&& Int64.toUInt64 63)).toBitVec 0 = _
      rw [UInt64.toBitVec_shiftRight, sh63u c hc]
      show BitVec.getLsbD (x.toBitVec >>> (BitVec.ofNat 64 c).toNat) 0 = _
      rw [e1, BitVec.getLsbD_ushiftRight]
      simp
    · simp [h0]
  apply propext
  constructor
  · intro h
    have := key 0 (by omega)
    rw [h, bt_0] at this
    simpa using this.symm
  · intro h
    exact bt_ext fun i hi => by rw [key i hi, bt_0, h, Bool.and_false]
/-- how many of the bits below n -/
def pc (x : Int64) : Nat → Nat
  | 0 => 0
  | n + 1 => pc x n + (bt x n).toNat
theorem pc_le (x : Int64) : ∀ n, pc x n ≤ n := by
  intro n
  induction n with
  | zero => exact Nat.le_refl _
  | succ n ih => have : (bt x n).toNat ≤ 1 := Bool.toNat_le _; simp only [pc]; omega
theorem bt_one {x : Int64} {c : Nat} (hc : c < 64) : Int64.toInt32 ((x >>> (Int32.toInt64 (nI c) &&& 63)) &&& 1) = nI (bt x c).toNat := by
  have hh := bt_sar (x := x) hc
  have e1 : (BitVec.ofNat 64 c).toNat = c := by simp; omega
  cases hb : bt x c with
  | false => rw [hh.mpr hb]; rfl
  | true =>
    have : (x >>> (Int32.toInt64 (nI c) &&& 63)) &&& 1 = 1 := bt_ext fun i hi => by
      rw [bt_and, bt_1]
      by_cases h0 : i = 0
      · subst h0
        simp only [decide_true, Bool.and_true]
        rw [← hb]
        unfold bt
        rw [Int64.toBitVec_shiftRight, sh63 c hc, sh63s c hc]
        show BitVec.getLsbD (BitVec.sshiftRight x.toBitVec (BitVec.ofNat 64 c).toNat) 0 = _
        rw [e1, BitVec.getLsbD_sshiftRight]
        simp [hc]
      · simp [h0]
    rw [this]
    rfl
