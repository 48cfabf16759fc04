/-! how many bits are set, as the library counts -/
def ev (d : Nat → Nat) (s : Nat) : Nat → Nat
  | 0 => 0
  | n + 1 => d 0 + 2 ^ s * ev (fun k => d (k + 1)) s n
theorem ev_congr {s : Nat} : ∀ {n : Nat} {d e : Nat → Nat}, (∀ k, k < n → d k = e k) → ev d s n = ev e s n := by
  intro n
  induction n with
  | zero => intro d e _; rfl
  | succ n ih => intro d e h; rw [ev, ev, h 0 (by omega), ih fun k hk => h (k + 1) (by omega)]
theorem ev_add {s : Nat} : ∀ {n : Nat} {d e : Nat → Nat}, ev d s n + ev e s n = ev (fun k => d k + e k) s n := by
  intro n
  induction n with
  | zero => intro d e; rfl
  | succ n ih =>
    intro d e
    rw [ev, ev, ev, ← ih, Nat.mul_add]
    omega
theorem ev_lt {s : Nat} : ∀ {n : Nat} {d : Nat → Nat}, (∀ k, d k < 2 ^ s) → ev d s n < 2 ^ (s * n) := by
  intro n
  induction n with
  | zero => intro d _; exact Nat.one_pos
  | succ n ih =>
    intro d h
    have h1 := ih (d := fun k => d (k + 1)) fun k => h (k + 1)
    have h0 := h 0
    rw [ev, Nat.mul_succ, Nat.add_comm (s * n) s, Nat.pow_add]
    have : 2 ^ s * (ev (fun k => d (k + 1)) s n + 1) ≤ 2 ^ s * 2 ^ (s * n) := Nat.mul_le_mul_left _ h1
    rw [Nat.mul_add] at this
    omega
theorem ev_and {s : Nat} : ∀ {n : Nat} {d e : Nat → Nat}, (∀ k, d k < 2 ^ s) → (∀ k, e k < 2 ^ s) → ev d s n &&& ev e s n = ev (fun k => d k &&& e k) s n := by
  intro n
  induction n with
  | zero => intro d e _ _; exact Nat.and_zero 0
  | succ n ih =>
    intro d e h1 h2
    have hp : 0 < 2 ^ s := Nat.two_pow_pos s
    rw [ev, ev, ev, ← ih (fun k => h1 (k + 1)) (fun k => h2 (k + 1))]
    have m1 : ∀ (a A : Nat), a < 2 ^ s → (a + 2 ^ s * A) % 2 ^ s = a ∧ (a + 2 ^ s * A) / 2 ^ s = A := fun a A ha => by
      rw [Nat.add_mul_mod_self_left, Nat.mod_eq_of_lt ha, Nat.add_mul_div_left _ _ hp, Nat.div_eq_of_lt ha, Nat.zero_add]
      exact ⟨rfl, rfl⟩
    have a1 := m1 (d 0) (ev (fun k => d (k + 1)) s n) (h1 0)
    have a2 := m1 (e 0) (ev (fun k => e (k + 1)) s n) (h2 0)
    generalize d 0 + 2 ^ s * ev (fun k => d (k + 1)) s n = X at a1 ⊢
    generalize e 0 + 2 ^ s * ev (fun k => e (k + 1)) s n = Y at a2 ⊢
    have := Nat.mod_add_div (X &&& Y) (2 ^ s)
    rw [Nat.and_mod_two_pow, Nat.and_div_two_pow, a1.1, a1.2, a2.1, a2.2] at this
    exact this.symm
theorem ev_pair {s : Nat} : ∀ {n : Nat} {d : Nat → Nat}, ev d s (2 * n) = ev (fun k => d (2 * k) + 2 ^ s * d (2 * k + 1)) (2 * s) n := by
  intro n
  induction n with
  | zero => intro d; rfl
  | succ n ih =>
    intro d
    rw [show 2 * (n + 1) = 2 * n + 1 + 1 by omega, ev, ev, ev]
    have : ev (fun k => d (k + 1 + 1)) s (2 * n) = ev (fun k => d (2 * (k + 1)) + 2 ^ s * d (2 * (k + 1) + 1)) (2 * s) n := by
      rw [ih]
      exact ev_congr fun k _ => by rw [show 2 * (k + 1) = 2 * k + 1 + 1 by omega]
    rw [this, Nat.mul_add, ← Nat.mul_assoc, ← Nat.pow_add, show s + s = 2 * s by omega]
    show d 0 + (2 ^ s * d 1 + _) = d (2 * 0) + 2 ^ s * d (2 * 0 + 1) + _
    rw [Nat.mul_zero, Nat.zero_add, Nat.add_assoc]
/-- the upper halves of the digits come down -/
theorem ev_half {w : Nat} : ∀ {n : Nat} {lo hi : Nat → Nat}, (∀ k, lo k < 2 ^ w) → lo n = 0 → ev (fun k => lo k + 2 ^ w * hi k) (2 * w) n / 2 ^ w = ev (fun k => hi k + 2 ^ w * lo (k + 1)) (2 * w) n := by
  intro n
  induction n with
  | zero => intro lo hi _ _; exact Nat.zero_div _
  | succ n ih =>
    intro lo hi h0 hn
    have hp : 0 < 2 ^ w := Nat.two_pow_pos w
    rw [ev, ev, ← ih (lo := fun k => lo (k + 1)) (hi := fun k => hi (k + 1)) (fun k => h0 (k + 1)) hn]
    generalize hV : ev (fun k => lo (k + 1) + 2 ^ w * hi (k + 1)) (2 * w) n = V
    have e : V % 2 ^ w = if n = 0 then 0 else lo 1 := by
      rw [← hV]
      cases n with
      | zero => simp [ev]
      | succ n =>
        rw [if_neg (by omega), ev, show 2 * w = w + w by omega, Nat.pow_add, Nat.mul_assoc, Nat.add_assoc, ← Nat.mul_add, Nat.add_mul_mod_self_left, Nat.mod_eq_of_lt (h0 _)]
    have e2 : V % 2 ^ w = lo 1 := by
      rw [e]
      by_cases z : n = 0
      · rw [if_pos z]; rw [z] at hn; exact hn.symm
      · rw [if_neg z]
    have e3 := Nat.mod_add_div V (2 ^ w)
    rw [e2] at e3
    rw [show 2 * w = w + w by omega, Nat.pow_add, Nat.mul_assoc, Nat.add_assoc, ← Nat.mul_add, Nat.add_mul_div_left _ _ hp, Nat.div_eq_of_lt (h0 0), Nat.zero_add]
    show hi 0 + 2 ^ w * V = hi 0 + 2 ^ w * lo (0 + 1) + 2 ^ w * 2 ^ w * (V / 2 ^ w)
    rw [Nat.mul_assoc, Nat.add_assoc, ← Nat.mul_add]
    congr 2
    exact e3.symm
theorem ev_shift {s : Nat} : ∀ {n : Nat} {d : Nat → Nat}, (∀ k, d k < 2 ^ s) → d n = 0 → ev d s n / 2 ^ s = ev (fun k => d (k + 1)) s n := by
  intro n d h hn
  have hp : 0 < 2 ^ s := Nat.two_pow_pos s
  cases n with
  | zero => exact Nat.zero_div _
  | succ n =>
    rw [ev, Nat.add_mul_div_left _ _ hp, Nat.div_eq_of_lt (h 0), Nat.zero_add]
    clear h
    have : ∀ (n : Nat) (d : Nat → Nat), d n = 0 → ev d s n = ev d s (n + 1) := by
      intro n
      induction n with
      | zero => intro d hd; simp [ev, hd]
      | succ n ih => intro d hd; rw [ev, ih (fun k => d (k + 1)) hd]; rfl
    exact this n _ hn
theorem ev_bits : ∀ (n N : Nat), ev (fun k => (N.testBit k).toNat) 1 n = N % 2 ^ n := by
  intro n
  induction n with
  | zero => intro N; simp [ev, Nat.mod_one]
  | succ n ih =>
    intro N
    rw [ev, show 2 ^ (n + 1) = 2 * 2 ^ n by rw [Nat.pow_succ, Nat.mul_comm], Nat.mod_mul, Nat.pow_one]
    have e1 : (N.testBit 0).toNat = N % 2 := by
      rw [Nat.testBit_zero]
      rcases Nat.mod_two_eq_zero_or_one N with q | q <;> rw [q] <;> rfl
    have e2 : (fun k => (N.testBit (k + 1)).toNat) = (fun k => ((N / 2).testBit k).toNat) := by
      funext k
      rw [Nat.testBit_succ]
    rw [e1, e2, ih]
def tn (x : Int64) : Nat := x.toBitVec.toNat
theorem tn_lt (x : Int64) : tn x < 2 ^ 64 := x.toBitVec.isLt
theorem tn_and (x y : Int64) : tn (x &&& y) = tn x &&& tn y := by unfold tn; rw [Int64.toBitVec_and, BitVec.toNat_and]
theorem tn_add {x y : Int64} (h : tn x + tn y < 2 ^ 64) : tn (x + y) = tn x + tn y := by
  unfold tn at *
  rw [Int64.toBitVec_add, BitVec.toNat_add, Nat.mod_eq_of_lt h]
theorem tn_sub {x y : Int64} (h : tn y ≤ tn x) : tn (x - y) = tn x - tn y := by
  have hx := tn_lt x
  have hy := tn_lt y
  unfold tn at *
  rw [Int64.toBitVec_sub, BitVec.toNat_sub]
  omega
theorem tn_shr {x : Int64} {c : Nat} (hc : c < 64) : tn (Int64.toUInt64 x >>> ((Int32.toInt64 (nI c)).toUInt64 &&& Int64.toUInt64 63)).toInt64 = tn x / 2 ^ c := by
  unfold tn
  show (Int64.toUInt64 x >>> ((Int32.toInt64 (nI c)).toUInt64 &&& Int64.toUInt64 63)).toBitVec.toNat = _
  rw [UInt64.toBitVec_shiftRight, sh63u c hc]
  have e1 : (BitVec.ofNat 64 c).toNat = c := by simp; omega
  show (x.toBitVec >>> (BitVec.ofNat 64 c).toNat).toNat = _
  rw [e1, BitVec.toNat_ushiftRight, Nat.shiftRight_eq_div_pow]
def pcs (b : Nat → Nat) : Nat → Nat
  | 0 => 0
  | n + 1 => pcs b n + b n
theorem c_bitCount {y : Int64} {h : jj_H} {Q : Value → jj_H → Prop} (H : Q (.int (nI (pc y 64))) h) : jj_C mJ13_bitCount_95d88 0 0 [.long y] h Q := by
  refine EJ13_bitCount_95d88 _ fun d => ?_
  generalize hb : (fun k => ((tn y).testBit k).toNat) = b
  have b1 : ∀ k, b k ≤ 1 := fun k => by rw [← hb]; exact Bool.toNat_le _
  have b64 : ∀ k, 64 ≤ k → b k = 0 := fun k hk => by
    rw [← hb]
    show ((tn y).testBit k).toNat = 0
    rw [Nat.testBit_lt_two_pow (Nat.lt_of_lt_of_le (tn_lt y) (Nat.pow_le_pow_right (by decide) hk))]
    rfl
  have hpc : pc y 64 = pcs b 64 := by
    have : ∀ n, pc y n = pcs b n := by
      intro n
      induction n with
      | zero => rfl
      | succ n ih =>
        rw [pc, pcs, ih, ← hb]
        congr 1
    exact this 64
  have N0 : tn y = ev (fun k => b (2 * k) + 2 ^ 1 * b (2 * k + 1)) (2 * 1) 32 := by
    rw [← ev_pair (s := 1) (n := 32), ← hb, ev_bits, Nat.mod_eq_of_lt (tn_lt y)]
  have k55 : tn 6148914691236517205 = ev (fun _ => 1) 2 32 := by decide +kernel
  have k33 : tn 3689348814741910323 = ev (fun _ => 3) 4 16 := by decide +kernel
  have k0f : tn 1085102592571150095 = ev (fun _ => 15) 8 8 := by decide +kernel
  have s1 : tn ((Int64.toUInt64 y >>> ((Int32.toInt64 1).toUInt64 &&& Int64.toUInt64 63)).toInt64 &&& 6148914691236517205) = ev (fun k => b (2 * k + 1)) 2 32 := by
    rw [tn_and, show (Int32.toInt64 1) = Int32.toInt64 (nI 1) from rfl, tn_shr (by decide), k55, N0, ev_half (w := 1) (lo := fun k => b (2 * k)) (hi := fun k => b (2 * k + 1)) (fun k => by have := b1 (2 * k); omega) (b64 _ (by decide)), ev_and (fun k => by have := b1 (2 * k + 1); have := b1 (2 * (k + 1)); omega) (fun k => by decide)]
    refine ev_congr fun k _ => ?_
    have := b1 (2 * k + 1)
    rw [Nat.and_one_is_mod]
    omega
  have s2 : tn (y - ((Int64.toUInt64 y >>> ((Int32.toInt64 1).toUInt64 &&& Int64.toUInt64 63)).toInt64 &&& 6148914691236517205)) = ev (fun k => b (2 * k) + b (2 * k + 1)) 2 32 := by
    have e : tn y = ev (fun k => b (2 * k) + b (2 * k + 1)) 2 32 + ev (fun k => b (2 * k + 1)) 2 32 := by
      rw [N0, ev_add]
      exact ev_congr fun k _ => by omega
    rw [tn_sub (by rw [s1]; omega), s1, e]
    omega
  generalize y - ((Int64.toUInt64 y >>> ((Int32.toInt64 1).toUInt64 &&& Int64.toUInt64 63)).toInt64 &&& 6148914691236517205) = y1 at s2 ⊢
  generalize hp : (fun k => b (2 * k) + b (2 * k + 1)) = p at s2
  have p1 : ∀ k, p k ≤ 2 := fun k => by rw [← hp]; have := b1 (2 * k); have := b1 (2 * k + 1); simp only; omega
  have p32 : ∀ k, 32 ≤ k → p k = 0 := fun k hk => by rw [← hp]; have := b64 (2 * k) (by omega); have := b64 (2 * k + 1) (by omega); simp only; omega
  have s2' : tn y1 = ev (fun k => p (2 * k) + 2 ^ 2 * p (2 * k + 1)) (2 * 2) 16 := by rw [s2]; exact ev_pair (s := 2) (n := 16)
  have m3 : ∀ z, z ≤ 2 → ∀ u, (z + 2 ^ 2 * u) &&& 3 = z := fun z hz u => by
    rw [show (3 : Nat) = 2 ^ 2 - 1 from rfl, Nat.and_two_pow_sub_one_eq_mod]
    omega
  have s3 : tn ((y1 &&& 3689348814741910323) + ((Int64.toUInt64 y1 >>> ((Int32.toInt64 2).toUInt64 &&& Int64.toUInt64 63)).toInt64 &&& 3689348814741910323)) = ev (fun k => p (2 * k) + p (2 * k + 1)) 4 16 := by
    have a1 : tn (y1 &&& 3689348814741910323) = ev (fun k => p (2 * k)) 4 16 := by
      rw [tn_and, k33, s2', ev_and (fun k => by have := p1 (2 * k); have := p1 (2 * k + 1); omega) (fun k => by decide)]
      exact ev_congr fun k _ => m3 _ (p1 _) _
    have a2 : tn ((Int64.toUInt64 y1 >>> ((Int32.toInt64 2).toUInt64 &&& Int64.toUInt64 63)).toInt64 &&& 3689348814741910323) = ev (fun k => p (2 * k + 1)) 4 16 := by
      rw [tn_and, show (Int32.toInt64 2) = Int32.toInt64 (nI 2) from rfl, tn_shr (by decide), k33, s2', ev_half (w := 2) (lo := fun k => p (2 * k)) (hi := fun k => p (2 * k + 1)) (fun k => by have := p1 (2 * k); omega) (p32 _ (by decide)), ev_and (fun k => by have := p1 (2 * k + 1); have := p1 (2 * (k + 1)); omega) (fun k => by decide)]
      exact ev_congr fun k _ => m3 _ (p1 _) _
    have lt : ev (fun k => p (2 * k) + p (2 * k + 1)) 4 16 < 2 ^ (4 * 16) := ev_lt fun k => by have := p1 (2 * k); have := p1 (2 * k + 1); omega
    rw [tn_add (by rw [a1, a2, ev_add]; exact lt), a1, a2, ev_add]
  generalize (y1 &&& 3689348814741910323) + ((Int64.toUInt64 y1 >>> ((Int32.toInt64 2).toUInt64 &&& Int64.toUInt64 63)).toInt64 &&& 3689348814741910323) = y2 at s3 ⊢
  generalize hq : (fun k => p (2 * k) + p (2 * k + 1)) = q at s3
  have q1 : ∀ k, q k ≤ 4 := fun k => by rw [← hq]; have := p1 (2 * k); have := p1 (2 * k + 1); simp only; omega
  have q16 : ∀ k, 16 ≤ k → q k = 0 := fun k hk => by rw [← hq]; have := p32 (2 * k) (by omega); have := p32 (2 * k + 1) (by omega); simp only; omega
  have s3' : tn y2 = ev (fun k => q (2 * k) + 2 ^ 4 * q (2 * k + 1)) (2 * 4) 8 := by rw [s3]; exact ev_pair (s := 4) (n := 8)
  have s4 : tn ((y2 + (Int64.toUInt64 y2 >>> ((Int32.toInt64 4).toUInt64 &&& Int64.toUInt64 63)).toInt64) &&& 1085102592571150095) = ev (fun k => q (2 * k) + q (2 * k + 1)) 8 8 := by
    have a2 : tn (Int64.toUInt64 y2 >>> ((Int32.toInt64 4).toUInt64 &&& Int64.toUInt64 63)).toInt64 = ev (fun k => q (2 * k + 1) + 2 ^ 4 * q (2 * (k + 1))) (2 * 4) 8 := by
      rw [show (Int32.toInt64 4) = Int32.toInt64 (nI 4) from rfl, tn_shr (by decide), s3', ev_half (w := 4) (lo := fun k => q (2 * k)) (hi := fun k => q (2 * k + 1)) (fun k => by have := q1 (2 * k); omega) (q16 _ (by decide))]
    have lt : ev (fun k => q (2 * k) + 2 ^ 4 * q (2 * k + 1) + (q (2 * k + 1) + 2 ^ 4 * q (2 * (k + 1)))) (2 * 4) 8 < 2 ^ (2 * 4 * 8) := ev_lt fun k => by have := q1 (2 * k); have := q1 (2 * k + 1); have := q1 (2 * (k + 1)); omega
    rw [tn_and, tn_add (by rw [s3', a2, ev_add]; exact lt), s3', a2, ev_add, k0f, ev_and (fun k => by have := q1 (2 * k); have := q1 (2 * k + 1); have := q1 (2 * (k + 1)); omega) (fun k => by decide)]
    refine ev_congr fun k _ => ?_
    have := q1 (2 * k)
    have := q1 (2 * k + 1)
    rw [show (15 : Nat) = 2 ^ 4 - 1 from rfl, Nat.and_two_pow_sub_one_eq_mod]
    omega
  generalize (y2 + (Int64.toUInt64 y2 >>> ((Int32.toInt64 4).toUInt64 &&& Int64.toUInt64 63)).toInt64) &&& 1085102592571150095 = y3 at s4 ⊢
  generalize hc : (fun k => q (2 * k) + q (2 * k + 1)) = c at s4
  have c1 : ∀ k, c k ≤ 8 := fun k => by rw [← hc]; have := q1 (2 * k); have := q1 (2 * k + 1); simp only; omega
  have c8 : ∀ k, 8 ≤ k → c k = 0 := fun k hk => by rw [← hc]; have := q16 (2 * k) (by omega); have := q16 (2 * k + 1) (by omega); simp only; omega
  have sh : ∀ (e : Nat → Nat) j, (∀ k, e k < 2 ^ 8) → (∀ k, 8 ≤ k → e k = 0) → ev e 8 8 / 2 ^ (8 * j) = ev (fun k => e (k + j)) 8 8 := by
    intro e j h1 h2
    induction j with
    | zero => rw [Nat.mul_zero, Nat.pow_zero, Nat.div_one]; rfl
    | succ j ih =>
      rw [show 8 * (j + 1) = 8 * j + 8 by omega, Nat.pow_add, ← Nat.div_div_eq_div_mul, ih, ev_shift (fun k => h1 _) (h2 _ (by omega))]
      exact ev_congr fun k _ => by rw [show k + 1 + j = k + (j + 1) by omega]
  have step : ∀ (z : Int64) (e : Nat → Nat) (j : Nat), j ≤ 4 → tn z = ev e 8 8 → (∀ k, e k ≤ 32) → (∀ k, 8 ≤ k → e k = 0) → tn (z + (Int64.toUInt64 z >>> ((Int32.toInt64 (nI (8 * j))).toUInt64 &&& Int64.toUInt64 63)).toInt64) = ev (fun k => e k + e (k + j)) 8 8 := by
    intro z e j hj h1 h2 h3
    have a2 : tn (Int64.toUInt64 z >>> ((Int32.toInt64 (nI (8 * j))).toUInt64 &&& Int64.toUInt64 63)).toInt64 = ev (fun k => e (k + j)) 8 8 := by
      rw [tn_shr (by omega), h1, sh e j (fun k => by have := h2 k; omega) h3]
    have lt : ev (fun k => e k + e (k + j)) 8 8 < 2 ^ (8 * 8) := ev_lt fun k => by have := h2 k; have := h2 (k + j); omega
    rw [tn_add (by rw [h1, a2, ev_add]; exact lt), h1, a2, ev_add]
  have s5 := step y3 c 1 (by decide) s4 (fun k => by have := c1 k; omega) c8
  have s5' : tn (y3 + (Int64.toUInt64 y3 >>> ((Int32.toInt64 8).toUInt64 &&& Int64.toUInt64 63)).toInt64) = ev (fun k => c k + c (k + 1)) 8 8 := s5
  generalize y3 + (Int64.toUInt64 y3 >>> ((Int32.toInt64 8).toUInt64 &&& Int64.toUInt64 63)).toInt64 = y4 at s5' ⊢
  have s6 := step y4 (fun k => c k + c (k + 1)) 2 (by decide) s5' (fun k => by have := c1 k; have := c1 (k + 1); omega) (fun k hk => by have := c8 k hk; have := c8 (k + 1) (by omega); omega)
  have s6' : tn (y4 + (Int64.toUInt64 y4 >>> ((Int32.toInt64 16).toUInt64 &&& Int64.toUInt64 63)).toInt64) = ev (fun k => c k + c (k + 1) + (c (k + 2) + c (k + 2 + 1))) 8 8 := s6
  generalize y4 + (Int64.toUInt64 y4 >>> ((Int32.toInt64 16).toUInt64 &&& Int64.toUInt64 63)).toInt64 = y5 at s6' ⊢
  have s7 := step y5 (fun k => c k + c (k + 1) + (c (k + 2) + c (k + 2 + 1))) 4 (by decide) s6' (fun k => by have := c1 k; have := c1 (k + 1); have := c1 (k + 2); have := c1 (k + 2 + 1); omega) (fun k hk => by have := c8 k hk; have := c8 (k + 1) (by omega); have := c8 (k + 2) (by omega); have := c8 (k + 2 + 1) (by omega); omega)
  have s7' : tn (y5 + (Int64.toUInt64 y5 >>> ((Int32.toInt64 32).toUInt64 &&& Int64.toUInt64 63)).toInt64) = _ := s7
  generalize y5 + (Int64.toUInt64 y5 >>> ((Int32.toInt64 32).toUInt64 &&& Int64.toUInt64 63)).toInt64 = y6 at s7' ⊢
  rw [ev] at s7'
  have e32 : (Int64.toInt32 y6) &&& 127 = nI ((Int64.toInt32 y6).toBitVec.toNat % 128) := pk_and _ 7 (by decide)
  rw [e32]
  have e33 : (Int64.toInt32 y6).toBitVec.toNat = tn y6 % 2 ^ 32 := by
    rw [Int64.toBitVec_toInt32]
    unfold tn
    rw [BitVec.signExtend_eq_setWidth_of_le _ (by decide), BitVec.toNat_setWidth]
  rw [e33, s7']
  have fin : pcs b 64 = c 0 + c 1 + (c 2 + c 3) + (c 4 + c 5 + (c 6 + c 7)) := by
    rw [← hc, ← hq, ← hp]
    simp only [pcs, Nat.zero_add, Nat.mul_zero, Nat.mul_one, Nat.reduceMul, Nat.reduceAdd]
    omega
  rw [hpc, fin] at H
  have lo := c1 0
  have l1 := c1 1
  have l2 := c1 2
  have l3 := c1 3
  have l4 := c1 4
  have l5 := c1 5
  have l6 := c1 6
  have l7 := c1 7
  have : (c 0 + c (0 + 1) + (c (0 + 2) + c (0 + 2 + 1)) + (c (0 + 4) + c (0 + 4 + 1) + (c (0 + 4 + 2) + c (0 + 4 + 2 + 1))) + 2 ^ 8 * ev (fun k => c (k + 1) + c (k + 1 + 1) + (c (k + 1 + 2) + c (k + 1 + 2 + 1)) + (c (k + 1 + 4) + c (k + 1 + 4 + 1) + (c (k + 1 + 4 + 2) + c (k + 1 + 4 + 2 + 1)))) 8 7) % 2 ^ 32 % 128 = c 0 + c 1 + (c 2 + c 3) + (c 4 + c 5 + (c 6 + c 7)) := by
    simp only [Nat.zero_add, Nat.reduceAdd]
    omega
  rw [this]
  exact H
theorem pc_60 {y : Int64} (h : ∀ c, c < 64 → bt y c = true → c < 60) : pc y 64 = pc y 60 := by
  have e : ∀ c, 60 ≤ c → c < 64 → (bt y c).toNat = 0 := fun c h1 h2 => by
    cases z : bt y c with
    | false => rfl
    | true => have := h c h2 z; omega
  show pc y 60 + (bt y 60).toNat + (bt y 61).toNat + (bt y 62).toNat + (bt y 63).toNat = _
  rw [e 60 (by decide) (by decide), e 61 (by decide) (by decide), e 62 (by decide) (by decide), e 63 (by decide) (by decide), Nat.add_zero]
