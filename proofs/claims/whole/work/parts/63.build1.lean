/-! the class: the cut of a level -/
theorem bW (w : Int32) : ∀ k, k < 4 → ((Int32.toUInt32 w >>> (Int32.toUInt32 (8 * nI k) &&& Int32.toUInt32 31)).toInt32 &&& 255) = bL (Int32.toInt64 w) k := by
  intro k hk
  have e255 : ∀ j, j < 32 → (255 : Int32).toBitVec.getLsbD j = decide (j < 8) := by decide +kernel
  have es : ∀ k, k < 4 → (Int32.toUInt32 (8 * nI k) &&& Int32.toUInt32 31) = UInt32.ofNat (8 * k) := by decide +kernel
  refine i32_ext fun i hi => ?_
  rw [bL_bit _ (by omega) hi, es k hk, Int32.toBitVec_and, BitVec.getLsbD_and, e255 i hi]
  have e1 : (w.toUInt32 >>> (UInt32.ofNat (8 * k))).toInt32.toBitVec = w.toBitVec >>> (8 * k) := by
    show (w.toUInt32 >>> (UInt32.ofNat (8 * k))).toBitVec = _
    rw [UInt32.toBitVec_shiftRight]
    rcases (show k = 0 ∨ k = 1 ∨ k = 2 ∨ k = 3 by omega) with q | q | q | q <;> subst q <;> rfl
  rw [e1, BitVec.getLsbD_ushiftRight]
  by_cases h8 : i < 8
  · have h3 : 8 * k + i < 32 := by omega
    have h4 : 8 * k + i < 64 := by omega
    rw [Int32.toBitVec_toInt64, BitVec.getLsbD_signExtend]
    simp [h8, h3, h4]
  · simp [h8]
/-- the entries of a level, four ints each -/
def esO (h : jj_H) (wa : Nat) (es : List Row) : Prop := jK h wa = 21 ∧ 4 * es.length ≤ jN h wa ∧ jN h wa ≤ 800 ∧ es.length ≤ 200 ∧ ∀ i x c, es[i]? = some x → c < 4 → jI h 1000 wa (4 * i + c) = wd x c
theorem esO.w {h : jj_H} {wa W j : Nat} {es : List Row} (E : esO h wa es) (hW : W < 4 * es.length) (hj : j < 4) : eB es (4 * W + j) = bL (Int32.toInt64 (jI h 1000 wa W)) (3 - j) := by
  obtain ⟨x, hx⟩ : ∃ x, es[W / 4]? = some x := ⟨_, List.getElem?_eq_getElem (by omega)⟩
  have h1 := E.2.2.2.2 (W / 4) x (W % 4) hx (by omega)
  rw [show 4 * (W / 4) + W % 4 = W by omega] at h1
  have h2 := eB_at es (j := W / 4) (c := W % 4) (i := j) (by omega) hj
  rw [show 16 * (W / 4) + 4 * (W % 4) + j = 4 * W + j by omega] at h2
  rw [h1, h2, List.getD_eq_getElem?_getD, hx]
  rfl
def sh8n (r : Nat) : Int32 := 8 * nI r - 8
theorem sh8_0 : sh8n 0 < 0 := by decide
theorem sh8_1 : ∀ r, r < 4 → ¬ sh8n (r + 1) < 0 := by decide
theorem sh8_2 : ∀ r, r < 4 → sh8n (r + 1) = 8 * nI r := by decide
theorem sh8_3 : ∀ r, r < 4 → sh8n (r + 1) + (-8) = sh8n r := by decide
section JB
variable {h : jj_H} {Q : Value → jj_H → Prop} {wa : Nat} {es : List Row}
theorem c_tnd {x y : Int32} (H : Q (.int (tnd x y)) h) : jj_C mX8_turned 0 0 [.int x, .int y] h Q := EX8_turned _ _ fun d => H
theorem c_tll {x : Int32} (H : Q (.int (tll x)) h) : jj_C mX8_spread 0 0 [.int x] h Q := EX8_spread _ fun d => H
theorem c_roll {f e : Nat} (E : esO h wa es) (he : e < es.length) (hf : f ≤ e) (H : Q (.int (rl es f (16 * (e + 1 - f)))) h) : jj_C mX8_rollEntry 0 0 [.int (rl es f (16 * (e - f))), .ref wa, .int (nI f), .int (nI e)] h Q := by
  have k1 := E.1
  have n1 := E.2.1
  have n2 := E.2.2.1
  have n3 := E.2.2.2.1
  refine EX8_rollEntry _ _ _ _ fun d => ?_
  have inner : ∀ p, 4 * f + p < 4 * es.length → jj_WP d mX8_rollEntry 0 0 8 [(1, .ref wa), (2, .int (nI f)), (3, .int (nI e)), (4, .int (rl es f (4 * (p + 1)))), (5, .int (nI (4 * f + p + 1)))] [] h Q → ∀ r, r ≤ 4 → jj_WP d mX8_rollEntry 0 0 64 [(1, .ref wa), (2, .int (nI f)), (3, .int (nI e)), (4, .int (rl es f (4 * p + (4 - r)))), (5, .int (nI (4 * f + p))), (6, .int (jI h 1000 wa (4 * f + p))), (7, .int (if p < 6 then 0 else 1)), (8, .int (if p < 6 then 0 else jI h 1000 wa (4 * f + p - 6))), (9, .int (sh8n r))] [] h Q := by
    intro p hp nxt r
    induction r with
    | zero =>
      intro _
      refine VX8_rollEntry_64 _ _ _ _ _ _ _ _ _ ⟨fun _ => ?_, fun c => absurd sh8_0 c⟩
      rw [qa_1]
      exact nxt
    | succ r ih =>
      intro hr
      have hr4 : r < 4 := by omega
      have key : rl es f (4 * p + (4 - r)) = (tnd (rl es f (4 * p + (4 - (r + 1)))) 1 ^^^ tll (bL (Int32.toInt64 (jI h 1000 wa (4 * f + p))) r)) ^^^ (if p < 6 then 0 else tnd (tll (bL (Int32.toInt64 (jI h 1000 wa (4 * f + p - 6))) r)) 24) := by
        rw [show 4 * p + (4 - r) = (4 * p + (3 - r)) + 1 by omega, show 4 - (r + 1) = 3 - r by omega, rl]
        have b1 := E.w (W := 4 * f + p) (j := 3 - r) hp (by omega)
        rw [show 4 * (4 * f + p) + (3 - r) = 16 * f + (4 * p + (3 - r)) by omega, show 3 - (3 - r) = r by omega] at b1
        rw [b1]
        by_cases h6 : p < 6
        · rw [if_pos h6, if_pos (by omega)]
        · rw [if_neg h6, if_neg (by omega)]
          have b2 := E.w (W := 4 * f + p - 6) (j := 3 - r) (by omega) (by omega)
          rw [show 4 * (4 * f + p - 6) + (3 - r) = 16 * f + (4 * p + (3 - r)) - 24 by omega, show 3 - (3 - r) = r by omega] at b2
          rw [b2]
      have ih := ih (by omega)
      rw [key] at ih
      refine VX8_rollEntry_64 _ _ _ _ _ _ _ _ _ ⟨fun c => absurd c (sh8_1 r hr4), fun _ => c_tnd (c_tll ?_)⟩
      rw [sh8_3 r hr4, sh8_2 r hr4, bW (jI h 1000 wa (4 * f + p)) r hr4]
      by_cases h6 : p < 6
      · simp only [if_pos h6, Int32.xor_zero] at ih ⊢
        exact ⟨fun _ => ih, fun c => absurd trivial c⟩
      · simp only [if_neg h6] at ih ⊢
        refine ⟨fun c => absurd c (by decide), fun _ => ?_⟩
        rw [bW _ r hr4]
        exact c_tll (c_tnd ih)
  have loop : ∀ q c, c + q = 4 → jj_WP d mX8_rollEntry 0 0 8 [(1, .ref wa), (2, .int (nI f)), (3, .int (nI e)), (4, .int (rl es f (4 * (4 * (e - f) + c)))), (5, .int (nI (4 * f + (4 * (e - f) + c))))] [] h Q := by
    intro q
    induction q with
    | zero =>
      intro c hc
      refine VX8_rollEntry_8 _ _ _ _ _ ?_
      simp (disch := omega) only [qm_3, qm_4, qm_16, qm_600, qm_200, qm_8, qn_210, qn_3, qa_0, qb_0, qa_1, qb_1, qa_2, qb_2, qa_3, qb_3, qa_4, qb_4, qa_16, qb_16, qa_180, qb_180, qs_1, qs_2, qs_3, qs_4, qs_6, qs_24, nI_add, q_sub, q_pred, q_clamp, q_in, nI_leI, nI_ltI, nI_eq, ql_0, qL_0, qt_0, qT_0, qe_0, qc_0, qi_0, ql_1, qL_1, qt_1, qT_1, qe_1, qc_1, qi_1, ql_2, qL_2, qt_2, qT_2, qe_2, qc_2, qi_2, ql_3, qL_3, qt_3, qT_3, qe_3, qc_3, qi_3, ql_4, qL_4, qt_4, qT_4, qe_4, qc_4, qi_4, ql_6, qL_6, qt_6, qT_6, qe_6, qc_6, qi_6, ql_8, qL_8, qt_8, qT_8, qe_8, qc_8, qi_8, ql_10, qL_10, qt_10, qT_10, qe_10, qc_10, qi_10, ql_24, qL_24, qt_24, qT_24, qe_24, qc_24, qi_24, ql_60, qL_60, qt_60, qT_60, qe_60, qc_60, qi_60, ql_100, qL_100, qt_100, qT_100, qe_100, qc_100, qi_100, ql_200, qL_200, qt_200, qT_200, qe_200, qc_200, qi_200, ql_400, qL_400, qt_400, qT_400, qe_400, qc_400, qi_400, ql_600, qL_600, qt_600, qT_600, qe_600, qc_600, qi_600, ql_900, qL_900, qt_900, qT_900, qe_900, qc_900, qi_900, ql_1200, qL_1200, qt_1200, qT_1200, qe_1200, qc_1200, qi_1200, ql_65536, qL_65536, qt_65536, qT_65536, qe_65536, qc_65536, qi_65536]
      refine ⟨fun _ => ?_, fun z => by omega⟩
      rw [show 4 * (4 * (e - f) + c) = 16 * (e + 1 - f) by omega]
      exact H
    | succ q ih =>
      intro c hc
      have nxt := ih (c + 1) (by omega)
      have := inner (4 * (e - f) + c) (by omega) (by rw [show 4 * f + (4 * (e - f) + c) + 1 = 4 * f + (4 * (e - f) + (c + 1)) by omega, show 4 * (4 * (e - f) + c + 1) = 4 * (4 * (e - f) + (c + 1)) by omega]; exact nxt) 4 (by omega)
      rw [show 4 * (4 * (e - f) + c) + (4 - 4) = 4 * (4 * (e - f) + c) by omega, show sh8n 4 = 24 by decide] at this
      generalize hp : 4 * (e - f) + c = p at *
      refine VX8_rollEntry_8 _ _ _ _ _ ?_
      simp (disch := omega) only [k1, qm_3, qm_4, qm_16, qm_600, qm_200, qm_8, qn_210, qn_3, qa_0, qb_0, qa_1, qb_1, qa_2, qb_2, qa_3, qb_3, qa_4, qb_4, qa_16, qb_16, qa_180, qb_180, qs_1, qs_2, qs_3, qs_4, qs_6, qs_24, nI_add, q_sub, q_pred, q_clamp, q_in, nI_leI, nI_ltI, nI_eq, ql_0, qL_0, qt_0, qT_0, qe_0, qc_0, qi_0, ql_1, qL_1, qt_1, qT_1, qe_1, qc_1, qi_1, ql_2, qL_2, qt_2, qT_2, qe_2, qc_2, qi_2, ql_3, qL_3, qt_3, qT_3, qe_3, qc_3, qi_3, ql_4, qL_4, qt_4, qT_4, qe_4, qc_4, qi_4, ql_6, qL_6, qt_6, qT_6, qe_6, qc_6, qi_6, ql_8, qL_8, qt_8, qT_8, qe_8, qc_8, qi_8, ql_10, qL_10, qt_10, qT_10, qe_10, qc_10, qi_10, ql_24, qL_24, qt_24, qT_24, qe_24, qc_24, qi_24, ql_60, qL_60, qt_60, qT_60, qe_60, qc_60, qi_60, ql_100, qL_100, qt_100, qT_100, qe_100, qc_100, qi_100, ql_200, qL_200, qt_200, qT_200, qe_200, qc_200, qi_200, ql_400, qL_400, qt_400, qT_400, qe_400, qc_400, qi_400, ql_600, qL_600, qt_600, qT_600, qe_600, qc_600, qi_600, ql_900, qL_900, qt_900, qT_900, qe_900, qc_900, qi_900, ql_1200, qL_1200, qt_1200, qT_1200, qe_1200, qc_1200, qi_1200, ql_65536, qL_65536, qt_65536, qT_65536, qe_65536, qc_65536, qi_65536, true_and, and_true, eq_self, forall_eq, forall_eq_apply_imp_iff]
      refine ⟨fun z => by omega, fun _ => ⟨fun z => ?_, fun z => ?_⟩⟩
      · have h6 : p < 6 := by omega
        simp only [if_pos h6] at this
        exact this
      · have h6 : ¬ p < 6 := by omega
        simp only [if_neg h6] at this
        simp (disch := omega) only [qm_3, qm_4, qm_16, qm_600, qm_200, qm_8, qn_210, qn_3, qa_0, qb_0, qa_1, qb_1, qa_2, qb_2, qa_3, qb_3, qa_4, qb_4, qa_16, qb_16, qa_180, qb_180, qs_1, qs_2, qs_3, qs_4, qs_6, qs_24, nI_add, q_sub, q_pred, q_clamp, q_in, nI_leI, nI_ltI, nI_eq, ql_0, qL_0, qt_0, qT_0, qe_0, qc_0, qi_0, ql_1, qL_1, qt_1, qT_1, qe_1, qc_1, qi_1, ql_2, qL_2, qt_2, qT_2, qe_2, qc_2, qi_2, ql_3, qL_3, qt_3, qT_3, qe_3, qc_3, qi_3, ql_4, qL_4, qt_4, qT_4, qe_4, qc_4, qi_4, ql_6, qL_6, qt_6, qT_6, qe_6, qc_6, qi_6, ql_8, qL_8, qt_8, qT_8, qe_8, qc_8, qi_8, ql_10, qL_10, qt_10, qT_10, qe_10, qc_10, qi_10, ql_24, qL_24, qt_24, qT_24, qe_24, qc_24, qi_24, ql_60, qL_60, qt_60, qT_60, qe_60, qc_60, qi_60, ql_100, qL_100, qt_100, qT_100, qe_100, qc_100, qi_100, ql_200, qL_200, qt_200, qT_200, qe_200, qc_200, qi_200, ql_400, qL_400, qt_400, qT_400, qe_400, qc_400, qi_400, ql_600, qL_600, qt_600, qT_600, qe_600, qc_600, qi_600, ql_900, qL_900, qt_900, qT_900, qe_900, qc_900, qi_900, ql_1200, qL_1200, qt_1200, qT_1200, qe_1200, qc_1200, qi_1200, ql_65536, qL_65536, qt_65536, qT_65536, qe_65536, qc_65536, qi_65536, true_and, and_true, eq_self, forall_eq, forall_eq_apply_imp_iff]
        exact this
  have := loop 4 0 (by omega)
  rw [show 4 * (4 * (e - f) + 0) = 16 * (e - f) by omega, show 4 * f + (4 * (e - f) + 0) = 4 * e by omega] at this
  rw [qm_4]
  exact this
theorem hsh_0 {lv : Nat} (h : lv < 1000) : Int32.toInt64 (nI lv + 1) = Int32.toInt64 (nI lv) + 1 := by
  rw [qa_1]
  apply Int64.toInt_inj.mp
  rw [Int64.toInt_add, Int32.toInt_toInt64, Int32.toInt_toInt64, nI_toInt (by omega), nI_toInt (by omega), show (1 : Int64).toInt = 1 from rfl]
  rw [Int.bmod_eq_of_le (by omega) (by omega)]
  omega
theorem c_hash {lv f n : Nat} (E : esO h wa es) (hn : f + n ≤ es.length) (hlv : lv < 1000) (H : Q (.long (hsh lv es f (16 * n))) h) : jj_C mX8_hashOf 0 0 [.int (nI lv), .ref wa, .int (nI f), .int (nI (f + n))] h Q := by
  have k1 := E.1
  have n1 := E.2.1
  have n2 := E.2.2.1
  have n3 := E.2.2.2.1
  refine EX8_hashOf _ _ _ _ fun d => ?_
  have inner : ∀ p, 4 * f + p < 4 * es.length → jj_WP d mX8_hashOf 0 0 11 [(1, .ref wa), (3, .int (nI (f + n))), (4, .long (hsh lv es f (4 * (p + 1)))), (6, .int (nI (4 * f + p + 1)))] [] h Q → ∀ r, r ≤ 4 → jj_WP d mX8_hashOf 0 0 29 [(1, .ref wa), (3, .int (nI (f + n))), (4, .long (hsh lv es f (4 * p + (4 - r)))), (6, .int (nI (4 * f + p))), (7, .int (jI h 1000 wa (4 * f + p))), (8, .int (sh8n r))] [] h Q := by
    intro p hp nxt r
    induction r with
    | zero =>
      intro _
      refine VX8_hashOf_29 _ _ _ _ _ _ ⟨fun _ => ?_, fun c => absurd sh8_0 c⟩
      rw [qa_1]
      exact nxt
    | succ r ih =>
      intro hr
      have hr4 : r < 4 := by omega
      have ih := ih (by omega)
      have b1 := E.w (W := 4 * f + p) (j := 3 - r) hp (by omega)
      rw [show 4 * (4 * f + p) + (3 - r) = 16 * f + (4 * p + (3 - r)) by omega, show 3 - (3 - r) = r by omega] at b1
      rw [show 4 * p + (4 - r) = (4 * p + (3 - r)) + 1 by omega, hsh, b1] at ih
      refine VX8_hashOf_29 _ _ _ _ _ _ ⟨fun c => absurd c (sh8_1 r hr4), fun _ => ?_⟩
      rw [sh8_3 r hr4, sh8_2 r hr4, bW _ r hr4, show 4 - (r + 1) = 3 - r by omega]
      exact ih
  have loop : ∀ q p, p + q = 4 * n → jj_WP d mX8_hashOf 0 0 11 [(1, .ref wa), (3, .int (nI (f + n))), (4, .long (hsh lv es f (4 * p))), (6, .int (nI (4 * f + p)))] [] h Q := by
    intro q
    induction q with
    | zero =>
      intro p hp
      refine VX8_hashOf_11 _ _ _ _ ?_
      simp (disch := omega) only [qm_3, qm_4, qm_16, qm_600, qm_200, qm_8, qn_210, qn_3, qa_0, qb_0, qa_1, qb_1, qa_2, qb_2, qa_3, qb_3, qa_4, qb_4, qa_16, qb_16, qa_180, qb_180, qs_1, qs_2, qs_3, qs_4, qs_6, qs_24, nI_add, q_sub, q_pred, q_clamp, q_in, nI_leI, nI_ltI, nI_eq, ql_0, qL_0, qt_0, qT_0, qe_0, qc_0, qi_0, ql_1, qL_1, qt_1, qT_1, qe_1, qc_1, qi_1, ql_2, qL_2, qt_2, qT_2, qe_2, qc_2, qi_2, ql_3, qL_3, qt_3, qT_3, qe_3, qc_3, qi_3, ql_4, qL_4, qt_4, qT_4, qe_4, qc_4, qi_4, ql_6, qL_6, qt_6, qT_6, qe_6, qc_6, qi_6, ql_8, qL_8, qt_8, qT_8, qe_8, qc_8, qi_8, ql_10, qL_10, qt_10, qT_10, qe_10, qc_10, qi_10, ql_24, qL_24, qt_24, qT_24, qe_24, qc_24, qi_24, ql_60, qL_60, qt_60, qT_60, qe_60, qc_60, qi_60, ql_100, qL_100, qt_100, qT_100, qe_100, qc_100, qi_100, ql_200, qL_200, qt_200, qT_200, qe_200, qc_200, qi_200, ql_400, qL_400, qt_400, qT_400, qe_400, qc_400, qi_400, ql_600, qL_600, qt_600, qT_600, qe_600, qc_600, qi_600, ql_900, qL_900, qt_900, qT_900, qe_900, qc_900, qi_900, ql_1200, qL_1200, qt_1200, qT_1200, qe_1200, qc_1200, qi_1200, ql_65536, qL_65536, qt_65536, qT_65536, qe_65536, qc_65536, qi_65536]
      refine ⟨fun _ => ?_, fun z => by omega⟩
      rw [show 4 * p = 16 * n by omega]
      exact H
    | succ q ih =>
      intro p hp
      have this := inner p (by omega) (by rw [show 4 * f + p + 1 = 4 * f + (p + 1) by omega]; exact ih (p + 1) (by omega)) 4 (by omega)
      rw [show 4 * p + (4 - 4) = 4 * p by omega, show sh8n 4 = 24 by decide] at this
      refine VX8_hashOf_11 _ _ _ _ ?_
      simp (disch := omega) only [k1, qm_3, qm_4, qm_16, qm_600, qm_200, qm_8, qn_210, qn_3, qa_0, qb_0, qa_1, qb_1, qa_2, qb_2, qa_3, qb_3, qa_4, qb_4, qa_16, qb_16, qa_180, qb_180, qs_1, qs_2, qs_3, qs_4, qs_6, qs_24, nI_add, q_sub, q_pred, q_clamp, q_in, nI_leI, nI_ltI, nI_eq, ql_0, qL_0, qt_0, qT_0, qe_0, qc_0, qi_0, ql_1, qL_1, qt_1, qT_1, qe_1, qc_1, qi_1, ql_2, qL_2, qt_2, qT_2, qe_2, qc_2, qi_2, ql_3, qL_3, qt_3, qT_3, qe_3, qc_3, qi_3, ql_4, qL_4, qt_4, qT_4, qe_4, qc_4, qi_4, ql_6, qL_6, qt_6, qT_6, qe_6, qc_6, qi_6, ql_8, qL_8, qt_8, qT_8, qe_8, qc_8, qi_8, ql_10, qL_10, qt_10, qT_10, qe_10, qc_10, qi_10, ql_24, qL_24, qt_24, qT_24, qe_24, qc_24, qi_24, ql_60, qL_60, qt_60, qT_60, qe_60, qc_60, qi_60, ql_100, qL_100, qt_100, qT_100, qe_100, qc_100, qi_100, ql_200, qL_200, qt_200, qT_200, qe_200, qc_200, qi_200, ql_400, qL_400, qt_400, qT_400, qe_400, qc_400, qi_400, ql_600, qL_600, qt_600, qT_600, qe_600, qc_600, qi_600, ql_900, qL_900, qt_900, qT_900, qe_900, qc_900, qi_900, ql_1200, qL_1200, qt_1200, qT_1200, qe_1200, qc_1200, qi_1200, ql_65536, qL_65536, qt_65536, qT_65536, qe_65536, qc_65536, qi_65536, true_and, and_true, eq_self, forall_eq, forall_eq_apply_imp_iff]
      exact ⟨fun z => by omega, fun _ => this⟩
  have := loop (4 * n) 0 (by omega)
  rw [hsh_0 hlv, qm_4]
  exact this
theorem c_below {lv f n : Nat} {fb : Nat → Nat × Nat} (E : esO h wa es) (hn : f + n ≤ es.length) (hlv : lv < 1000) (hb : lv ≠ 0 → ∀ e x, es[e]? = some x → x.2.2.2 = nI (fb e).2) (h0 : lv = 0 → fb = fun j => (j, 1)) (H : Q (.int (nI (sumB fb f n))) h) : jj_C mX8_rowsBelow 0 0 [.int (nI lv), .ref wa, .int (nI f), .int (nI (f + n))] h Q := by
  have k1 := E.1
  have n1 := E.2.1
  have n2 := E.2.2.1
  have n3 := E.2.2.2.1
  refine EX8_rowsBelow _ _ _ _ fun d => ?_
  simp (disch := omega) only [q_clamp, q_in, nI_leI, nI_ltI, nI_eq, ql_0, qL_0, qt_0, qT_0, qe_0, qc_0, qi_0, ql_1, qL_1, qt_1, qT_1, qe_1, qc_1, qi_1, ql_2, qL_2, qt_2, qT_2, qe_2, qc_2, qi_2, ql_3, qL_3, qt_3, qT_3, qe_3, qc_3, qi_3, ql_4, qL_4, qt_4, qT_4, qe_4, qc_4, qi_4, ql_6, qL_6, qt_6, qT_6, qe_6, qc_6, qi_6, ql_8, qL_8, qt_8, qT_8, qe_8, qc_8, qi_8, ql_10, qL_10, qt_10, qT_10, qe_10, qc_10, qi_10, ql_24, qL_24, qt_24, qT_24, qe_24, qc_24, qi_24, ql_60, qL_60, qt_60, qT_60, qe_60, qc_60, qi_60, ql_100, qL_100, qt_100, qT_100, qe_100, qc_100, qi_100, ql_200, qL_200, qt_200, qT_200, qe_200, qc_200, qi_200, ql_400, qL_400, qt_400, qT_400, qe_400, qc_400, qi_400, ql_600, qL_600, qt_600, qT_600, qe_600, qc_600, qi_600, ql_900, qL_900, qt_900, qT_900, qe_900, qc_900, qi_900, ql_1200, qL_1200, qt_1200, qT_1200, qe_1200, qc_1200, qi_1200, ql_65536, qL_65536, qt_65536, qT_65536, qe_65536, qc_65536, qi_65536]
  refine ⟨fun c => ?_, fun c => ?_⟩
  · have loop : ∀ q k, k + q = n → jj_WP d mX8_rowsBelow 0 0 14 [(1, .ref wa), (3, .int (nI (f + n))), (4, .int (nI (sumB fb f k))), (5, .int (nI (f + k)))] [] h Q := by
      intro q
      induction q with
      | zero =>
        intro k hk
        refine VX8_rowsBelow_14 _ _ _ _ ?_
        simp (disch := omega) only [q_clamp, q_in, nI_leI, nI_ltI, nI_eq, ql_0, qL_0, qt_0, qT_0, qe_0, qc_0, qi_0, ql_1, qL_1, qt_1, qT_1, qe_1, qc_1, qi_1, ql_2, qL_2, qt_2, qT_2, qe_2, qc_2, qi_2, ql_3, qL_3, qt_3, qT_3, qe_3, qc_3, qi_3, ql_4, qL_4, qt_4, qT_4, qe_4, qc_4, qi_4, ql_6, qL_6, qt_6, qT_6, qe_6, qc_6, qi_6, ql_8, qL_8, qt_8, qT_8, qe_8, qc_8, qi_8, ql_10, qL_10, qt_10, qT_10, qe_10, qc_10, qi_10, ql_24, qL_24, qt_24, qT_24, qe_24, qc_24, qi_24, ql_60, qL_60, qt_60, qT_60, qe_60, qc_60, qi_60, ql_100, qL_100, qt_100, qT_100, qe_100, qc_100, qi_100, ql_200, qL_200, qt_200, qT_200, qe_200, qc_200, qi_200, ql_400, qL_400, qt_400, qT_400, qe_400, qc_400, qi_400, ql_600, qL_600, qt_600, qT_600, qe_600, qc_600, qi_600, ql_900, qL_900, qt_900, qT_900, qe_900, qc_900, qi_900, ql_1200, qL_1200, qt_1200, qT_1200, qe_1200, qc_1200, qi_1200, ql_65536, qL_65536, qt_65536, qT_65536, qe_65536, qc_65536, qi_65536]
        refine ⟨fun _ => ?_, fun z => by omega⟩
        rw [show k = n by omega]
        exact H
      | succ q ih =>
        intro k hk
        obtain ⟨x, hx⟩ : ∃ x, es[f + k]? = some x := ⟨_, List.getElem?_eq_getElem (by omega)⟩
        have v := E.2.2.2.2 (f + k) x 3 hx (by omega)
        have v2 := hb c _ x hx
        have v3 : jI h 1000 wa (4 * (f + k) + 3) = nI (fb (f + k)).2 := by rw [v]; exact v2
        refine VX8_rowsBelow_14 _ _ _ _ ?_
        simp (disch := omega) only [k1, qm_3, qm_4, qm_16, qm_600, qm_200, qm_8, qn_210, qn_3, qa_0, qb_0, qa_1, qb_1, qa_2, qb_2, qa_3, qb_3, qa_4, qb_4, qa_16, qb_16, qa_180, qb_180, qs_1, qs_2, qs_3, qs_4, qs_6, qs_24, nI_add, q_sub, q_pred, q_clamp, q_in, nI_leI, nI_ltI, nI_eq, ql_0, qL_0, qt_0, qT_0, qe_0, qc_0, qi_0, ql_1, qL_1, qt_1, qT_1, qe_1, qc_1, qi_1, ql_2, qL_2, qt_2, qT_2, qe_2, qc_2, qi_2, ql_3, qL_3, qt_3, qT_3, qe_3, qc_3, qi_3, ql_4, qL_4, qt_4, qT_4, qe_4, qc_4, qi_4, ql_6, qL_6, qt_6, qT_6, qe_6, qc_6, qi_6, ql_8, qL_8, qt_8, qT_8, qe_8, qc_8, qi_8, ql_10, qL_10, qt_10, qT_10, qe_10, qc_10, qi_10, ql_24, qL_24, qt_24, qT_24, qe_24, qc_24, qi_24, ql_60, qL_60, qt_60, qT_60, qe_60, qc_60, qi_60, ql_100, qL_100, qt_100, qT_100, qe_100, qc_100, qi_100, ql_200, qL_200, qt_200, qT_200, qe_200, qc_200, qi_200, ql_400, qL_400, qt_400, qT_400, qe_400, qc_400, qi_400, ql_600, qL_600, qt_600, qT_600, qe_600, qc_600, qi_600, ql_900, qL_900, qt_900, qT_900, qe_900, qc_900, qi_900, ql_1200, qL_1200, qt_1200, qT_1200, qe_1200, qc_1200, qi_1200, ql_65536, qL_65536, qt_65536, qT_65536, qe_65536, qc_65536, qi_65536, v3, true_and, and_true, eq_self, forall_eq, forall_eq_apply_imp_iff]
        refine ⟨fun z => by omega, fun _ => ?_⟩
        have := ih (k + 1) (by omega)
        simp only [sumB] at this
        rw [Nat.add_assoc]
        exact this
    exact loop n 0 (by omega)
  · rw [q_sub (by omega), show f + n - f = n by omega]
    rw [h0 c, sumB_1] at H
    exact H
theorem c_ends {f i : Nat} (hf : f ≤ i) (hi : i < 200) (hm : i + 1 - f ≤ 10) (hlast : i + 1 ≠ es.length) (H : Q (.int (if ends es f i then 1 else 0)) h) : jj_C mX8_endsNode 0 0 [.int (nI (i + 1 - f)), .int (rl es f (16 * (i + 1 - f)))] h Q := by
  refine EX8_endsNode _ _ fun d => ?_
  simp (disch := omega) only [q_clamp, q_in, nI_leI, nI_ltI, nI_eq, ql_0, qL_0, qt_0, qT_0, qe_0, qc_0, qi_0, ql_1, qL_1, qt_1, qT_1, qe_1, qc_1, qi_1, ql_2, qL_2, qt_2, qT_2, qe_2, qc_2, qi_2, ql_3, qL_3, qt_3, qT_3, qe_3, qc_3, qi_3, ql_4, qL_4, qt_4, qT_4, qe_4, qc_4, qi_4, ql_6, qL_6, qt_6, qT_6, qe_6, qc_6, qi_6, ql_8, qL_8, qt_8, qT_8, qe_8, qc_8, qi_8, ql_10, qL_10, qt_10, qT_10, qe_10, qc_10, qi_10, ql_24, qL_24, qt_24, qT_24, qe_24, qc_24, qi_24, ql_60, qL_60, qt_60, qT_60, qe_60, qc_60, qi_60, ql_100, qL_100, qt_100, qT_100, qe_100, qc_100, qi_100, ql_200, qL_200, qt_200, qT_200, qe_200, qc_200, qi_200, ql_400, qL_400, qt_400, qT_400, qe_400, qc_400, qi_400, ql_600, qL_600, qt_600, qT_600, qe_600, qc_600, qi_600, ql_900, qL_900, qt_900, qT_900, qe_900, qc_900, qi_900, ql_1200, qL_1200, qt_1200, qT_1200, qe_1200, qc_1200, qi_1200, ql_65536, qL_65536, qt_65536, qT_65536, qe_65536, qc_65536, qi_65536]
  unfold ends at H
  rw [decide_eq_false hlast, Bool.false_or] at H
  refine ⟨fun c => ?_, fun c => ⟨fun c2 => ?_, fun c2 => ⟨fun c3 => ?_, fun c3 => ?_⟩⟩⟩
  · rw [decide_eq_true (show i + 1 - f = 10 by omega)] at H
    exact H
  · rw [decide_eq_false (show ¬ i + 1 - f = 10 by omega), decide_eq_false (show ¬ 2 ≤ i + 1 - f by omega)] at H
    exact H
  · rw [decide_eq_false (show ¬ i + 1 - f = 10 by omega), decide_eq_true (show 2 ≤ i + 1 - f by omega), decide_eq_false c3] at H
    exact H
  · rw [decide_eq_false (show ¬ i + 1 - f = 10 by omega), decide_eq_true (show 2 ≤ i + 1 - f by omega), decide_eq_true c3] at H
    exact H
end JB
