/-! the reference: rows -/
/-- how many of the first keys are less: the first place that is not less, or the end -/
def isRk (f : Nat → Int32) (n : Nat) (key : Int32) (p : Nat) : Prop := p ≤ n ∧ (∀ j, j < p → f j < key) ∧ (p < n → ¬ f p < key)
theorem isRk.uniq {f : Nat → Int32} {n : Nat} {key : Int32} {p q : Nat} (a : isRk f n key p) (b : isRk f n key q) : p = q := by
  rcases Nat.lt_trichotomy p q with h | h | h
  · exact absurd (b.2.1 p h) (a.2.2 (Nat.lt_of_lt_of_le h b.1))
  · exact h
  · exact absurd (a.2.1 q h) (b.2.2 (Nat.lt_of_lt_of_le h a.1))
theorem s_rowAt {m s t i : Nat} {h : jj_H} {Q : Value → jj_H → Prop} (H : Q (.int (nI (600 * s + 200 * t + i))) h) : jj_C mX10_rowAt 0 0 [.ref m, .int (nI s), .int (nI t), .int (nI i)] h Q := by
  refine EX10_rowAt _ _ _ _ fun d => ?_
  simp only [q_mul, q_mulr, nI_add, q_addl, q_ladd]
  exact H
theorem s_rankOf {m s t n : Nat} {key : Int32} {h : jj_H} {Q : Value → jj_H → Prop} (M : rM h m) (hs : s < 62) (ht : t < 3) (hn : n ≤ 200) (hz : jI h 1000 (m + 3) (3 * s + t) = nI n) (H : ∀ p, isRk (fun i => jI h 1000 (m + 1) (600 * s + 200 * t + i)) n key p → Q (.int (nI p)) h) : jj_C mX10_rankOf 0 0 [.ref m, .int (nI s), .int (nI t), .int key] h Q := by
  refine EX10_rankOf _ _ _ _ fun d => ?_
  have loop : ∀ k i, n - i ≤ k → i ≤ n → (∀ j, j < i → jI h 1000 (m + 1) (600 * s + 200 * t + j) < key) → jj_WP d mX10_rankOf 0 0 3 [(0, .ref m), (1, .int (nI s)), (2, .int (nI t)), (3, .int key), (4, .int (nI i))] [] h Q := by
    intro k
    induction k with
    | zero =>
      intro i hk hi hl
      refine VX10_rankOf_3 _ _ _ _ _ ?_
      simp (disch := omega) only [(rM_k M), (rM_r501 M), (rM_k1 M), (rM_n1 M), (rM_r502 M), (rM_k2 M), (rM_n2 M), (rM_r503 M), (rM_k3 M), (rM_n3 M), (rM_r504 M), (rM_k4 M), (rM_n4 M), (rM_r505 M), (rM_k5 M), (rM_n5 M), (rM_r506 M), (rM_k6 M), (rM_n6 M), (rM_r507 M), (rM_k7 M), (rM_n7 M), (rM_r508 M), (rM_k8 M), (rM_n8 M), (rM_r509 M), (rM_k9 M), (rM_n9 M), (rM_r510 M), (rM_k10 M), (rM_n10 M), (rM_r511 M), (rM_k11 M), (rM_n11 M), (rM_r512 M), (rM_k12 M), (rM_n12 M), (rM_r515 M), (rM_k13 M), (rM_n13 M), (rM_r516 M), (rM_k14 M), (rM_n14 M), (rM_r517 M), (rM_k15 M), (rM_n15 M), (rM_r518 M), (rM_k16 M), (rM_n16 M), (rM_r524 M), (rM_k17 M), (rM_n17 M), (rM_r525 M), (rM_k18 M), (rM_n18 M), (rM_r526 M), (rM_k19 M), (rM_n19 M), (rM_r528 M), (rM_k20 M), (rM_n20 M), (rM_r529 M), (rM_k21 M), (rM_n21 M), (rM_r531 M), (rM_k22 M), (rM_n22 M), (rM_r532 M), (rM_k23 M), (rM_n23 M), (rM_r533 M), (rM_k24 M), (rM_n24 M), q_mul, q_mulr, nI_add, q_addl, q_ladd, q_clamp, q_in, nI_leI, nI_ltI, nI_eq, q_0le, q_lt0, q_leL, q_Lle, q_ltL, q_Llt, q_eqL, hz, true_and, and_true, eq_self, forall_eq, forall_eq_apply_imp_iff]
      refine ⟨fun c => H i ⟨hi, hl, fun q => by omega⟩, fun c => by omega⟩
    | succ k ih =>
      intro i hk hi hl
      refine VX10_rankOf_3 _ _ _ _ _ ?_
      simp (disch := omega) only [(rM_k M), (rM_r501 M), (rM_k1 M), (rM_n1 M), (rM_r502 M), (rM_k2 M), (rM_n2 M), (rM_r503 M), (rM_k3 M), (rM_n3 M), (rM_r504 M), (rM_k4 M), (rM_n4 M), (rM_r505 M), (rM_k5 M), (rM_n5 M), (rM_r506 M), (rM_k6 M), (rM_n6 M), (rM_r507 M), (rM_k7 M), (rM_n7 M), (rM_r508 M), (rM_k8 M), (rM_n8 M), (rM_r509 M), (rM_k9 M), (rM_n9 M), (rM_r510 M), (rM_k10 M), (rM_n10 M), (rM_r511 M), (rM_k11 M), (rM_n11 M), (rM_r512 M), (rM_k12 M), (rM_n12 M), (rM_r515 M), (rM_k13 M), (rM_n13 M), (rM_r516 M), (rM_k14 M), (rM_n14 M), (rM_r517 M), (rM_k15 M), (rM_n15 M), (rM_r518 M), (rM_k16 M), (rM_n16 M), (rM_r524 M), (rM_k17 M), (rM_n17 M), (rM_r525 M), (rM_k18 M), (rM_n18 M), (rM_r526 M), (rM_k19 M), (rM_n19 M), (rM_r528 M), (rM_k20 M), (rM_n20 M), (rM_r529 M), (rM_k21 M), (rM_n21 M), (rM_r531 M), (rM_k22 M), (rM_n22 M), (rM_r532 M), (rM_k23 M), (rM_n23 M), (rM_r533 M), (rM_k24 M), (rM_n24 M), q_mul, q_mulr, nI_add, q_addl, q_ladd, q_clamp, q_in, nI_leI, nI_ltI, nI_eq, q_0le, q_lt0, q_leL, q_Lle, q_ltL, q_Llt, q_eqL, hz, true_and, and_true, eq_self, forall_eq, forall_eq_apply_imp_iff]
      refine ⟨fun c => H i ⟨hi, hl, fun q => by omega⟩, fun c => s_rowAt ?_⟩
      simp (disch := omega) only [jj_vi, (rM_k M), (rM_r501 M), (rM_k1 M), (rM_n1 M), (rM_r502 M), (rM_k2 M), (rM_n2 M), (rM_r503 M), (rM_k3 M), (rM_n3 M), (rM_r504 M), (rM_k4 M), (rM_n4 M), (rM_r505 M), (rM_k5 M), (rM_n5 M), (rM_r506 M), (rM_k6 M), (rM_n6 M), (rM_r507 M), (rM_k7 M), (rM_n7 M), (rM_r508 M), (rM_k8 M), (rM_n8 M), (rM_r509 M), (rM_k9 M), (rM_n9 M), (rM_r510 M), (rM_k10 M), (rM_n10 M), (rM_r511 M), (rM_k11 M), (rM_n11 M), (rM_r512 M), (rM_k12 M), (rM_n12 M), (rM_r515 M), (rM_k13 M), (rM_n13 M), (rM_r516 M), (rM_k14 M), (rM_n14 M), (rM_r517 M), (rM_k15 M), (rM_n15 M), (rM_r518 M), (rM_k16 M), (rM_n16 M), (rM_r524 M), (rM_k17 M), (rM_n17 M), (rM_r525 M), (rM_k18 M), (rM_n18 M), (rM_r526 M), (rM_k19 M), (rM_n19 M), (rM_r528 M), (rM_k20 M), (rM_n20 M), (rM_r529 M), (rM_k21 M), (rM_n21 M), (rM_r531 M), (rM_k22 M), (rM_n22 M), (rM_r532 M), (rM_k23 M), (rM_n23 M), (rM_r533 M), (rM_k24 M), (rM_n24 M), q_mul, q_mulr, nI_add, q_addl, q_ladd, q_clamp, q_in, nI_leI, nI_ltI, nI_eq, q_0le, q_lt0, q_leL, q_Lle, q_ltL, q_Llt, q_eqL, true_and, and_true, eq_self, forall_eq, forall_eq_apply_imp_iff]
      refine ⟨fun c2 => H i ⟨hi, hl, fun _ => Int32.not_lt.mpr c2⟩, fun c2 => ih (i + 1) (by omega) (by omega) fun j hj => ?_⟩
      rcases Nat.lt_or_ge j i with q | q
      · exact hl j q
      · rw [show j = i by omega]
        exact Int32.not_le.mp c2
  exact loop n 0 (by omega) (by omega) (fun j hj => by omega)
