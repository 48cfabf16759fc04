/-! the calls on the work: what they answer and leave -/
def a_put (s : St) (x k c0 c1 c2 : Int32) : Int32 × St := match lim 3 x with
  | none => (-5, s)
  | some t => if 0 < s.mg then (-3, s) else if (s.T 60 t).length = 200 ∧ (lk (s.T 60 t) k).isNone then (-2, s) else (if (lk (s.T 60 t) k).isSome then 0 else 1, s.wk t (insT (s.T 60 t) (k, c0, c1, c2)))
def a_cell (s : St) (x k c v : Int32) : Int32 × St := match lim 3 x, lim 3 c with
  | some t, some j => if 0 < s.mg then (-3, s) else if (lk (s.T 60 t) k).isNone then (-1, s) else (1, s.wk t (colT (s.T 60 t) k j v))
  | _, _ => (-5, s)
def a_drop (s : St) (x k : Int32) : Int32 × St := match lim 3 x with
  | none => (-5, s)
  | some t => if 0 < s.mg then (-3, s) else (if (lk (s.T 60 t) k).isSome then 1 else 0, s.wk t (delT (s.T 60 t) k))
def a_fill (s : St) (x f st n w : Int32) : Int32 × St := match lim 3 x, lim 101 n with
  | some t, some r => if st = 0 then (-5, s) else if 0 < s.mg then (-3, s) else if 200 < (s.T 60 t).length + mor (s.T 60 t) f st r then (-2, s) else (nI (fls f st r 0 w (s.T 60 t)).length, s.wk t (fls f st r 0 w (s.T 60 t)))
  | _, _ => (-5, s)
def nth : Int64 := 4294967296
def colOf (r : Row) (c : Nat) : Int32 := wd r (c + 1)
def a_get (s : St) (x k c : Int32) : Int64 := match lim 3 x, lim 3 c with
  | some t, some j => match lk (s.T 60 t) k with
    | some r => Int32.toInt64 (colOf r j)
    | none => nth
  | _, _ => nth
def a_size (s : St) (x : Int32) : Int32 := match lim 3 x with
  | none => -5
  | some t => nI (s.T 60 t).length
def a_kth (s : St) (x k : Int32) : Int64 := match lim 3 x with
  | none => nth
  | some t => match lim (s.T 60 t).length k with
    | none => nth
    | some j => Int32.toInt64 ((s.T 60 t).getD j (0, 0, 0, 0)).1
def a_rank (s : St) (x k : Int32) : Int32 := match lim 3 x with
  | none => -5
  | some t => nI (rk (s.T 60 t) k)
section JP1
variable {m : Nat} {s : St} {h : jj_H} {Q : Value → jj_H → Prop}
theorem r_put {x k c0 c1 c2 : Int32} (R : Rr h m s) (hw : s.wf) (H : ∀ h', Rr h' m (a_put s x k c0 c1 c2).2 → rfr h h' m → Q (.int (a_put s x k c0 c1 c2).1) h') : jj_C mX10_put 0 0 [.ref m, .int x, .int k, .int c0, .int c1, .int c2] h Q := by
  refine EX10_put _ _ _ _ _ _ fun d => r_start R fun h1 R1 F1 => ?_
  refine s_isTable (fun t ht => ?_) (fun ht => ?_)
  · obtain ⟨e0, ht3⟩ := lim_some (by decide) ht
    have M1 := R1.1
    have hmg : jI h1 520 m 0 = nI s.mg := R1.g.2.2.1.1
    have hm2 : s.mg ≤ 2 := hw.2.2.2.2.2.2.2.1.1
    have T := R1.2.1 60 (Or.inr rfl) t ht3
    have hz : jI h1 1000 (m + 3) (180 + t) = nI (s.T 60 t).length := T.1
    have hn := T.2.1
    refine ⟨fun _ => ⟨R1.K, ?_⟩, fun c => absurd c (by decide)⟩
    have LAY : ¬ 0 < s.mg → ((s.T 60 t).length = 200 → (lk (s.T 60 t) k).isNone = false) → jj_C mX10_lay 0 0 [.ref m, .int 60, .int x, .int k, .int c0, .int c1, .int c2] h1 (fun v20 h19 => jj_vi (fun y21 => (y21 = 0 → Q (.int 0) h19) ∧ (¬ y21 = 0 → Q (.int 1) h19)) v20) := by
      intro hg hf
      rw [e0]
      refine s_lay (s := 60) (r := (k, c0, c1, c2)) M1 (by omega) ht3 T (fun q => ?_) fun h2 T2 F2 => ?_
      · rcases Nat.lt_or_ge (s.T 60 t).length 200 with z | z
        · exact z
        · have := hf (by omega)
          simp only at q
          rw [q] at this
          cases this
      · have e : a_put s x k c0 c1 c2 = (if (lk (s.T 60 t) k).isSome then 0 else 1, s.wk t (insT (s.T 60 t) (k, c0, c1, c2))) := by
          have : ¬ ((s.T 60 t).length = 200 ∧ (lk (s.T 60 t) k).isNone = true) := fun z => by rw [hf z.1] at z; exact absurd z.2 (by decide)
          simp only [a_put, ht, if_neg hg, if_neg this]
        have := H h2 (by rw [e]; exact R1.fr1 hw ht3 F2 T2) (F1.trans (F2.s ht3).fr)
        rw [e] at this
        by_cases q : (lk (s.T 60 t) k).isSome = true
        · simp only [q, if_true] at this ⊢
          exact ⟨fun _ => this, fun c => absurd rfl c⟩
        · simp only [q, if_false] at this ⊢
          exact ⟨fun c => absurd c (by decide), fun _ => this⟩
    rw [e0] at LAY ⊢
    simp (disch := omega) only [(rM_k M1), (rM_r501 M1), (rM_k1 M1), (rM_n1 M1), (rM_r502 M1), (rM_k2 M1), (rM_n2 M1), (rM_r503 M1), (rM_k3 M1), (rM_n3 M1), (rM_r504 M1), (rM_k4 M1), (rM_n4 M1), (rM_r505 M1), (rM_k5 M1), (rM_n5 M1), (rM_r506 M1), (rM_k6 M1), (rM_n6 M1), (rM_r507 M1), (rM_k7 M1), (rM_n7 M1), (rM_r508 M1), (rM_k8 M1), (rM_n8 M1), (rM_r509 M1), (rM_k9 M1), (rM_n9 M1), (rM_r510 M1), (rM_k10 M1), (rM_n10 M1), (rM_r511 M1), (rM_k11 M1), (rM_n11 M1), (rM_r512 M1), (rM_k12 M1), (rM_n12 M1), (rM_r515 M1), (rM_k13 M1), (rM_n13 M1), (rM_r516 M1), (rM_k14 M1), (rM_n14 M1), (rM_r517 M1), (rM_k15 M1), (rM_n15 M1), (rM_r518 M1), (rM_k16 M1), (rM_n16 M1), (rM_r524 M1), (rM_k17 M1), (rM_n17 M1), (rM_r525 M1), (rM_k18 M1), (rM_n18 M1), (rM_r526 M1), (rM_k19 M1), (rM_n19 M1), (rM_r528 M1), (rM_k20 M1), (rM_n20 M1), (rM_r529 M1), (rM_k21 M1), (rM_n21 M1), (rM_r531 M1), (rM_k22 M1), (rM_n22 M1), (rM_r532 M1), (rM_k23 M1), (rM_n23 M1), (rM_r533 M1), (rM_k24 M1), (rM_n24 M1), qm_3, qm_4, qm_16, qm_600, qm_200, qm_8, qn_210, qn_3, qa_0, qb_0, qa_1, qb_1, qa_2, qb_2, qa_3, qb_3, qa_4, qb_4, qa_16, qb_16, qa_180, qb_180, qs_1, qs_2, qs_3, qs_4, qs_6, qs_24, nI_add, q_sub, q_pred, q_clamp, q_in, nI_leI, nI_ltI, nI_eq, ql_0, qL_0, qt_0, qT_0, qe_0, qc_0, qi_0, ql_1, qL_1, qt_1, qT_1, qe_1, qc_1, qi_1, ql_2, qL_2, qt_2, qT_2, qe_2, qc_2, qi_2, ql_3, qL_3, qt_3, qT_3, qe_3, qc_3, qi_3, ql_4, qL_4, qt_4, qT_4, qe_4, qc_4, qi_4, ql_6, qL_6, qt_6, qT_6, qe_6, qc_6, qi_6, ql_8, qL_8, qt_8, qT_8, qe_8, qc_8, qi_8, ql_10, qL_10, qt_10, qT_10, qe_10, qc_10, qi_10, ql_24, qL_24, qt_24, qT_24, qe_24, qc_24, qi_24, ql_60, qL_60, qt_60, qT_60, qe_60, qc_60, qi_60, ql_100, qL_100, qt_100, qT_100, qe_100, qc_100, qi_100, ql_200, qL_200, qt_200, qT_200, qe_200, qc_200, qi_200, ql_400, qL_400, qt_400, qT_400, qe_400, qc_400, qi_400, ql_600, qL_600, qt_600, qT_600, qe_600, qc_600, qi_600, ql_900, qL_900, qt_900, qT_900, qe_900, qc_900, qi_900, ql_1200, qL_1200, qt_1200, qT_1200, qe_1200, qc_1200, qi_1200, ql_65536, qL_65536, qt_65536, qT_65536, qe_65536, qc_65536, qi_65536, hmg, hz, true_and, and_true, eq_self, forall_eq, forall_eq_apply_imp_iff]
    refine ⟨fun c => ⟨fun c3 => LAY (by omega) (fun q => absurd q c3), fun c3 => ?_⟩, fun c => ?_⟩
    · refine s_find (s := 60) M1 (by omega) ht3 T (fun r hr => ?_) (fun hr => ?_)
      · refine ⟨fun _ => ⟨R1.K, LAY (by omega) (fun _ => by rw [hr]; rfl)⟩, fun q => absurd ?_ q⟩
        have hrk := rk_le (s.T 60 t) k
        rw [qL_0 (by omega)]
        exact Nat.zero_le _
      · refine ⟨fun q => absurd q (by decide), fun _ => ?_⟩
        have e : a_put s x k c0 c1 c2 = (-2, s) := by simp only [a_put, ht, if_neg (show ¬ 0 < s.mg by omega), hr, c3]; rfl
        have := H h1 (by rw [e]; exact R1) F1
        rw [e] at this
        exact this
    · have e : a_put s x k c0 c1 c2 = (-3, s) := by simp only [a_put, ht, if_pos (show 0 < s.mg by omega)]
      have := H h1 (by rw [e]; exact R1) F1
      rw [e] at this
      exact this
  · refine ⟨fun c => absurd rfl c, fun _ => ?_⟩
    have e : a_put s x k c0 c1 c2 = (-5, s) := by simp only [a_put, ht]
    have := H h1 (by rw [e]; exact R1) F1
    rw [e] at this
    exact this
theorem r_drop {x k : Int32} (R : Rr h m s) (hw : s.wf) (H : ∀ h', Rr h' m (a_drop s x k).2 → rfr h h' m → Q (.int (a_drop s x k).1) h') : jj_C mX10_drop 0 0 [.ref m, .int x, .int k] h Q := by
  refine EX10_drop _ _ _ fun d => r_start R fun h1 R1 F1 => ?_
  refine s_isTable (fun t ht => ?_) (fun ht => ?_)
  · obtain ⟨e0, ht3⟩ := lim_some (by decide) ht
    have M1 := R1.1
    have hmg : jI h1 520 m 0 = nI s.mg := R1.g.2.2.1.1
    have hm2 : s.mg ≤ 2 := hw.2.2.2.2.2.2.2.1.1
    have T := R1.2.1 60 (Or.inr rfl) t ht3
    refine ⟨fun _ => ⟨R1.K, ?_⟩, fun c => absurd c (by decide)⟩
    simp (disch := omega) only [q_clamp, q_in, nI_leI, nI_ltI, nI_eq, ql_0, qL_0, qt_0, qT_0, qe_0, qc_0, qi_0, ql_1, qL_1, qt_1, qT_1, qe_1, qc_1, qi_1, ql_2, qL_2, qt_2, qT_2, qe_2, qc_2, qi_2, ql_3, qL_3, qt_3, qT_3, qe_3, qc_3, qi_3, ql_4, qL_4, qt_4, qT_4, qe_4, qc_4, qi_4, ql_6, qL_6, qt_6, qT_6, qe_6, qc_6, qi_6, ql_8, qL_8, qt_8, qT_8, qe_8, qc_8, qi_8, ql_10, qL_10, qt_10, qT_10, qe_10, qc_10, qi_10, ql_24, qL_24, qt_24, qT_24, qe_24, qc_24, qi_24, ql_60, qL_60, qt_60, qT_60, qe_60, qc_60, qi_60, ql_100, qL_100, qt_100, qT_100, qe_100, qc_100, qi_100, ql_200, qL_200, qt_200, qT_200, qe_200, qc_200, qi_200, ql_400, qL_400, qt_400, qT_400, qe_400, qc_400, qi_400, ql_600, qL_600, qt_600, qT_600, qe_600, qc_600, qi_600, ql_900, qL_900, qt_900, qT_900, qe_900, qc_900, qi_900, ql_1200, qL_1200, qt_1200, qT_1200, qe_1200, qc_1200, qi_1200, ql_65536, qL_65536, qt_65536, qT_65536, qe_65536, qc_65536, qi_65536, hmg]
    refine ⟨fun c => ?_, fun c => ?_⟩
    · rw [e0]
      refine s_takeAway (s := 60) M1 (by omega) ht3 T fun h2 T2 F2 => ?_
      have e : a_drop s x k = (if (lk (s.T 60 t) k).isSome then 1 else 0, s.wk t (delT (s.T 60 t) k)) := by simp only [a_drop, ht, if_neg (show ¬ 0 < s.mg by omega)]
      have := H h2 (by rw [e]; exact R1.fr1 hw ht3 F2 T2) (F1.trans (F2.s ht3).fr)
      rw [e] at this
      by_cases q : (lk (s.T 60 t) k).isSome = true
      · simp only [q, if_true] at this ⊢
        exact ⟨fun c => absurd c (by decide), fun _ => this⟩
      · simp only [q, if_false] at this ⊢
        exact ⟨fun _ => this, fun c => absurd rfl c⟩
    · have e : a_drop s x k = (-3, s) := by simp only [a_drop, ht, if_pos (show 0 < s.mg by omega)]
      have := H h1 (by rw [e]; exact R1) F1
      rw [e] at this
      exact this
  · refine ⟨fun c => absurd rfl c, fun _ => ?_⟩
    have e : a_drop s x k = (-5, s) := by simp only [a_drop, ht]
    have := H h1 (by rw [e]; exact R1) F1
    rw [e] at this
    exact this
theorem r_size {x : Int32} (R : Rr h m s) (H : ∀ h', Rr h' m s → rfr h h' m → Q (.int (a_size s x)) h') : jj_C mX10_size 0 0 [.ref m, .int x] h Q := by
  refine EX10_size _ _ fun d => r_start R fun h1 R1 F1 => ?_
  have HH := H h1 R1 F1
  refine s_isTable (fun t ht => ?_) (fun ht => ?_)
  · obtain ⟨e0, ht3⟩ := lim_some (by decide) ht
    have M1 := R1.1
    have T := R1.2.1 60 (Or.inr rfl) t ht3
    have hz : jI h1 1000 (m + 3) (180 + t) = nI (s.T 60 t).length := T.1
    refine ⟨fun c => absurd c (by decide), fun _ => ?_⟩
    simp only [a_size, ht] at HH
    rw [e0]
    simp (disch := omega) only [(rM_k M1), (rM_r501 M1), (rM_k1 M1), (rM_n1 M1), (rM_r502 M1), (rM_k2 M1), (rM_n2 M1), (rM_r503 M1), (rM_k3 M1), (rM_n3 M1), (rM_r504 M1), (rM_k4 M1), (rM_n4 M1), (rM_r505 M1), (rM_k5 M1), (rM_n5 M1), (rM_r506 M1), (rM_k6 M1), (rM_n6 M1), (rM_r507 M1), (rM_k7 M1), (rM_n7 M1), (rM_r508 M1), (rM_k8 M1), (rM_n8 M1), (rM_r509 M1), (rM_k9 M1), (rM_n9 M1), (rM_r510 M1), (rM_k10 M1), (rM_n10 M1), (rM_r511 M1), (rM_k11 M1), (rM_n11 M1), (rM_r512 M1), (rM_k12 M1), (rM_n12 M1), (rM_r515 M1), (rM_k13 M1), (rM_n13 M1), (rM_r516 M1), (rM_k14 M1), (rM_n14 M1), (rM_r517 M1), (rM_k15 M1), (rM_n15 M1), (rM_r518 M1), (rM_k16 M1), (rM_n16 M1), (rM_r524 M1), (rM_k17 M1), (rM_n17 M1), (rM_r525 M1), (rM_k18 M1), (rM_n18 M1), (rM_r526 M1), (rM_k19 M1), (rM_n19 M1), (rM_r528 M1), (rM_k20 M1), (rM_n20 M1), (rM_r529 M1), (rM_k21 M1), (rM_n21 M1), (rM_r531 M1), (rM_k22 M1), (rM_n22 M1), (rM_r532 M1), (rM_k23 M1), (rM_n23 M1), (rM_r533 M1), (rM_k24 M1), (rM_n24 M1), qm_3, qm_4, qm_16, qm_600, qm_200, qm_8, qn_210, qn_3, qa_0, qb_0, qa_1, qb_1, qa_2, qb_2, qa_3, qb_3, qa_4, qb_4, qa_16, qb_16, qa_180, qb_180, qs_1, qs_2, qs_3, qs_4, qs_6, qs_24, nI_add, q_sub, q_pred, q_clamp, q_in, nI_leI, nI_ltI, nI_eq, ql_0, qL_0, qt_0, qT_0, qe_0, qc_0, qi_0, ql_1, qL_1, qt_1, qT_1, qe_1, qc_1, qi_1, ql_2, qL_2, qt_2, qT_2, qe_2, qc_2, qi_2, ql_3, qL_3, qt_3, qT_3, qe_3, qc_3, qi_3, ql_4, qL_4, qt_4, qT_4, qe_4, qc_4, qi_4, ql_6, qL_6, qt_6, qT_6, qe_6, qc_6, qi_6, ql_8, qL_8, qt_8, qT_8, qe_8, qc_8, qi_8, ql_10, qL_10, qt_10, qT_10, qe_10, qc_10, qi_10, ql_24, qL_24, qt_24, qT_24, qe_24, qc_24, qi_24, ql_60, qL_60, qt_60, qT_60, qe_60, qc_60, qi_60, ql_100, qL_100, qt_100, qT_100, qe_100, qc_100, qi_100, ql_200, qL_200, qt_200, qT_200, qe_200, qc_200, qi_200, ql_400, qL_400, qt_400, qT_400, qe_400, qc_400, qi_400, ql_600, qL_600, qt_600, qT_600, qe_600, qc_600, qi_600, ql_900, qL_900, qt_900, qT_900, qe_900, qc_900, qi_900, ql_1200, qL_1200, qt_1200, qT_1200, qe_1200, qc_1200, qi_1200, ql_65536, qL_65536, qt_65536, qT_65536, qe_65536, qc_65536, qi_65536, hz, true_and, and_true, eq_self, forall_eq, forall_eq_apply_imp_iff]
    exact HH
  · refine ⟨fun _ => ?_, fun c => absurd rfl c⟩
    simp only [a_size, ht] at HH
    exact HH
theorem r_rank {x k : Int32} (R : Rr h m s) (H : ∀ h', Rr h' m s → rfr h h' m → Q (.int (a_rank s x k)) h') : jj_C mX10_rank 0 0 [.ref m, .int x, .int k] h Q := by
  refine EX10_rank _ _ _ fun d => r_start R fun h1 R1 F1 => ?_
  have HH := H h1 R1 F1
  refine s_isTable (fun t ht => ?_) (fun ht => ?_)
  · obtain ⟨e0, ht3⟩ := lim_some (by decide) ht
    refine ⟨fun c => absurd c (by decide), fun _ => ⟨R1.K, ?_⟩⟩
    simp only [a_rank, ht] at HH
    rw [e0]
    exact s_rankL (s := 60) R1.1 (by omega) ht3 (R1.2.1 60 (Or.inr rfl) t ht3) HH
  · refine ⟨fun _ => ?_, fun c => absurd rfl c⟩
    simp only [a_rank, ht] at HH
    exact HH
theorem r_kth {x k : Int32} (R : Rr h m s) (H : ∀ h', Rr h' m s → rfr h h' m → Q (.long (a_kth s x k)) h') : jj_C mX10_kth 0 0 [.ref m, .int x, .int k] h Q := by
  refine EX10_kth _ _ _ fun d => r_start R fun h1 R1 F1 => ?_
  have HH := H h1 R1 F1
  refine s_isTable (fun t ht => ?_) (fun ht => ?_)
  · obtain ⟨e0, ht3⟩ := lim_some (by decide) ht
    have M1 := R1.1
    have T := R1.2.1 60 (Or.inr rfl) t ht3
    have hz : jI h1 1000 (m + 3) (180 + t) = nI (s.T 60 t).length := T.1
    have hn := T.2.1
    refine ⟨fun c => absurd c (by decide), fun _ => ?_⟩
    simp only [a_kth, ht] at HH
    rw [e0]
    simp (disch := omega) only [(rM_k M1), (rM_r501 M1), (rM_k1 M1), (rM_n1 M1), (rM_r502 M1), (rM_k2 M1), (rM_n2 M1), (rM_r503 M1), (rM_k3 M1), (rM_n3 M1), (rM_r504 M1), (rM_k4 M1), (rM_n4 M1), (rM_r505 M1), (rM_k5 M1), (rM_n5 M1), (rM_r506 M1), (rM_k6 M1), (rM_n6 M1), (rM_r507 M1), (rM_k7 M1), (rM_n7 M1), (rM_r508 M1), (rM_k8 M1), (rM_n8 M1), (rM_r509 M1), (rM_k9 M1), (rM_n9 M1), (rM_r510 M1), (rM_k10 M1), (rM_n10 M1), (rM_r511 M1), (rM_k11 M1), (rM_n11 M1), (rM_r512 M1), (rM_k12 M1), (rM_n12 M1), (rM_r515 M1), (rM_k13 M1), (rM_n13 M1), (rM_r516 M1), (rM_k14 M1), (rM_n14 M1), (rM_r517 M1), (rM_k15 M1), (rM_n15 M1), (rM_r518 M1), (rM_k16 M1), (rM_n16 M1), (rM_r524 M1), (rM_k17 M1), (rM_n17 M1), (rM_r525 M1), (rM_k18 M1), (rM_n18 M1), (rM_r526 M1), (rM_k19 M1), (rM_n19 M1), (rM_r528 M1), (rM_k20 M1), (rM_n20 M1), (rM_r529 M1), (rM_k21 M1), (rM_n21 M1), (rM_r531 M1), (rM_k22 M1), (rM_n22 M1), (rM_r532 M1), (rM_k23 M1), (rM_n23 M1), (rM_r533 M1), (rM_k24 M1), (rM_n24 M1), qm_3, qm_4, qm_16, qm_600, qm_200, qm_8, qn_210, qn_3, qa_0, qb_0, qa_1, qb_1, qa_2, qb_2, qa_3, qb_3, qa_4, qb_4, qa_16, qb_16, qa_180, qb_180, qs_1, qs_2, qs_3, qs_4, qs_6, qs_24, nI_add, q_sub, q_pred, q_clamp, q_in, nI_leI, nI_ltI, nI_eq, ql_0, qL_0, qt_0, qT_0, qe_0, qc_0, qi_0, ql_1, qL_1, qt_1, qT_1, qe_1, qc_1, qi_1, ql_2, qL_2, qt_2, qT_2, qe_2, qc_2, qi_2, ql_3, qL_3, qt_3, qT_3, qe_3, qc_3, qi_3, ql_4, qL_4, qt_4, qT_4, qe_4, qc_4, qi_4, ql_6, qL_6, qt_6, qT_6, qe_6, qc_6, qi_6, ql_8, qL_8, qt_8, qT_8, qe_8, qc_8, qi_8, ql_10, qL_10, qt_10, qT_10, qe_10, qc_10, qi_10, ql_24, qL_24, qt_24, qT_24, qe_24, qc_24, qi_24, ql_60, qL_60, qt_60, qT_60, qe_60, qc_60, qi_60, ql_100, qL_100, qt_100, qT_100, qe_100, qc_100, qi_100, ql_200, qL_200, qt_200, qT_200, qe_200, qc_200, qi_200, ql_400, qL_400, qt_400, qT_400, qe_400, qc_400, qi_400, ql_600, qL_600, qt_600, qT_600, qe_600, qc_600, qi_600, ql_900, qL_900, qt_900, qT_900, qe_900, qc_900, qi_900, ql_1200, qL_1200, qt_1200, qT_1200, qe_1200, qc_1200, qi_1200, ql_65536, qL_65536, qt_65536, qT_65536, qe_65536, qc_65536, qi_65536, hz, true_and, and_true, eq_self, forall_eq, forall_eq_apply_imp_iff]
    refine s_isIn (n := (s.T 60 t).length) (by omega) rfl (fun j hj => ?_) (fun hj => ?_)
    · obtain ⟨e1, hj2⟩ := lim_some (by omega) hj
      simp only [hj] at HH
      refine ⟨fun c => absurd c (by decide), fun _ => ⟨?_, ?_⟩⟩
      · exact R1.K
      rw [e1]
      refine s_rowAt (s := 60) ?_
      simp (disch := omega) only [jj_vi, (rM_k M1), (rM_r501 M1), (rM_k1 M1), (rM_n1 M1), (rM_r502 M1), (rM_k2 M1), (rM_n2 M1), (rM_r503 M1), (rM_k3 M1), (rM_n3 M1), (rM_r504 M1), (rM_k4 M1), (rM_n4 M1), (rM_r505 M1), (rM_k5 M1), (rM_n5 M1), (rM_r506 M1), (rM_k6 M1), (rM_n6 M1), (rM_r507 M1), (rM_k7 M1), (rM_n7 M1), (rM_r508 M1), (rM_k8 M1), (rM_n8 M1), (rM_r509 M1), (rM_k9 M1), (rM_n9 M1), (rM_r510 M1), (rM_k10 M1), (rM_n10 M1), (rM_r511 M1), (rM_k11 M1), (rM_n11 M1), (rM_r512 M1), (rM_k12 M1), (rM_n12 M1), (rM_r515 M1), (rM_k13 M1), (rM_n13 M1), (rM_r516 M1), (rM_k14 M1), (rM_n14 M1), (rM_r517 M1), (rM_k15 M1), (rM_n15 M1), (rM_r518 M1), (rM_k16 M1), (rM_n16 M1), (rM_r524 M1), (rM_k17 M1), (rM_n17 M1), (rM_r525 M1), (rM_k18 M1), (rM_n18 M1), (rM_r526 M1), (rM_k19 M1), (rM_n19 M1), (rM_r528 M1), (rM_k20 M1), (rM_n20 M1), (rM_r529 M1), (rM_k21 M1), (rM_n21 M1), (rM_r531 M1), (rM_k22 M1), (rM_n22 M1), (rM_r532 M1), (rM_k23 M1), (rM_n23 M1), (rM_r533 M1), (rM_k24 M1), (rM_n24 M1), q_clamp, q_in, nI_leI, nI_ltI, nI_eq, ql_0, qL_0, qt_0, qT_0, qe_0, qc_0, qi_0, ql_1, qL_1, qt_1, qT_1, qe_1, qc_1, qi_1, ql_2, qL_2, qt_2, qT_2, qe_2, qc_2, qi_2, ql_3, qL_3, qt_3, qT_3, qe_3, qc_3, qi_3, ql_4, qL_4, qt_4, qT_4, qe_4, qc_4, qi_4, ql_6, qL_6, qt_6, qT_6, qe_6, qc_6, qi_6, ql_8, qL_8, qt_8, qT_8, qe_8, qc_8, qi_8, ql_10, qL_10, qt_10, qT_10, qe_10, qc_10, qi_10, ql_24, qL_24, qt_24, qT_24, qe_24, qc_24, qi_24, ql_60, qL_60, qt_60, qT_60, qe_60, qc_60, qi_60, ql_100, qL_100, qt_100, qT_100, qe_100, qc_100, qi_100, ql_200, qL_200, qt_200, qT_200, qe_200, qc_200, qi_200, ql_400, qL_400, qt_400, qT_400, qe_400, qc_400, qi_400, ql_600, qL_600, qt_600, qT_600, qe_600, qc_600, qi_600, ql_900, qL_900, qt_900, qT_900, qe_900, qc_900, qi_900, ql_1200, qL_1200, qt_1200, qT_1200, qe_1200, qc_1200, qi_1200, ql_65536, qL_65536, qt_65536, qT_65536, qe_65536, qc_65536, qi_65536, true_and, and_true, eq_self, forall_eq, forall_eq_apply_imp_iff]
      have e2 : (s.T 60 t)[j]? = some (s.T 60 t)[j] := List.getElem?_eq_getElem hj2
      have e3 := T.2.2 j _ e2
      rw [List.getD_eq_getElem?_getD, e2] at HH
      rw [show jI h1 1000 (m + 1) (600 * 60 + 200 * t + j) = (s.T 60 t)[j].1 from congrArg Prod.fst e3]
      exact HH
    · simp only [hj] at HH
      exact ⟨fun _ => HH, fun c => absurd rfl c⟩
  · refine ⟨fun _ => ?_, fun c => absurd rfl c⟩
    simp only [a_kth, ht] at HH
    exact HH
theorem r_get {x k c : Int32} (R : Rr h m s) (H : ∀ h', Rr h' m s → rfr h h' m → Q (.long (a_get s x k c)) h') : jj_C mX10_get 0 0 [.ref m, .int x, .int k, .int c] h Q := by
  refine EX10_get _ _ _ _ fun d => r_start R fun h1 R1 F1 => ?_
  have HH := H h1 R1 F1
  have bad : a_get s x k c = nth → jj_WP d mX10_get 0 0 36 [(0, .ref m), (3, .int c)] [.int (-1)] h1 Q := fun e => by
    rw [e] at HH
    exact VX10_get_36 _ _ _ ⟨fun q => absurd q (by decide), fun _ => HH⟩
  refine s_isTable (fun t ht => ?_) (fun ht => ?_)
  · obtain ⟨e0, ht3⟩ := lim_some (by decide) ht
    have M1 := R1.1
    have T := R1.2.1 60 (Or.inr rfl) t ht3
    refine ⟨fun c => absurd c (by decide), fun _ => ?_⟩
    refine s_isIn (n := 3) (by decide) rfl (fun j hj => ?_) (fun hj => ?_)
    · obtain ⟨e1, hj2⟩ := lim_some (by decide) hj
      simp only [a_get, ht, hj] at HH bad
      refine ⟨fun _ => ⟨R1.K, ?_⟩, fun c => absurd c (by decide)⟩
      rw [e0]
      refine s_find (s := 60) M1 (by omega) ht3 T (fun r hr => ?_) (fun hr => ?_)
      · simp only [hr] at HH
        obtain ⟨q1, q2⟩ := lk_some hr
        have hlt : rk (s.T 60 t) k < (s.T 60 t).length := (List.getElem?_eq_some_iff.mp q1).1
        have hn := T.2.1
        have e3 := T.2.2 _ _ q1
        refine VX10_get_36 _ _ _ ?_
        rw [e1]
        simp (disch := omega) only [(rM_k M1), (rM_r501 M1), (rM_k1 M1), (rM_n1 M1), (rM_r502 M1), (rM_k2 M1), (rM_n2 M1), (rM_r503 M1), (rM_k3 M1), (rM_n3 M1), (rM_r504 M1), (rM_k4 M1), (rM_n4 M1), (rM_r505 M1), (rM_k5 M1), (rM_n5 M1), (rM_r506 M1), (rM_k6 M1), (rM_n6 M1), (rM_r507 M1), (rM_k7 M1), (rM_n7 M1), (rM_r508 M1), (rM_k8 M1), (rM_n8 M1), (rM_r509 M1), (rM_k9 M1), (rM_n9 M1), (rM_r510 M1), (rM_k10 M1), (rM_n10 M1), (rM_r511 M1), (rM_k11 M1), (rM_n11 M1), (rM_r512 M1), (rM_k12 M1), (rM_n12 M1), (rM_r515 M1), (rM_k13 M1), (rM_n13 M1), (rM_r516 M1), (rM_k14 M1), (rM_n14 M1), (rM_r517 M1), (rM_k15 M1), (rM_n15 M1), (rM_r518 M1), (rM_k16 M1), (rM_n16 M1), (rM_r524 M1), (rM_k17 M1), (rM_n17 M1), (rM_r525 M1), (rM_k18 M1), (rM_n18 M1), (rM_r526 M1), (rM_k19 M1), (rM_n19 M1), (rM_r528 M1), (rM_k20 M1), (rM_n20 M1), (rM_r529 M1), (rM_k21 M1), (rM_n21 M1), (rM_r531 M1), (rM_k22 M1), (rM_n22 M1), (rM_r532 M1), (rM_k23 M1), (rM_n23 M1), (rM_r533 M1), (rM_k24 M1), (rM_n24 M1), qm_3, qm_4, qm_16, qm_600, qm_200, qm_8, qn_210, qn_3, qa_0, qb_0, qa_1, qb_1, qa_2, qb_2, qa_3, qb_3, qa_4, qb_4, qa_16, qb_16, qa_180, qb_180, qs_1, qs_2, qs_3, qs_4, qs_6, qs_24, nI_add, q_sub, q_pred, q_clamp, q_in, nI_leI, nI_ltI, nI_eq, ql_0, qL_0, qt_0, qT_0, qe_0, qc_0, qi_0, ql_1, qL_1, qt_1, qT_1, qe_1, qc_1, qi_1, ql_2, qL_2, qt_2, qT_2, qe_2, qc_2, qi_2, ql_3, qL_3, qt_3, qT_3, qe_3, qc_3, qi_3, ql_4, qL_4, qt_4, qT_4, qe_4, qc_4, qi_4, ql_6, qL_6, qt_6, qT_6, qe_6, qc_6, qi_6, ql_8, qL_8, qt_8, qT_8, qe_8, qc_8, qi_8, ql_10, qL_10, qt_10, qT_10, qe_10, qc_10, qi_10, ql_24, qL_24, qt_24, qT_24, qe_24, qc_24, qi_24, ql_60, qL_60, qt_60, qT_60, qe_60, qc_60, qi_60, ql_100, qL_100, qt_100, qT_100, qe_100, qc_100, qi_100, ql_200, qL_200, qt_200, qT_200, qe_200, qc_200, qi_200, ql_400, qL_400, qt_400, qT_400, qe_400, qc_400, qi_400, ql_600, qL_600, qt_600, qT_600, qe_600, qc_600, qi_600, ql_900, qL_900, qt_900, qT_900, qe_900, qc_900, qi_900, ql_1200, qL_1200, qt_1200, qT_1200, qe_1200, qc_1200, qi_1200, ql_65536, qL_65536, qt_65536, qT_65536, qe_65536, qc_65536, qi_65536, true_and, and_true, eq_self, forall_eq, forall_eq_apply_imp_iff]
        refine ⟨fun _ => ?_, fun c => absurd (Nat.zero_le _) c⟩
        have : jI h1 1000 (m + 2) (3 * (600 * 60 + 200 * t + rk (s.T 60 t) k) + j) = colOf r j := by
          rcases (show j = 0 ∨ j = 1 ∨ j = 2 by omega) with e | e | e <;> subst e <;> rw [← e3] <;> rfl
        rw [this]
        exact HH
      · exact bad (by simp only [hr])
    · exact ⟨fun c => absurd rfl c, fun _ => bad (by simp only [a_get, ht, hj])⟩
  · exact ⟨fun _ => bad (by simp only [a_get, ht]), fun c => absurd rfl c⟩
theorem rw4_col {h : jj_H} {m g j : Nat} {v : Int32} (hj : j < 3) (g' : Nat) : rw4 (wI h 1000 (m + 2) (3 * g + j) v) m g' = if g' = g then updC (rw4 h m g) j v else rw4 h m g' := by
  unfold rw4
  simp only [jI_wI]
  by_cases e : g' = g
  · subst e
    rcases (show j = 0 ∨ j = 1 ∨ j = 2 by omega) with e | e | e <;> subst e <;> simp [updC]
  · rcases (show j = 0 ∨ j = 1 ∨ j = 2 by omega) with q | q | q <;> subst q <;> simp [e] <;> refine ⟨?_, ?_, ?_⟩ <;> intro q <;> omega
theorem r_cell {x k c v : Int32} (R : Rr h m s) (hw : s.wf) (H : ∀ h', Rr h' m (a_cell s x k c v).2 → rfr h h' m → Q (.int (a_cell s x k c v).1) h') : jj_C mX10_cell 0 0 [.ref m, .int x, .int k, .int c, .int v] h Q := by
  refine EX10_cell _ _ _ _ _ fun d => r_start R fun h1 R1 F1 => ?_
  have bad : ∀ v', a_cell s x k c v = (v', s) → Q (.int v') h1 := fun v' e => by
    have := H h1 (by rw [e]; exact R1) F1
    rw [e] at this
    exact this
  refine s_isTable (fun t ht => ?_) (fun ht => ?_)
  · obtain ⟨e0, ht3⟩ := lim_some (by decide) ht
    have M1 := R1.1
    have T := R1.2.1 60 (Or.inr rfl) t ht3
    have hmg : jI h1 520 m 0 = nI s.mg := R1.g.2.2.1.1
    have hm2 : s.mg ≤ 2 := hw.2.2.2.2.2.2.2.1.1
    refine ⟨fun c => absurd c (by decide), fun _ => ?_⟩
    refine s_isIn (n := 3) (by decide) rfl (fun j hj => ?_) (fun hj => ?_)
    · obtain ⟨e1, hj2⟩ := lim_some (by decide) hj
      refine ⟨fun _ => ⟨R1.K, ?_⟩, fun c => absurd c (by decide)⟩
      simp (disch := omega) only [q_clamp, q_in, nI_leI, nI_ltI, nI_eq, ql_0, qL_0, qt_0, qT_0, qe_0, qc_0, qi_0, ql_1, qL_1, qt_1, qT_1, qe_1, qc_1, qi_1, ql_2, qL_2, qt_2, qT_2, qe_2, qc_2, qi_2, ql_3, qL_3, qt_3, qT_3, qe_3, qc_3, qi_3, ql_4, qL_4, qt_4, qT_4, qe_4, qc_4, qi_4, ql_6, qL_6, qt_6, qT_6, qe_6, qc_6, qi_6, ql_8, qL_8, qt_8, qT_8, qe_8, qc_8, qi_8, ql_10, qL_10, qt_10, qT_10, qe_10, qc_10, qi_10, ql_24, qL_24, qt_24, qT_24, qe_24, qc_24, qi_24, ql_60, qL_60, qt_60, qT_60, qe_60, qc_60, qi_60, ql_100, qL_100, qt_100, qT_100, qe_100, qc_100, qi_100, ql_200, qL_200, qt_200, qT_200, qe_200, qc_200, qi_200, ql_400, qL_400, qt_400, qT_400, qe_400, qc_400, qi_400, ql_600, qL_600, qt_600, qT_600, qe_600, qc_600, qi_600, ql_900, qL_900, qt_900, qT_900, qe_900, qc_900, qi_900, ql_1200, qL_1200, qt_1200, qT_1200, qe_1200, qc_1200, qi_1200, ql_65536, qL_65536, qt_65536, qT_65536, qe_65536, qc_65536, qi_65536, hmg]
      refine ⟨fun c1 => ?_, fun c1 => bad _ (by simp only [a_cell, ht, hj, if_pos (show 0 < s.mg by omega)])⟩
      rw [e0]
      refine s_find (s := 60) M1 (by omega) ht3 T (fun r hr => ?_) (fun hr => ?_)
      · obtain ⟨q1, q2⟩ := lk_some hr
        have hlt : rk (s.T 60 t) k < (s.T 60 t).length := (List.getElem?_eq_some_iff.mp q1).1
        have hn := T.2.1
        rw [e1]
        simp (disch := omega) only [jj_vi, (rM_k M1), (rM_r501 M1), (rM_k1 M1), (rM_n1 M1), (rM_r502 M1), (rM_k2 M1), (rM_n2 M1), (rM_r503 M1), (rM_k3 M1), (rM_n3 M1), (rM_r504 M1), (rM_k4 M1), (rM_n4 M1), (rM_r505 M1), (rM_k5 M1), (rM_n5 M1), (rM_r506 M1), (rM_k6 M1), (rM_n6 M1), (rM_r507 M1), (rM_k7 M1), (rM_n7 M1), (rM_r508 M1), (rM_k8 M1), (rM_n8 M1), (rM_r509 M1), (rM_k9 M1), (rM_n9 M1), (rM_r510 M1), (rM_k10 M1), (rM_n10 M1), (rM_r511 M1), (rM_k11 M1), (rM_n11 M1), (rM_r512 M1), (rM_k12 M1), (rM_n12 M1), (rM_r515 M1), (rM_k13 M1), (rM_n13 M1), (rM_r516 M1), (rM_k14 M1), (rM_n14 M1), (rM_r517 M1), (rM_k15 M1), (rM_n15 M1), (rM_r518 M1), (rM_k16 M1), (rM_n16 M1), (rM_r524 M1), (rM_k17 M1), (rM_n17 M1), (rM_r525 M1), (rM_k18 M1), (rM_n18 M1), (rM_r526 M1), (rM_k19 M1), (rM_n19 M1), (rM_r528 M1), (rM_k20 M1), (rM_n20 M1), (rM_r529 M1), (rM_k21 M1), (rM_n21 M1), (rM_r531 M1), (rM_k22 M1), (rM_n22 M1), (rM_r532 M1), (rM_k23 M1), (rM_n23 M1), (rM_r533 M1), (rM_k24 M1), (rM_n24 M1), qm_3, qm_4, qm_16, qm_600, qm_200, qm_8, qn_210, qn_3, qa_0, qb_0, qa_1, qb_1, qa_2, qb_2, qa_3, qb_3, qa_4, qb_4, qa_16, qb_16, qa_180, qb_180, qs_1, qs_2, qs_3, qs_4, qs_6, qs_24, nI_add, q_sub, q_pred, q_clamp, q_in, nI_leI, nI_ltI, nI_eq, ql_0, qL_0, qt_0, qT_0, qe_0, qc_0, qi_0, ql_1, qL_1, qt_1, qT_1, qe_1, qc_1, qi_1, ql_2, qL_2, qt_2, qT_2, qe_2, qc_2, qi_2, ql_3, qL_3, qt_3, qT_3, qe_3, qc_3, qi_3, ql_4, qL_4, qt_4, qT_4, qe_4, qc_4, qi_4, ql_6, qL_6, qt_6, qT_6, qe_6, qc_6, qi_6, ql_8, qL_8, qt_8, qT_8, qe_8, qc_8, qi_8, ql_10, qL_10, qt_10, qT_10, qe_10, qc_10, qi_10, ql_24, qL_24, qt_24, qT_24, qe_24, qc_24, qi_24, ql_60, qL_60, qt_60, qT_60, qe_60, qc_60, qi_60, ql_100, qL_100, qt_100, qT_100, qe_100, qc_100, qi_100, ql_200, qL_200, qt_200, qT_200, qe_200, qc_200, qi_200, ql_400, qL_400, qt_400, qT_400, qe_400, qc_400, qi_400, ql_600, qL_600, qt_600, qT_600, qe_600, qc_600, qi_600, ql_900, qL_900, qt_900, qT_900, qe_900, qc_900, qi_900, ql_1200, qL_1200, qt_1200, qT_1200, qe_1200, qc_1200, qi_1200, ql_65536, qL_65536, qt_65536, qT_65536, qe_65536, qc_65536, qi_65536, true_and, and_true, eq_self, forall_eq, forall_eq_apply_imp_iff]
        refine ⟨fun _ => ?_, fun c => absurd (Nat.zero_le _) c⟩
        have e : a_cell s x k c v = (1, s.wk t (colT (s.T 60 t) k j v)) := by simp only [a_cell, ht, hj, if_neg (show ¬ 0 < s.mg by omega), hr]; rfl
        have ec : colT (s.T 60 t) k j v = (s.T 60 t).set (rk (s.T 60 t) k) (updC r j v) := by
          have h1 : (updC r j v).1 = k := by rw [updC_1]; exact q2
          unfold colT
          rw [hr]
          simp only
          rw [insT_set _ _ (by rw [h1]; exact hr), h1]
        have F2 : rFr h1 (wI h1 1000 (m + 2) (3 * (600 * 60 + 200 * t + rk (s.T 60 t) k) + j) v) m 60 t := ⟨rfl, fun tg a i p1 p2 p3 => by rw [jI_wI, if_neg (by omega)], fun g hg => by rw [rw4_col hj2, if_neg (by omega)], fun k' _ => by rw [jI_wI, if_neg (by omega)]⟩
        have := H _ (by
          rw [e]
          refine R1.fr1 hw ht3 F2 ⟨?_, ?_, fun i r' hi => ?_⟩
          · rw [jI_wI, if_neg (by omega), ec, List.length_set]; exact T.1
          · rw [ec, List.length_set]; exact T.2.1
          · rw [ec, List.getElem?_set] at hi
            rw [rw4_col hj2]
            by_cases q : rk (s.T 60 t) k = i
            · rw [if_pos q, if_pos (by omega)] at hi
              cases hi
              rw [if_pos (by omega), T.2.2 _ _ q1]
            · rw [if_neg q] at hi
              rw [if_neg (by omega)]
              exact T.2.2 _ _ hi) (F1.trans (F2.s ht3).fr)
        rw [e] at this
        exact this
      · exact ⟨fun q => absurd q (by decide), fun _ => bad _ (by simp only [a_cell, ht, hj, if_neg (show ¬ 0 < s.mg by omega), hr]; rfl)⟩
    · exact ⟨fun c => absurd rfl c, fun _ => bad _ (by simp only [a_cell, ht, hj])⟩
  · exact ⟨fun _ => bad _ (by simp only [a_cell, ht]), fun c => absurd rfl c⟩
theorem r_fill {x f st n w : Int32} (R : Rr h m s) (hw : s.wf) (H : ∀ h', Rr h' m (a_fill s x f st n w).2 → rfr h h' m → Q (.int (a_fill s x f st n w).1) h') : jj_C mX10_fill 0 0 [.ref m, .int x, .int f, .int st, .int n, .int w] h Q := by
  refine EX10_fill _ _ _ _ _ _ fun d => r_start R fun h1 R1 F1 => ?_
  have bad : ∀ v', a_fill s x f st n w = (v', s) → Q (.int v') h1 := fun v' e => by
    have := H h1 (by rw [e]; exact R1) F1
    rw [e] at this
    exact this
  refine s_isTable (fun t ht => ?_) (fun ht => ?_)
  · obtain ⟨e0, ht3⟩ := lim_some (by decide) ht
    have M1 := R1.1
    have T := R1.2.1 60 (Or.inr rfl) t ht3
    have hmg : jI h1 520 m 0 = nI s.mg := R1.g.2.2.1.1
    have hm2 : s.mg ≤ 2 := hw.2.2.2.2.2.2.2.1.1
    have hS := (hw.2.1 60 t (Or.inr rfl) ht3).1
    have hz : jI h1 1000 (m + 3) (180 + t) = nI (s.T 60 t).length := T.1
    have hn := T.2.1
    refine ⟨fun c => absurd c (by decide), fun _ => ?_⟩
    refine s_isIn (n := 101) (by decide) rfl (fun r hr => ?_) (fun hr => ?_)
    · obtain ⟨e1, hr2⟩ := lim_some (by decide) hr
      refine ⟨fun c => absurd c (by decide), fun _ => ⟨fun c0 => ⟨R1.K, ?_⟩, fun c0 => bad _ (by simp only [a_fill, ht, hr, if_pos c0])⟩⟩
      simp (disch := omega) only [q_clamp, q_in, nI_leI, nI_ltI, nI_eq, ql_0, qL_0, qt_0, qT_0, qe_0, qc_0, qi_0, ql_1, qL_1, qt_1, qT_1, qe_1, qc_1, qi_1, ql_2, qL_2, qt_2, qT_2, qe_2, qc_2, qi_2, ql_3, qL_3, qt_3, qT_3, qe_3, qc_3, qi_3, ql_4, qL_4, qt_4, qT_4, qe_4, qc_4, qi_4, ql_6, qL_6, qt_6, qT_6, qe_6, qc_6, qi_6, ql_8, qL_8, qt_8, qT_8, qe_8, qc_8, qi_8, ql_10, qL_10, qt_10, qT_10, qe_10, qc_10, qi_10, ql_24, qL_24, qt_24, qT_24, qe_24, qc_24, qi_24, ql_60, qL_60, qt_60, qT_60, qe_60, qc_60, qi_60, ql_100, qL_100, qt_100, qT_100, qe_100, qc_100, qi_100, ql_200, qL_200, qt_200, qT_200, qe_200, qc_200, qi_200, ql_400, qL_400, qt_400, qT_400, qe_400, qc_400, qi_400, ql_600, qL_600, qt_600, qT_600, qe_600, qc_600, qi_600, ql_900, qL_900, qt_900, qT_900, qe_900, qc_900, qi_900, ql_1200, qL_1200, qt_1200, qT_1200, qe_1200, qc_1200, qi_1200, ql_65536, qL_65536, qt_65536, qT_65536, qe_65536, qc_65536, qi_65536, hmg]
      refine ⟨fun c1 => ?_, fun c1 => bad _ (by simp only [a_fill, ht, hr, if_neg c0, if_pos (show 0 < s.mg by omega)])⟩
      rw [e0, e1]
      generalize hL : s.T 60 t = L at *
      -- the rows are laid
      have lays : (s.T 60 t).length + mor L f st r ≤ 200 → ∀ q k (h2 : jj_H) (w' : Int32) (l' : List Row), k + q = r → rFr h1 h2 m 60 t → rTb h2 m 60 t l' → fSt L f st k l' → fls f st q k w' l' = fls f st r 0 w L → jj_WP d mX10_fill 0 0 171 [(0, .ref m), (1, .int (nI t)), (2, .int f), (3, .int st), (4, .int (nI r)), (7, .int w'), (8, .int (nI k))] [] h2 Q := by
        intro hmo q
        rw [hL] at hmo
        induction q with
        | zero =>
          intro k h2 w' l' hk F2 T2 hS2 hE
          refine VX10_fill_171 _ _ _ _ _ _ _ ?_
          have M2 : rM h2 m := M1.of (by rw [F2.1])
          have hz2 : jI h2 1000 (m + 3) (180 + t) = nI l'.length := T2.1
          simp (disch := omega) only [(rM_k M2), (rM_r501 M2), (rM_k1 M2), (rM_n1 M2), (rM_r502 M2), (rM_k2 M2), (rM_n2 M2), (rM_r503 M2), (rM_k3 M2), (rM_n3 M2), (rM_r504 M2), (rM_k4 M2), (rM_n4 M2), (rM_r505 M2), (rM_k5 M2), (rM_n5 M2), (rM_r506 M2), (rM_k6 M2), (rM_n6 M2), (rM_r507 M2), (rM_k7 M2), (rM_n7 M2), (rM_r508 M2), (rM_k8 M2), (rM_n8 M2), (rM_r509 M2), (rM_k9 M2), (rM_n9 M2), (rM_r510 M2), (rM_k10 M2), (rM_n10 M2), (rM_r511 M2), (rM_k11 M2), (rM_n11 M2), (rM_r512 M2), (rM_k12 M2), (rM_n12 M2), (rM_r515 M2), (rM_k13 M2), (rM_n13 M2), (rM_r516 M2), (rM_k14 M2), (rM_n14 M2), (rM_r517 M2), (rM_k15 M2), (rM_n15 M2), (rM_r518 M2), (rM_k16 M2), (rM_n16 M2), (rM_r524 M2), (rM_k17 M2), (rM_n17 M2), (rM_r525 M2), (rM_k18 M2), (rM_n18 M2), (rM_r526 M2), (rM_k19 M2), (rM_n19 M2), (rM_r528 M2), (rM_k20 M2), (rM_n20 M2), (rM_r529 M2), (rM_k21 M2), (rM_n21 M2), (rM_r531 M2), (rM_k22 M2), (rM_n22 M2), (rM_r532 M2), (rM_k23 M2), (rM_n23 M2), (rM_r533 M2), (rM_k24 M2), (rM_n24 M2), qm_3, qm_4, qm_16, qm_600, qm_200, qm_8, qn_210, qn_3, qa_0, qb_0, qa_1, qb_1, qa_2, qb_2, qa_3, qb_3, qa_4, qb_4, qa_16, qb_16, qa_180, qb_180, qs_1, qs_2, qs_3, qs_4, qs_6, qs_24, nI_add, q_sub, q_pred, q_clamp, q_in, nI_leI, nI_ltI, nI_eq, ql_0, qL_0, qt_0, qT_0, qe_0, qc_0, qi_0, ql_1, qL_1, qt_1, qT_1, qe_1, qc_1, qi_1, ql_2, qL_2, qt_2, qT_2, qe_2, qc_2, qi_2, ql_3, qL_3, qt_3, qT_3, qe_3, qc_3, qi_3, ql_4, qL_4, qt_4, qT_4, qe_4, qc_4, qi_4, ql_6, qL_6, qt_6, qT_6, qe_6, qc_6, qi_6, ql_8, qL_8, qt_8, qT_8, qe_8, qc_8, qi_8, ql_10, qL_10, qt_10, qT_10, qe_10, qc_10, qi_10, ql_24, qL_24, qt_24, qT_24, qe_24, qc_24, qi_24, ql_60, qL_60, qt_60, qT_60, qe_60, qc_60, qi_60, ql_100, qL_100, qt_100, qT_100, qe_100, qc_100, qi_100, ql_200, qL_200, qt_200, qT_200, qe_200, qc_200, qi_200, ql_400, qL_400, qt_400, qT_400, qe_400, qc_400, qi_400, ql_600, qL_600, qt_600, qT_600, qe_600, qc_600, qi_600, ql_900, qL_900, qt_900, qT_900, qe_900, qc_900, qi_900, ql_1200, qL_1200, qt_1200, qT_1200, qe_1200, qc_1200, qi_1200, ql_65536, qL_65536, qt_65536, qT_65536, qe_65536, qc_65536, qi_65536, hz2, true_and, and_true, eq_self, forall_eq, forall_eq_apply_imp_iff]
          refine ⟨fun _ => ?_, fun c => by omega⟩
          simp only [fls] at hE
          have e : a_fill s x f st n w = (nI (fls f st r 0 w L).length, s.wk t (fls f st r 0 w L)) := by simp only [a_fill, ht, hr, if_neg c0, if_neg (show ¬ 0 < s.mg by omega), hL, if_neg (show ¬ 200 < L.length + mor L f st r by omega)]
          have := H h2 (by rw [e, ← hE]; exact R1.fr1 hw ht3 F2 T2) (F1.trans (F2.s ht3).fr)
          rw [e, ← hE] at this
          exact this
        | succ q ih =>
          intro k h2 w' l' hk F2 T2 hS2 hE
          refine VX10_fill_171 _ _ _ _ _ _ _ ?_
          have M2 : rM h2 m := M1.of (by rw [F2.1])
          simp (disch := omega) only [(rM_k M2), (rM_r501 M2), (rM_k1 M2), (rM_n1 M2), (rM_r502 M2), (rM_k2 M2), (rM_n2 M2), (rM_r503 M2), (rM_k3 M2), (rM_n3 M2), (rM_r504 M2), (rM_k4 M2), (rM_n4 M2), (rM_r505 M2), (rM_k5 M2), (rM_n5 M2), (rM_r506 M2), (rM_k6 M2), (rM_n6 M2), (rM_r507 M2), (rM_k7 M2), (rM_n7 M2), (rM_r508 M2), (rM_k8 M2), (rM_n8 M2), (rM_r509 M2), (rM_k9 M2), (rM_n9 M2), (rM_r510 M2), (rM_k10 M2), (rM_n10 M2), (rM_r511 M2), (rM_k11 M2), (rM_n11 M2), (rM_r512 M2), (rM_k12 M2), (rM_n12 M2), (rM_r515 M2), (rM_k13 M2), (rM_n13 M2), (rM_r516 M2), (rM_k14 M2), (rM_n14 M2), (rM_r517 M2), (rM_k15 M2), (rM_n15 M2), (rM_r518 M2), (rM_k16 M2), (rM_n16 M2), (rM_r524 M2), (rM_k17 M2), (rM_n17 M2), (rM_r525 M2), (rM_k18 M2), (rM_n18 M2), (rM_r526 M2), (rM_k19 M2), (rM_n19 M2), (rM_r528 M2), (rM_k20 M2), (rM_n20 M2), (rM_r529 M2), (rM_k21 M2), (rM_n21 M2), (rM_r531 M2), (rM_k22 M2), (rM_n22 M2), (rM_r532 M2), (rM_k23 M2), (rM_n23 M2), (rM_r533 M2), (rM_k24 M2), (rM_n24 M2), qm_3, qm_4, qm_16, qm_600, qm_200, qm_8, qn_210, qn_3, qa_0, qb_0, qa_1, qb_1, qa_2, qb_2, qa_3, qb_3, qa_4, qb_4, qa_16, qb_16, qa_180, qb_180, qs_1, qs_2, qs_3, qs_4, qs_6, qs_24, nI_add, q_sub, q_pred, q_clamp, q_in, nI_leI, nI_ltI, nI_eq, ql_0, qL_0, qt_0, qT_0, qe_0, qc_0, qi_0, ql_1, qL_1, qt_1, qT_1, qe_1, qc_1, qi_1, ql_2, qL_2, qt_2, qT_2, qe_2, qc_2, qi_2, ql_3, qL_3, qt_3, qT_3, qe_3, qc_3, qi_3, ql_4, qL_4, qt_4, qT_4, qe_4, qc_4, qi_4, ql_6, qL_6, qt_6, qT_6, qe_6, qc_6, qi_6, ql_8, qL_8, qt_8, qT_8, qe_8, qc_8, qi_8, ql_10, qL_10, qt_10, qT_10, qe_10, qc_10, qi_10, ql_24, qL_24, qt_24, qT_24, qe_24, qc_24, qi_24, ql_60, qL_60, qt_60, qT_60, qe_60, qc_60, qi_60, ql_100, qL_100, qt_100, qT_100, qe_100, qc_100, qi_100, ql_200, qL_200, qt_200, qT_200, qe_200, qc_200, qi_200, ql_400, qL_400, qt_400, qT_400, qe_400, qc_400, qi_400, ql_600, qL_600, qt_600, qT_600, qe_600, qc_600, qi_600, ql_900, qL_900, qt_900, qT_900, qe_900, qc_900, qi_900, ql_1200, qL_1200, qt_1200, qT_1200, qe_1200, qc_1200, qi_1200, ql_65536, qL_65536, qt_65536, qT_65536, qe_65536, qc_65536, qi_65536, true_and, and_true, eq_self, forall_eq, forall_eq_apply_imp_iff]
          refine ⟨fun c => by omega, fun _ => ?_⟩
          refine s_lay (s := 60) (r := (fky f st k, lcg w', lcg (lcg w'), lcg (lcg (lcg w')))) M2 (by omega) ht3 T2 (fun hnone => ?_) fun h3 T3 F3 => ?_
          · have e1 := hS2.new hS
            simp only at hnone
            rw [hnone] at e1
            have e2 : ((lk L (fky f st k)).isNone && nov (fky f st) (fky f st k) k) = true := by simpa using e1.symm
            have e3 := hS2.2.2
            have e4 : mor L f st (k + 1) = mor L f st k + 1 := by simp only [mor]; rw [e2]; simp
            have e5 := mor_mono L f st (k := k + 1) (k' := r) (by omega)
            omega
          · exact ih (k + 1) h3 _ _ (by omega) (F2.trans F3) T3 (hS2.next hS _ _ _) hE
      -- the keys are counted
      have cnt : ∀ q k, k + q = r → jj_WP d mX10_fill 0 0 48 [(0, .ref m), (1, .int (nI t)), (2, .int f), (3, .int st), (4, .int (nI r)), (5, .int w), (6, .int (nI (mor L f st k))), (7, .int (nI k))] [] h1 Q := by
        intro q
        induction q with
        | zero =>
          intro k hk
          have hml := mor_le L f st k
          refine VX10_fill_48 _ _ _ _ _ _ _ _ ?_
          simp (disch := omega) only [(rM_k M1), (rM_r501 M1), (rM_k1 M1), (rM_n1 M1), (rM_r502 M1), (rM_k2 M1), (rM_n2 M1), (rM_r503 M1), (rM_k3 M1), (rM_n3 M1), (rM_r504 M1), (rM_k4 M1), (rM_n4 M1), (rM_r505 M1), (rM_k5 M1), (rM_n5 M1), (rM_r506 M1), (rM_k6 M1), (rM_n6 M1), (rM_r507 M1), (rM_k7 M1), (rM_n7 M1), (rM_r508 M1), (rM_k8 M1), (rM_n8 M1), (rM_r509 M1), (rM_k9 M1), (rM_n9 M1), (rM_r510 M1), (rM_k10 M1), (rM_n10 M1), (rM_r511 M1), (rM_k11 M1), (rM_n11 M1), (rM_r512 M1), (rM_k12 M1), (rM_n12 M1), (rM_r515 M1), (rM_k13 M1), (rM_n13 M1), (rM_r516 M1), (rM_k14 M1), (rM_n14 M1), (rM_r517 M1), (rM_k15 M1), (rM_n15 M1), (rM_r518 M1), (rM_k16 M1), (rM_n16 M1), (rM_r524 M1), (rM_k17 M1), (rM_n17 M1), (rM_r525 M1), (rM_k18 M1), (rM_n18 M1), (rM_r526 M1), (rM_k19 M1), (rM_n19 M1), (rM_r528 M1), (rM_k20 M1), (rM_n20 M1), (rM_r529 M1), (rM_k21 M1), (rM_n21 M1), (rM_r531 M1), (rM_k22 M1), (rM_n22 M1), (rM_r532 M1), (rM_k23 M1), (rM_n23 M1), (rM_r533 M1), (rM_k24 M1), (rM_n24 M1), qm_3, qm_4, qm_16, qm_600, qm_200, qm_8, qn_210, qn_3, qa_0, qb_0, qa_1, qb_1, qa_2, qb_2, qa_3, qb_3, qa_4, qb_4, qa_16, qb_16, qa_180, qb_180, qs_1, qs_2, qs_3, qs_4, qs_6, qs_24, nI_add, q_sub, q_pred, q_clamp, q_in, nI_leI, nI_ltI, nI_eq, ql_0, qL_0, qt_0, qT_0, qe_0, qc_0, qi_0, ql_1, qL_1, qt_1, qT_1, qe_1, qc_1, qi_1, ql_2, qL_2, qt_2, qT_2, qe_2, qc_2, qi_2, ql_3, qL_3, qt_3, qT_3, qe_3, qc_3, qi_3, ql_4, qL_4, qt_4, qT_4, qe_4, qc_4, qi_4, ql_6, qL_6, qt_6, qT_6, qe_6, qc_6, qi_6, ql_8, qL_8, qt_8, qT_8, qe_8, qc_8, qi_8, ql_10, qL_10, qt_10, qT_10, qe_10, qc_10, qi_10, ql_24, qL_24, qt_24, qT_24, qe_24, qc_24, qi_24, ql_60, qL_60, qt_60, qT_60, qe_60, qc_60, qi_60, ql_100, qL_100, qt_100, qT_100, qe_100, qc_100, qi_100, ql_200, qL_200, qt_200, qT_200, qe_200, qc_200, qi_200, ql_400, qL_400, qt_400, qT_400, qe_400, qc_400, qi_400, ql_600, qL_600, qt_600, qT_600, qe_600, qc_600, qi_600, ql_900, qL_900, qt_900, qT_900, qe_900, qc_900, qi_900, ql_1200, qL_1200, qt_1200, qT_1200, qe_1200, qc_1200, qi_1200, ql_65536, qL_65536, qt_65536, qT_65536, qe_65536, qc_65536, qi_65536, hz, true_and, and_true, eq_self, forall_eq, forall_eq_apply_imp_iff]
          have hkr : k = r := by omega
          subst hkr
          refine ⟨fun _ => ⟨fun c => lays (by rw [hL]; omega) k 0 h1 w L (by omega) rFr.rf T (fSt.zero hS) rfl, fun c => bad _ ?_⟩, fun c => by omega⟩
          simp only [a_fill, ht, hr, if_neg c0, if_neg (show ¬ 0 < s.mg by omega), hL, if_pos (show 200 < L.length + mor L f st k by omega)]
        | succ q ih =>
          intro k hk
          have hml := mor_le L f st k
          have nxt := ih (k + 1) (by omega)
          refine VX10_fill_48 _ _ _ _ _ _ _ _ ?_
          simp (disch := omega) only [(rM_k M1), (rM_r501 M1), (rM_k1 M1), (rM_n1 M1), (rM_r502 M1), (rM_k2 M1), (rM_n2 M1), (rM_r503 M1), (rM_k3 M1), (rM_n3 M1), (rM_r504 M1), (rM_k4 M1), (rM_n4 M1), (rM_r505 M1), (rM_k5 M1), (rM_n5 M1), (rM_r506 M1), (rM_k6 M1), (rM_n6 M1), (rM_r507 M1), (rM_k7 M1), (rM_n7 M1), (rM_r508 M1), (rM_k8 M1), (rM_n8 M1), (rM_r509 M1), (rM_k9 M1), (rM_n9 M1), (rM_r510 M1), (rM_k10 M1), (rM_n10 M1), (rM_r511 M1), (rM_k11 M1), (rM_n11 M1), (rM_r512 M1), (rM_k12 M1), (rM_n12 M1), (rM_r515 M1), (rM_k13 M1), (rM_n13 M1), (rM_r516 M1), (rM_k14 M1), (rM_n14 M1), (rM_r517 M1), (rM_k15 M1), (rM_n15 M1), (rM_r518 M1), (rM_k16 M1), (rM_n16 M1), (rM_r524 M1), (rM_k17 M1), (rM_n17 M1), (rM_r525 M1), (rM_k18 M1), (rM_n18 M1), (rM_r526 M1), (rM_k19 M1), (rM_n19 M1), (rM_r528 M1), (rM_k20 M1), (rM_n20 M1), (rM_r529 M1), (rM_k21 M1), (rM_n21 M1), (rM_r531 M1), (rM_k22 M1), (rM_n22 M1), (rM_r532 M1), (rM_k23 M1), (rM_n23 M1), (rM_r533 M1), (rM_k24 M1), (rM_n24 M1), qm_3, qm_4, qm_16, qm_600, qm_200, qm_8, qn_210, qn_3, qa_0, qb_0, qa_1, qb_1, qa_2, qb_2, qa_3, qb_3, qa_4, qb_4, qa_16, qb_16, qa_180, qb_180, qs_1, qs_2, qs_3, qs_4, qs_6, qs_24, nI_add, q_sub, q_pred, q_clamp, q_in, nI_leI, nI_ltI, nI_eq, ql_0, qL_0, qt_0, qT_0, qe_0, qc_0, qi_0, ql_1, qL_1, qt_1, qT_1, qe_1, qc_1, qi_1, ql_2, qL_2, qt_2, qT_2, qe_2, qc_2, qi_2, ql_3, qL_3, qt_3, qT_3, qe_3, qc_3, qi_3, ql_4, qL_4, qt_4, qT_4, qe_4, qc_4, qi_4, ql_6, qL_6, qt_6, qT_6, qe_6, qc_6, qi_6, ql_8, qL_8, qt_8, qT_8, qe_8, qc_8, qi_8, ql_10, qL_10, qt_10, qT_10, qe_10, qc_10, qi_10, ql_24, qL_24, qt_24, qT_24, qe_24, qc_24, qi_24, ql_60, qL_60, qt_60, qT_60, qe_60, qc_60, qi_60, ql_100, qL_100, qt_100, qT_100, qe_100, qc_100, qi_100, ql_200, qL_200, qt_200, qT_200, qe_200, qc_200, qi_200, ql_400, qL_400, qt_400, qT_400, qe_400, qc_400, qi_400, ql_600, qL_600, qt_600, qT_600, qe_600, qc_600, qi_600, ql_900, qL_900, qt_900, qT_900, qe_900, qc_900, qi_900, ql_1200, qL_1200, qt_1200, qT_1200, qe_1200, qc_1200, qi_1200, ql_65536, qL_65536, qt_65536, qT_65536, qe_65536, qc_65536, qi_65536, true_and, and_true, eq_self, forall_eq, forall_eq_apply_imp_iff]
          refine ⟨fun c => by omega, fun _ => ?_⟩
          have inner : ∀ b i, i + b = k → (lk L (fky f st k)).isNone = true → nov (fky f st) (fky f st k) i = true → jj_WP d mX10_fill 0 0 85 [(0, .ref m), (1, .int (nI t)), (2, .int f), (3, .int st), (4, .int (nI r)), (5, .int w), (6, .int (nI (mor L f st k))), (7, .int (nI k)), (8, .int (fky f st k)), (9, .int 1), (10, .int (nI i))] [] h1 Q := by
            intro b
            induction b with
            | zero =>
              intro i hi hl hv
              have hik : i = k := by omega
              subst hik
              refine VX10_fill_85 _ _ _ _ _ _ _ _ _ _ _ ?_
              simp (disch := omega) only [qm_3, qm_4, qm_16, qm_600, qm_200, qm_8, qn_210, qn_3, qa_0, qb_0, qa_1, qb_1, qa_2, qb_2, qa_3, qb_3, qa_4, qb_4, qa_16, qb_16, qa_180, qb_180, qs_1, qs_2, qs_3, qs_4, qs_6, qs_24, nI_add, q_sub, q_pred, q_clamp, q_in, nI_leI, nI_ltI, nI_eq, ql_0, qL_0, qt_0, qT_0, qe_0, qc_0, qi_0, ql_1, qL_1, qt_1, qT_1, qe_1, qc_1, qi_1, ql_2, qL_2, qt_2, qT_2, qe_2, qc_2, qi_2, ql_3, qL_3, qt_3, qT_3, qe_3, qc_3, qi_3, ql_4, qL_4, qt_4, qT_4, qe_4, qc_4, qi_4, ql_6, qL_6, qt_6, qT_6, qe_6, qc_6, qi_6, ql_8, qL_8, qt_8, qT_8, qe_8, qc_8, qi_8, ql_10, qL_10, qt_10, qT_10, qe_10, qc_10, qi_10, ql_24, qL_24, qt_24, qT_24, qe_24, qc_24, qi_24, ql_60, qL_60, qt_60, qT_60, qe_60, qc_60, qi_60, ql_100, qL_100, qt_100, qT_100, qe_100, qc_100, qi_100, ql_200, qL_200, qt_200, qT_200, qe_200, qc_200, qi_200, ql_400, qL_400, qt_400, qT_400, qe_400, qc_400, qi_400, ql_600, qL_600, qt_600, qT_600, qe_600, qc_600, qi_600, ql_900, qL_900, qt_900, qT_900, qe_900, qc_900, qi_900, ql_1200, qL_1200, qt_1200, qT_1200, qe_1200, qc_1200, qi_1200, ql_65536, qL_65536, qt_65536, qT_65536, qe_65536, qc_65536, qi_65536]
              refine ⟨fun _ => ⟨fun c => absurd c (by decide), fun _ => ?_⟩, fun c => absurd (Nat.le_refl _) c⟩
              simp only [mor, hl, hv, Bool.and_self, if_true] at nxt
              exact nxt
            | succ b ihb =>
              intro i hi hl hv
              refine VX10_fill_85 _ _ _ _ _ _ _ _ _ _ _ ?_
              simp (disch := omega) only [qm_3, qm_4, qm_16, qm_600, qm_200, qm_8, qn_210, qn_3, qa_0, qb_0, qa_1, qb_1, qa_2, qb_2, qa_3, qb_3, qa_4, qb_4, qa_16, qb_16, qa_180, qb_180, qs_1, qs_2, qs_3, qs_4, qs_6, qs_24, nI_add, q_sub, q_pred, q_clamp, q_in, nI_leI, nI_ltI, nI_eq, ql_0, qL_0, qt_0, qT_0, qe_0, qc_0, qi_0, ql_1, qL_1, qt_1, qT_1, qe_1, qc_1, qi_1, ql_2, qL_2, qt_2, qT_2, qe_2, qc_2, qi_2, ql_3, qL_3, qt_3, qT_3, qe_3, qc_3, qi_3, ql_4, qL_4, qt_4, qT_4, qe_4, qc_4, qi_4, ql_6, qL_6, qt_6, qT_6, qe_6, qc_6, qi_6, ql_8, qL_8, qt_8, qT_8, qe_8, qc_8, qi_8, ql_10, qL_10, qt_10, qT_10, qe_10, qc_10, qi_10, ql_24, qL_24, qt_24, qT_24, qe_24, qc_24, qi_24, ql_60, qL_60, qt_60, qT_60, qe_60, qc_60, qi_60, ql_100, qL_100, qt_100, qT_100, qe_100, qc_100, qi_100, ql_200, qL_200, qt_200, qT_200, qe_200, qc_200, qi_200, ql_400, qL_400, qt_400, qT_400, qe_400, qc_400, qi_400, ql_600, qL_600, qt_600, qT_600, qe_600, qc_600, qi_600, ql_900, qL_900, qt_900, qT_900, qe_900, qc_900, qi_900, ql_1200, qL_1200, qt_1200, qT_1200, qe_1200, qc_1200, qi_1200, ql_65536, qL_65536, qt_65536, qT_65536, qe_65536, qc_65536, qi_65536]
              refine ⟨fun c => by omega, fun _ => ⟨fun c => absurd c (by decide), fun _ => ⟨fun c => ?_, fun c => ?_⟩⟩⟩
              · have hf : nov (fky f st) (fky f st k) k = false := by
                  cases e4 : nov (fky f st) (fky f st k) k with
                  | false => rfl
                  | true => exact absurd c (nov_iff.mp e4 i (by omega))
                simp only [mor, hf, Bool.and_false] at nxt
                refine VX10_fill_85 _ _ _ _ _ _ _ _ _ _ _ ?_
                simp (disch := omega) only [qm_3, qm_4, qm_16, qm_600, qm_200, qm_8, qn_210, qn_3, qa_0, qb_0, qa_1, qb_1, qa_2, qb_2, qa_3, qb_3, qa_4, qb_4, qa_16, qb_16, qa_180, qb_180, qs_1, qs_2, qs_3, qs_4, qs_6, qs_24, nI_add, q_sub, q_pred, q_clamp, q_in, nI_leI, nI_ltI, nI_eq, ql_0, qL_0, qt_0, qT_0, qe_0, qc_0, qi_0, ql_1, qL_1, qt_1, qT_1, qe_1, qc_1, qi_1, ql_2, qL_2, qt_2, qT_2, qe_2, qc_2, qi_2, ql_3, qL_3, qt_3, qT_3, qe_3, qc_3, qi_3, ql_4, qL_4, qt_4, qT_4, qe_4, qc_4, qi_4, ql_6, qL_6, qt_6, qT_6, qe_6, qc_6, qi_6, ql_8, qL_8, qt_8, qT_8, qe_8, qc_8, qi_8, ql_10, qL_10, qt_10, qT_10, qe_10, qc_10, qi_10, ql_24, qL_24, qt_24, qT_24, qe_24, qc_24, qi_24, ql_60, qL_60, qt_60, qT_60, qe_60, qc_60, qi_60, ql_100, qL_100, qt_100, qT_100, qe_100, qc_100, qi_100, ql_200, qL_200, qt_200, qT_200, qe_200, qc_200, qi_200, ql_400, qL_400, qt_400, qT_400, qe_400, qc_400, qi_400, ql_600, qL_600, qt_600, qT_600, qe_600, qc_600, qi_600, ql_900, qL_900, qt_900, qT_900, qe_900, qc_900, qi_900, ql_1200, qL_1200, qt_1200, qT_1200, qe_1200, qc_1200, qi_1200, ql_65536, qL_65536, qt_65536, qT_65536, qe_65536, qc_65536, qi_65536]
                exact ⟨fun _ => ⟨fun _ => nxt, fun c => absurd trivial c⟩, fun _ => ⟨fun _ => ⟨fun _ => nxt, fun c => absurd trivial c⟩, fun c => absurd trivial c⟩⟩
              · exact ihb (i + 1) (by omega) hl (by simp only [nov, hv, Bool.true_and]; exact decide_eq_true c)
          refine s_find (s := 60) M1 (by omega) ht3 T (fun r' hr' => ?_) (fun hr' => ?_)
          · have hlt : rk L (fky f st k) < L.length := (List.getElem?_eq_some_iff.mp (lk_some hr').1).1
            refine ⟨fun _ => ?_, fun q => absurd ?_ q⟩
            · have hr2' : lk L (fky f st k) = some r' := hr'
              simp only [mor, hr2', Option.isNone_some, Bool.false_and] at nxt
              refine VX10_fill_85 _ _ _ _ _ _ _ _ _ _ _ ?_
              simp (disch := omega) only [qm_3, qm_4, qm_16, qm_600, qm_200, qm_8, qn_210, qn_3, qa_0, qb_0, qa_1, qb_1, qa_2, qb_2, qa_3, qb_3, qa_4, qb_4, qa_16, qb_16, qa_180, qb_180, qs_1, qs_2, qs_3, qs_4, qs_6, qs_24, nI_add, q_sub, q_pred, q_clamp, q_in, nI_leI, nI_ltI, nI_eq, ql_0, qL_0, qt_0, qT_0, qe_0, qc_0, qi_0, ql_1, qL_1, qt_1, qT_1, qe_1, qc_1, qi_1, ql_2, qL_2, qt_2, qT_2, qe_2, qc_2, qi_2, ql_3, qL_3, qt_3, qT_3, qe_3, qc_3, qi_3, ql_4, qL_4, qt_4, qT_4, qe_4, qc_4, qi_4, ql_6, qL_6, qt_6, qT_6, qe_6, qc_6, qi_6, ql_8, qL_8, qt_8, qT_8, qe_8, qc_8, qi_8, ql_10, qL_10, qt_10, qT_10, qe_10, qc_10, qi_10, ql_24, qL_24, qt_24, qT_24, qe_24, qc_24, qi_24, ql_60, qL_60, qt_60, qT_60, qe_60, qc_60, qi_60, ql_100, qL_100, qt_100, qT_100, qe_100, qc_100, qi_100, ql_200, qL_200, qt_200, qT_200, qe_200, qc_200, qi_200, ql_400, qL_400, qt_400, qT_400, qe_400, qc_400, qi_400, ql_600, qL_600, qt_600, qT_600, qe_600, qc_600, qi_600, ql_900, qL_900, qt_900, qT_900, qe_900, qc_900, qi_900, ql_1200, qL_1200, qt_1200, qT_1200, qe_1200, qc_1200, qi_1200, ql_65536, qL_65536, qt_65536, qT_65536, qe_65536, qc_65536, qi_65536]
              exact ⟨fun _ => ⟨fun _ => nxt, fun c => absurd trivial c⟩, fun _ => ⟨fun _ => ⟨fun _ => nxt, fun c => absurd trivial c⟩, fun c => absurd trivial c⟩⟩
            · rw [qL_0 (by have := rk_le L (f + nI k * st); omega)]
              exact Nat.zero_le _
          · refine ⟨fun q => absurd q (by decide), fun _ => inner k 0 (by omega) ?_ rfl⟩
            have hr2' : lk L (fky f st k) = none := hr'
            rw [hr2']
            rfl
      exact cnt r 0 (by omega)
    · exact ⟨fun _ => bad _ (by simp only [a_fill, ht, hr]), fun c => absurd rfl c⟩
  · exact ⟨fun _ => bad _ (by simp only [a_fill, ht]), fun c => absurd rfl c⟩
end JP1
