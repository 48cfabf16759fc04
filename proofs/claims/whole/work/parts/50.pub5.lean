/-! the reference: base, reset, sweep, commit -/
theorem gr_top (x : Int64) {k : Nat} (hk : bt x k = true) : ∀ n, k < n → (∀ i, k < i → i < n → bt x i = false) → gr x n = k := by
  intro n
  induction n with
  | zero => intro h; omega
  | succ n ih =>
    intro h1 h2
    simp only [gr]
    by_cases e : k = n
    · rw [← e, hk]; rfl
    · rw [h2 n (by omega) (by omega)]
      exact ih (by omega) fun i p q => h2 i p (by omega)
theorem gr_in (x : Int64) : ∀ n, (∃ k, k < n ∧ bt x k = true) → gr x n < n ∧ bt x (gr x n) = true ∧ ∀ i, gr x n < i → i < n → bt x i = false := by
  intro n
  induction n with
  | zero => rintro ⟨k, h, _⟩; omega
  | succ n ih =>
    rintro ⟨k, h1, h2⟩
    simp only [gr]
    by_cases e : bt x n = true
    · rw [if_pos e]
      exact ⟨by omega, e, fun i p q => by omega⟩
    · rw [if_neg e]
      obtain ⟨a, b, c⟩ := ih ⟨k, by have : k ≠ n := (fun q => e (q ▸ h2)); omega, h2⟩
      refine ⟨by omega, b, fun i p q => ?_⟩
      by_cases e2 : i = n
      · rw [e2]; simpa using e
      · exact c i p (by omega)
theorem wf_an {s : St} (hw : s.wf) {c : Nat} (hc : c < s.made) : bt (s.an c) c = true ∧ bt (s.an c) 0 = true ∧ (∀ i, i < 64 → bt (s.an c) i = true → i ≤ c) ∧ ∀ i j, i < 64 → j < 64 → bt (s.an c) i = true → bt (s.an i) j = true → bt (s.an c) j = true := hw.2.2.2.1 c hc
theorem bas_ok {s : St} (hw : s.wf) {c d : Nat} (hc : c < s.made) (hd : d < s.made) : s.bas c d ≤ c ∧ s.bas c d ≤ d ∧ bt (s.an c &&& s.an d) (s.bas c d) = true ∧ ∀ i, s.bas c d < i → i < 60 → bt (s.an c &&& s.an d) i = false := by
  have hm := hw.1.2
  obtain ⟨a, b, e⟩ := gr_in (s.an c &&& s.an d) 60 ⟨0, by omega, by rw [bt_and, (wf_an hw hc).2.1, (wf_an hw hd).2.1]; rfl⟩
  have b' : bt (s.an c &&& s.an d) (s.bas c d) = true := b
  rw [bt_and, Bool.and_eq_true] at b'
  have h1 := (wf_an hw hc).2.2.1 (s.bas c d) (by unfold St.bas; omega) b'.1
  have h2 := (wf_an hw hd).2.2.1 (s.bas c d) (by unfold St.bas; omega) b'.2
  exact ⟨h1, h2, b, e⟩
theorem bas_here {s : St} (hw : s.wf) {c d : Nat} (hc : c < s.made) (hd : d < s.made) (hh : bt s.here c = true) : bt s.here (s.bas c d) = true := by
  have hm := hw.1.2
  obtain ⟨a, b, e, _⟩ := bas_ok hw hc hd
  rw [bt_and, Bool.and_eq_true] at e
  exact an_here hw (by omega) (by omega) hh e.1
section JP5
variable {m : Nat} {s : St} {h : jj_H} {Q : Value → jj_H → Prop}
theorem s_baseOf {c d' : Nat} (R : Rr h m s) (hw : s.wf) (hc : c < s.made) (hd : d' < s.made) (H : Q (.int (nI (s.bas c d'))) h) : jj_C mX10_baseOf 0 0 [.ref m, .int (nI c), .int (nI d')] h Q := by
  refine EX10_baseOf _ _ _ fun d => ?_
  have hm := hw.1.2
  have M := R.1
  have v1 : jL h 1000 (m + 15) c = s.an c := (R.g.1.2.2 c hc).2.2
  have v2 : jL h 1000 (m + 15) d' = s.an d' := (R.g.1.2.2 d' hd).2.2
  obtain ⟨b1, b2, b3, b4⟩ := bas_ok hw hc hd
  simp (disch := omega) only [(rM_k M), (rM_r501 M), (rM_k1 M), (rM_n1 M), (rM_r502 M), (rM_k2 M), (rM_n2 M), (rM_r503 M), (rM_k3 M), (rM_n3 M), (rM_r504 M), (rM_k4 M), (rM_n4 M), (rM_r505 M), (rM_k5 M), (rM_n5 M), (rM_r506 M), (rM_k6 M), (rM_n6 M), (rM_r507 M), (rM_k7 M), (rM_n7 M), (rM_r508 M), (rM_k8 M), (rM_n8 M), (rM_r509 M), (rM_k9 M), (rM_n9 M), (rM_r510 M), (rM_k10 M), (rM_n10 M), (rM_r511 M), (rM_k11 M), (rM_n11 M), (rM_r512 M), (rM_k12 M), (rM_n12 M), (rM_r515 M), (rM_k13 M), (rM_n13 M), (rM_r516 M), (rM_k14 M), (rM_n14 M), (rM_r517 M), (rM_k15 M), (rM_n15 M), (rM_r518 M), (rM_k16 M), (rM_n16 M), (rM_r524 M), (rM_k17 M), (rM_n17 M), (rM_r525 M), (rM_k18 M), (rM_n18 M), (rM_r526 M), (rM_k19 M), (rM_n19 M), (rM_r528 M), (rM_k20 M), (rM_n20 M), (rM_r529 M), (rM_k21 M), (rM_n21 M), (rM_r531 M), (rM_k22 M), (rM_n22 M), (rM_r532 M), (rM_k23 M), (rM_n23 M), (rM_r533 M), (rM_k24 M), (rM_n24 M), q_clamp, q_in, nI_leI, nI_ltI, nI_eq, ql_0, qL_0, qt_0, qT_0, qe_0, qc_0, qi_0, ql_1, qL_1, qt_1, qT_1, qe_1, qc_1, qi_1, ql_2, qL_2, qt_2, qT_2, qe_2, qc_2, qi_2, ql_3, qL_3, qt_3, qT_3, qe_3, qc_3, qi_3, ql_4, qL_4, qt_4, qT_4, qe_4, qc_4, qi_4, ql_6, qL_6, qt_6, qT_6, qe_6, qc_6, qi_6, ql_8, qL_8, qt_8, qT_8, qe_8, qc_8, qi_8, ql_10, qL_10, qt_10, qT_10, qe_10, qc_10, qi_10, ql_24, qL_24, qt_24, qT_24, qe_24, qc_24, qi_24, ql_60, qL_60, qt_60, qT_60, qe_60, qc_60, qi_60, ql_100, qL_100, qt_100, qT_100, qe_100, qc_100, qi_100, ql_200, qL_200, qt_200, qT_200, qe_200, qc_200, qi_200, ql_400, qL_400, qt_400, qT_400, qe_400, qc_400, qi_400, ql_600, qL_600, qt_600, qT_600, qe_600, qc_600, qi_600, ql_900, qL_900, qt_900, qT_900, qe_900, qc_900, qi_900, ql_1200, qL_1200, qt_1200, qT_1200, qe_1200, qc_1200, qi_1200, ql_65536, qL_65536, qt_65536, qT_65536, qe_65536, qc_65536, qi_65536, v1, v2, true_and, and_true, eq_self, forall_eq, forall_eq_apply_imp_iff]
  generalize hX : s.an c &&& s.an d' = X at *
  generalize hB : s.bas c d' = B at *
  -- a number behind the base isn't one; the base is
  have inner : ∀ r i, i + r = 60 → jj_WP d mX10_baseOf 0 0 44 [(0, .ref m), (3, .long X), (5, .int (nI B)), (6, .int 1), (7, .int (nI i))] [] h Q := by
    intro r
    induction r with
    | zero =>
      intro i hi
      refine VX10_baseOf_44 _ _ _ _ _ ?_
      simp (disch := omega) only [q_clamp, q_in, nI_leI, nI_ltI, nI_eq, ql_0, qL_0, qt_0, qT_0, qe_0, qc_0, qi_0, ql_1, qL_1, qt_1, qT_1, qe_1, qc_1, qi_1, ql_2, qL_2, qt_2, qT_2, qe_2, qc_2, qi_2, ql_3, qL_3, qt_3, qT_3, qe_3, qc_3, qi_3, ql_4, qL_4, qt_4, qT_4, qe_4, qc_4, qi_4, ql_6, qL_6, qt_6, qT_6, qe_6, qc_6, qi_6, ql_8, qL_8, qt_8, qT_8, qe_8, qc_8, qi_8, ql_10, qL_10, qt_10, qT_10, qe_10, qc_10, qi_10, ql_24, qL_24, qt_24, qT_24, qe_24, qc_24, qi_24, ql_60, qL_60, qt_60, qT_60, qe_60, qc_60, qi_60, ql_100, qL_100, qt_100, qT_100, qe_100, qc_100, qi_100, ql_200, qL_200, qt_200, qT_200, qe_200, qc_200, qi_200, ql_400, qL_400, qt_400, qT_400, qe_400, qc_400, qi_400, ql_600, qL_600, qt_600, qT_600, qe_600, qc_600, qi_600, ql_900, qL_900, qt_900, qT_900, qe_900, qc_900, qi_900, ql_1200, qL_1200, qt_1200, qT_1200, qe_1200, qc_1200, qi_1200, ql_65536, qL_65536, qt_65536, qT_65536, qe_65536, qc_65536, qi_65536]
      exact ⟨fun _ => ⟨fun c => absurd c (by decide), fun _ => H⟩, fun c => by omega⟩
    | succ r ih =>
      intro i hi
      refine VX10_baseOf_44 _ _ _ _ _ ?_
      have hb := bt_sar (x := X) (c := i) (by omega)
      simp (disch := omega) only [qm_3, qm_4, qm_16, qm_600, qm_200, qm_8, qn_210, qn_3, qa_0, qb_0, qa_1, qb_1, qa_2, qb_2, qa_3, qb_3, qa_4, qb_4, qa_16, qb_16, qa_180, qb_180, qs_1, qs_2, qs_3, qs_4, qs_6, qs_24, nI_add, q_sub, q_pred, q_clamp, q_in, nI_leI, nI_ltI, nI_eq, ql_0, qL_0, qt_0, qT_0, qe_0, qc_0, qi_0, ql_1, qL_1, qt_1, qT_1, qe_1, qc_1, qi_1, ql_2, qL_2, qt_2, qT_2, qe_2, qc_2, qi_2, ql_3, qL_3, qt_3, qT_3, qe_3, qc_3, qi_3, ql_4, qL_4, qt_4, qT_4, qe_4, qc_4, qi_4, ql_6, qL_6, qt_6, qT_6, qe_6, qc_6, qi_6, ql_8, qL_8, qt_8, qT_8, qe_8, qc_8, qi_8, ql_10, qL_10, qt_10, qT_10, qe_10, qc_10, qi_10, ql_24, qL_24, qt_24, qT_24, qe_24, qc_24, qi_24, ql_60, qL_60, qt_60, qT_60, qe_60, qc_60, qi_60, ql_100, qL_100, qt_100, qT_100, qe_100, qc_100, qi_100, ql_200, qL_200, qt_200, qT_200, qe_200, qc_200, qi_200, ql_400, qL_400, qt_400, qT_400, qe_400, qc_400, qi_400, ql_600, qL_600, qt_600, qT_600, qe_600, qc_600, qi_600, ql_900, qL_900, qt_900, qT_900, qe_900, qc_900, qi_900, ql_1200, qL_1200, qt_1200, qT_1200, qe_1200, qc_1200, qi_1200, ql_65536, qL_65536, qt_65536, qT_65536, qe_65536, qc_65536, qi_65536, hb]
      refine ⟨fun c => by omega, fun _ => ⟨fun c => absurd c (by decide), fun _ => ⟨fun _ => ih (i + 1) (by omega), fun hne => ⟨fun _ => ih (i + 1) (by omega), fun q => ⟨R.K, ?_⟩⟩⟩⟩⟩
      have q' : bt X i = true := by simpa using q
      have hiB : i < B := by
        rcases Nat.lt_or_ge B i with z | z
        · rw [b4 i z (by omega)] at q'; cases q'
        · omega
      refine s_isAncestor R (by omega) (by omega) hm (fun z => ?_) (fun _ => ?_)
      · have := (wf_an hw (c := i) (by omega)).2.2.1 B (by omega) z
        omega
      · exact ⟨fun c => absurd rfl c, fun _ => ih (i + 1) (by omega)⟩
  have loop : ∀ k, B ≤ k → k < 60 → jj_WP d mX10_baseOf 0 0 18 [(0, .ref m), (3, .long X), (5, .int (nI k))] [] h Q := by
    intro k
    induction k with
    | zero =>
      intro h1 h2
      have hb := bt_sar (x := X) (c := 0) (by omega)
      refine VX10_baseOf_18 _ _ _ ?_
      have e0 : B = 0 := by omega
      rw [hb]
      refine ⟨fun c => absurd c (by decide), fun _ => ⟨fun c => ?_, fun _ => ?_⟩⟩
      · rw [e0] at b3; rw [b3] at c; cases c
      · have := inner 60 0 (by omega)
        rw [e0] at this
        exact this
    | succ k ih =>
      intro h1 h2
      have hb := bt_sar (x := X) (c := k + 1) (by omega)
      refine VX10_baseOf_18 _ _ _ ?_
      simp (disch := omega) only [q_clamp, q_in, nI_leI, nI_ltI, nI_eq, ql_0, qL_0, qt_0, qT_0, qe_0, qc_0, qi_0, ql_1, qL_1, qt_1, qT_1, qe_1, qc_1, qi_1, ql_2, qL_2, qt_2, qT_2, qe_2, qc_2, qi_2, ql_3, qL_3, qt_3, qT_3, qe_3, qc_3, qi_3, ql_4, qL_4, qt_4, qT_4, qe_4, qc_4, qi_4, ql_6, qL_6, qt_6, qT_6, qe_6, qc_6, qi_6, ql_8, qL_8, qt_8, qT_8, qe_8, qc_8, qi_8, ql_10, qL_10, qt_10, qT_10, qe_10, qc_10, qi_10, ql_24, qL_24, qt_24, qT_24, qe_24, qc_24, qi_24, ql_60, qL_60, qt_60, qT_60, qe_60, qc_60, qi_60, ql_100, qL_100, qt_100, qT_100, qe_100, qc_100, qi_100, ql_200, qL_200, qt_200, qT_200, qe_200, qc_200, qi_200, ql_400, qL_400, qt_400, qT_400, qe_400, qc_400, qi_400, ql_600, qL_600, qt_600, qT_600, qe_600, qc_600, qi_600, ql_900, qL_900, qt_900, qT_900, qe_900, qc_900, qi_900, ql_1200, qL_1200, qt_1200, qT_1200, qe_1200, qc_1200, qi_1200, ql_65536, qL_65536, qt_65536, qT_65536, qe_65536, qc_65536, qi_65536, hb]
      refine ⟨fun c => absurd c (Nat.not_lt_zero _), fun _ => ⟨fun c => ?_, fun c => ?_⟩⟩
      · have hne : B ≠ k + 1 := fun q => by rw [q] at b3; rw [b3] at c; cases c
        have nxt := ih (by omega) (by omega)
        refine VX10_baseOf_44 _ _ _ _ _ ?_
        rw [pk_m1]
        exact ⟨fun _ => ⟨fun _ => nxt, fun c => absurd rfl c⟩, fun _ => ⟨fun _ => ⟨fun _ => nxt, fun c => absurd rfl c⟩, fun c => absurd rfl c⟩⟩
      · have e : k + 1 = B := by
          rcases Nat.lt_or_ge B (k + 1) with z | z
          · exact absurd (b4 (k + 1) z h2) c
          · omega
        have := inner 60 0 (by omega)
        rw [← e] at this
        exact this
  exact loop 59 (by omega) (by omega)
theorem r_base {x y : Int32} (R : Rr h m s) (hw : s.wf) (H : ∀ h', Rr h' m s → rfr h h' m → Q (.int (a_base s x y)) h') : jj_C mX10_base 0 0 [.ref m, .int x, .int y] h Q := by
  refine EX10_base _ _ _ fun d => r_start R fun h1 R1 F1 => ?_
  have HH := H h1 R1 F1
  refine s_isCommit R1 (fun k hk => ?_) (fun hk => ?_)
  · refine ⟨fun c => absurd c (by decide), fun _ => ⟨R1.K, s_isCommit R1 (fun j hj => ?_) (fun hj => ?_)⟩⟩
    · refine ⟨fun c => absurd c (by decide), fun _ => ⟨R1.K, ?_⟩⟩
      obtain ⟨e1, hk2, _⟩ := cAt_some hw hk
      obtain ⟨e2, hj2, _⟩ := cAt_some hw hj
      simp only [a_base, hk, hj] at HH
      rw [e1, e2]
      exact s_baseOf R1 hw hk2 hj2 HH
    · simp only [a_base, hk, hj] at HH
      exact ⟨fun _ => HH, fun c => absurd rfl c⟩
  · simp only [a_base, hk] at HH
    exact ⟨fun _ => HH, fun c => absurd rfl c⟩
theorem wk3_wf {s : St} (hw : s.wf) {p : Nat} (hp : p < s.made ∨ p = 60) : (s.wk3 (s.T p)).wf := by
  refine ⟨hw.1, fun q t hq ht => ?_, hw.2.2⟩
  show Srt (if q = 60 then s.T p t else s.T q t) ∧ (if q = 60 then s.T p t else s.T q t).length ≤ 200
  split
  · exact hw.2.1 p t hp ht
  · exact hw.2.1 q t hq ht
theorem r_reset (R : Rr h m s) (hw : s.wf) (H : ∀ h', Rr h' m (a_reset s).2 → rfr h h' m → Q (.int (a_reset s).1) h') : jj_C mX10_reset 0 0 [.ref m] h Q := by
  refine EX10_reset _ fun d => r_start R fun h1 R1 F1 => ?_
  obtain ⟨a, b, c⟩ := hand_ok hw
  have hm := hw.1.2
  have M := R1.1
  have hv : jI h1 1000 (m + 16) s.hand = nI (s.hN s.hand) := (R1.g.2.1.1 s.hand c).trans a
  have hh : jI h1 519 m 0 = nI s.hand := R1.g.2.1.2
  have hmg : jI h1 520 m 0 = nI s.mg := R1.g.2.2.1.1
  have hm2 : s.mg ≤ 2 := hw.2.2.2.2.2.2.2.1.1
  have fin : ∀ v : Int32, (v = 0 ∨ v = 1) → (if 0 < s.mg ∨ s.cln = false then (1 : Int32) else 0) = v → jj_WP d mX10_reset 0 0 24 [(0, .ref m)] [.int v] h1 Q := by
    intro v hv01 hval
    refine VX10_reset_24 _ _ ?_
    simp (disch := omega) only [(rM_k M), (rM_r501 M), (rM_k1 M), (rM_n1 M), (rM_r502 M), (rM_k2 M), (rM_n2 M), (rM_r503 M), (rM_k3 M), (rM_n3 M), (rM_r504 M), (rM_k4 M), (rM_n4 M), (rM_r505 M), (rM_k5 M), (rM_n5 M), (rM_r506 M), (rM_k6 M), (rM_n6 M), (rM_r507 M), (rM_k7 M), (rM_n7 M), (rM_r508 M), (rM_k8 M), (rM_n8 M), (rM_r509 M), (rM_k9 M), (rM_n9 M), (rM_r510 M), (rM_k10 M), (rM_n10 M), (rM_r511 M), (rM_k11 M), (rM_n11 M), (rM_r512 M), (rM_k12 M), (rM_n12 M), (rM_r515 M), (rM_k13 M), (rM_n13 M), (rM_r516 M), (rM_k14 M), (rM_n14 M), (rM_r517 M), (rM_k15 M), (rM_n15 M), (rM_r518 M), (rM_k16 M), (rM_n16 M), (rM_r524 M), (rM_k17 M), (rM_n17 M), (rM_r525 M), (rM_k18 M), (rM_n18 M), (rM_r526 M), (rM_k19 M), (rM_n19 M), (rM_r528 M), (rM_k20 M), (rM_n20 M), (rM_r529 M), (rM_k21 M), (rM_n21 M), (rM_r531 M), (rM_k22 M), (rM_n22 M), (rM_r532 M), (rM_k23 M), (rM_n23 M), (rM_r533 M), (rM_k24 M), (rM_n24 M), q_clamp, q_in, nI_leI, nI_ltI, nI_eq, ql_0, qL_0, qt_0, qT_0, qe_0, qc_0, qi_0, ql_1, qL_1, qt_1, qT_1, qe_1, qc_1, qi_1, ql_2, qL_2, qt_2, qT_2, qe_2, qc_2, qi_2, ql_3, qL_3, qt_3, qT_3, qe_3, qc_3, qi_3, ql_4, qL_4, qt_4, qT_4, qe_4, qc_4, qi_4, ql_6, qL_6, qt_6, qT_6, qe_6, qc_6, qi_6, ql_8, qL_8, qt_8, qT_8, qe_8, qc_8, qi_8, ql_10, qL_10, qt_10, qT_10, qe_10, qc_10, qi_10, ql_24, qL_24, qt_24, qT_24, qe_24, qc_24, qi_24, ql_60, qL_60, qt_60, qT_60, qe_60, qc_60, qi_60, ql_100, qL_100, qt_100, qT_100, qe_100, qc_100, qi_100, ql_200, qL_200, qt_200, qT_200, qe_200, qc_200, qi_200, ql_400, qL_400, qt_400, qT_400, qe_400, qc_400, qi_400, ql_600, qL_600, qt_600, qT_600, qe_600, qc_600, qi_600, ql_900, qL_900, qt_900, qT_900, qe_900, qc_900, qi_900, ql_1200, qL_1200, qt_1200, qT_1200, qe_1200, qc_1200, qi_1200, ql_65536, qL_65536, qt_65536, qT_65536, qe_65536, qc_65536, qi_65536, hh, hv, true_and, and_true, eq_self, forall_eq, forall_eq_apply_imp_iff]
    refine s_copy (s' := 60) M (by omega) (by omega) (by omega) (R1.2.1 (s.hN s.hand) (Or.inl b)) fun h3 T3 F3 => ?_
    have R3 : Rr h3 m (s.wk3 (s.T (s.hN s.hand))) := R1.fs hw F3 T3
    refine ⟨R3.K, s_over R3 fun h4 R4 F4 => ?_⟩
    have := H h4 R4 (F1.trans (F3.fr.trans F4))
    have e : (a_reset s).1 = v := hval
    rw [e] at this
    rcases hv01 with z | z
    · rw [z] at this ⊢; exact ⟨fun _ => this, fun c => absurd rfl c⟩
    · rw [z] at this ⊢; exact ⟨fun c => absurd c (by decide), fun _ => this⟩
  simp (disch := omega) only [q_clamp, q_in, nI_leI, nI_ltI, nI_eq, ql_0, qL_0, qt_0, qT_0, qe_0, qc_0, qi_0, ql_1, qL_1, qt_1, qT_1, qe_1, qc_1, qi_1, ql_2, qL_2, qt_2, qT_2, qe_2, qc_2, qi_2, ql_3, qL_3, qt_3, qT_3, qe_3, qc_3, qi_3, ql_4, qL_4, qt_4, qT_4, qe_4, qc_4, qi_4, ql_6, qL_6, qt_6, qT_6, qe_6, qc_6, qi_6, ql_8, qL_8, qt_8, qT_8, qe_8, qc_8, qi_8, ql_10, qL_10, qt_10, qT_10, qe_10, qc_10, qi_10, ql_24, qL_24, qt_24, qT_24, qe_24, qc_24, qi_24, ql_60, qL_60, qt_60, qT_60, qe_60, qc_60, qi_60, ql_100, qL_100, qt_100, qT_100, qe_100, qc_100, qi_100, ql_200, qL_200, qt_200, qT_200, qe_200, qc_200, qi_200, ql_400, qL_400, qt_400, qT_400, qe_400, qc_400, qi_400, ql_600, qL_600, qt_600, qT_600, qe_600, qc_600, qi_600, ql_900, qL_900, qt_900, qT_900, qe_900, qc_900, qi_900, ql_1200, qL_1200, qt_1200, qT_1200, qe_1200, qc_1200, qi_1200, ql_65536, qL_65536, qt_65536, qT_65536, qe_65536, qc_65536, qi_65536, hmg]
  refine ⟨fun q => fin 1 (Or.inr rfl) (by rw [if_pos (Or.inl q)]), fun q => s_isClean R1 hw (fun z => ?_) (fun z => ?_)⟩
  · refine ⟨fun _ => fin 0 (Or.inl rfl) (if_neg (fun y => y.elim q (fun w => by rw [z] at w; cases w))), fun c => absurd c (by decide)⟩
  · exact ⟨fun c => absurd rfl c, fun _ => fin 1 (Or.inr rfl) (if_pos (Or.inr z))⟩
theorem Rr.here {h : jj_H} {m : Nat} {v : Int64} {s : St} (R : Rr h m s) : Rr (wL h 514 m 0 v) m (s.set2 (s.made, v, s.fp, s.sp, s.an)) :=
  Rr.mk (R.t.wL (s := s) (by omega)) ⟨⟨R.g.1.1, by rw [jL_wL, if_pos ⟨rfl, rfl, rfl⟩]; rfl, fun c hc => ⟨(R.g.1.2.2 c hc).1, (R.g.1.2.2 c hc).2.1, by rw [jL_wL, if_neg (by omega)]; exact (R.g.1.2.2 c hc).2.2⟩⟩, R.g.2.1.wL, R.g.2.2.1.wL, R.g.2.2.2.1.wL, R.g.2.2.2.2.wL (by omega)⟩
theorem r_sweep (R : Rr h m s) (hw : s.wf) (H : ∀ h', Rr h' m (a_sweep s).2 → rfr h h' m → Q (.int (a_sweep s).1) h') : jj_C mX10_sweep 0 0 [.ref m] h Q := by
  refine EX10_sweep _ fun d => r_start R fun h1 R1 F1 => ?_
  have hm := hw.1.2
  have M := R1.1
  have hmg : jI h1 520 m 0 = nI s.mg := R1.g.2.2.1.1
  have hm2 : s.mg ≤ 2 := hw.2.2.2.2.2.2.2.1.1
  have hh : jL h1 514 m 0 = s.here := R1.g.1.2.1
  simp (disch := omega) only [q_clamp, q_in, nI_leI, nI_ltI, nI_eq, ql_0, qL_0, qt_0, qT_0, qe_0, qc_0, qi_0, ql_1, qL_1, qt_1, qT_1, qe_1, qc_1, qi_1, ql_2, qL_2, qt_2, qT_2, qe_2, qc_2, qi_2, ql_3, qL_3, qt_3, qT_3, qe_3, qc_3, qi_3, ql_4, qL_4, qt_4, qT_4, qe_4, qc_4, qi_4, ql_6, qL_6, qt_6, qT_6, qe_6, qc_6, qi_6, ql_8, qL_8, qt_8, qT_8, qe_8, qc_8, qi_8, ql_10, qL_10, qt_10, qT_10, qe_10, qc_10, qi_10, ql_24, qL_24, qt_24, qT_24, qe_24, qc_24, qi_24, ql_60, qL_60, qt_60, qT_60, qe_60, qc_60, qi_60, ql_100, qL_100, qt_100, qT_100, qe_100, qc_100, qi_100, ql_200, qL_200, qt_200, qT_200, qe_200, qc_200, qi_200, ql_400, qL_400, qt_400, qT_400, qe_400, qc_400, qi_400, ql_600, qL_600, qt_600, qT_600, qe_600, qc_600, qi_600, ql_900, qL_900, qt_900, qT_900, qe_900, qc_900, qi_900, ql_1200, qL_1200, qt_1200, qT_1200, qe_1200, qc_1200, qi_1200, ql_65536, qL_65536, qt_65536, qT_65536, qe_65536, qc_65536, qi_65536, hmg]
  refine ⟨fun c0 => ?_, fun c0 => ?_⟩
  · have e : a_sweep s = (nI (pc (s.here &&& (s.sty 6 ^^^ (-1))) 60), s.set2 (s.made, s.here &&& s.sty 6, s.fp, s.sp, s.an)) := by unfold a_sweep; rw [if_neg (by omega)]
    have loop : ∀ r b, b + r = 6 → jj_WP d mX10_sweep 0 0 19 [(0, .ref m), (1, .long (s.sty b)), (3, .int (nI b))] [] h1 Q := by
      intro r
      induction r with
      | zero =>
        intro b hb
        refine VX10_sweep_19 _ _ _ ?_
        simp (disch := omega) only [(rM_k M), (rM_r501 M), (rM_k1 M), (rM_n1 M), (rM_r502 M), (rM_k2 M), (rM_n2 M), (rM_r503 M), (rM_k3 M), (rM_n3 M), (rM_r504 M), (rM_k4 M), (rM_n4 M), (rM_r505 M), (rM_k5 M), (rM_n5 M), (rM_r506 M), (rM_k6 M), (rM_n6 M), (rM_r507 M), (rM_k7 M), (rM_n7 M), (rM_r508 M), (rM_k8 M), (rM_n8 M), (rM_r509 M), (rM_k9 M), (rM_n9 M), (rM_r510 M), (rM_k10 M), (rM_n10 M), (rM_r511 M), (rM_k11 M), (rM_n11 M), (rM_r512 M), (rM_k12 M), (rM_n12 M), (rM_r515 M), (rM_k13 M), (rM_n13 M), (rM_r516 M), (rM_k14 M), (rM_n14 M), (rM_r517 M), (rM_k15 M), (rM_n15 M), (rM_r518 M), (rM_k16 M), (rM_n16 M), (rM_r524 M), (rM_k17 M), (rM_n17 M), (rM_r525 M), (rM_k18 M), (rM_n18 M), (rM_r526 M), (rM_k19 M), (rM_n19 M), (rM_r528 M), (rM_k20 M), (rM_n20 M), (rM_r529 M), (rM_k21 M), (rM_n21 M), (rM_r531 M), (rM_k22 M), (rM_n22 M), (rM_r532 M), (rM_k23 M), (rM_n23 M), (rM_r533 M), (rM_k24 M), (rM_n24 M), q_clamp, q_in, nI_leI, nI_ltI, nI_eq, ql_0, qL_0, qt_0, qT_0, qe_0, qc_0, qi_0, ql_1, qL_1, qt_1, qT_1, qe_1, qc_1, qi_1, ql_2, qL_2, qt_2, qT_2, qe_2, qc_2, qi_2, ql_3, qL_3, qt_3, qT_3, qe_3, qc_3, qi_3, ql_4, qL_4, qt_4, qT_4, qe_4, qc_4, qi_4, ql_6, qL_6, qt_6, qT_6, qe_6, qc_6, qi_6, ql_8, qL_8, qt_8, qT_8, qe_8, qc_8, qi_8, ql_10, qL_10, qt_10, qT_10, qe_10, qc_10, qi_10, ql_24, qL_24, qt_24, qT_24, qe_24, qc_24, qi_24, ql_60, qL_60, qt_60, qT_60, qe_60, qc_60, qi_60, ql_100, qL_100, qt_100, qT_100, qe_100, qc_100, qi_100, ql_200, qL_200, qt_200, qT_200, qe_200, qc_200, qi_200, ql_400, qL_400, qt_400, qT_400, qe_400, qc_400, qi_400, ql_600, qL_600, qt_600, qT_600, qe_600, qc_600, qi_600, ql_900, qL_900, qt_900, qT_900, qe_900, qc_900, qi_900, ql_1200, qL_1200, qt_1200, qT_1200, qe_1200, qc_1200, qi_1200, ql_65536, qL_65536, qt_65536, qT_65536, qe_65536, qc_65536, qi_65536, hh, true_and, and_true, eq_self, forall_eq, forall_eq_apply_imp_iff]
        refine ⟨fun _ => s_bits ⟨R1.K, ?_⟩, fun c => by omega⟩
        have hb6 : b = 6 := by omega
        subst hb6
        have := H _ (by rw [e]; exact R1.here) (F1.trans (rfr.wL (by omega) (by omega)))
        rw [hh]
        rw [e] at this
        exact this
      | succ r ih =>
        intro b hb
        have nxt := ih (b + 1) (by omega)
        have hv : jI h1 1000 (m + 16) b = s.hd b := R1.g.2.1.1 b (by omega)
        refine VX10_sweep_19 _ _ _ ?_
        simp only [St.sty] at nxt
        by_cases q : s.hd b = -1
        · rw [if_pos q] at nxt
          simp (disch := omega) only [(rM_k M), (rM_r501 M), (rM_k1 M), (rM_n1 M), (rM_r502 M), (rM_k2 M), (rM_n2 M), (rM_r503 M), (rM_k3 M), (rM_n3 M), (rM_r504 M), (rM_k4 M), (rM_n4 M), (rM_r505 M), (rM_k5 M), (rM_n5 M), (rM_r506 M), (rM_k6 M), (rM_n6 M), (rM_r507 M), (rM_k7 M), (rM_n7 M), (rM_r508 M), (rM_k8 M), (rM_n8 M), (rM_r509 M), (rM_k9 M), (rM_n9 M), (rM_r510 M), (rM_k10 M), (rM_n10 M), (rM_r511 M), (rM_k11 M), (rM_n11 M), (rM_r512 M), (rM_k12 M), (rM_n12 M), (rM_r515 M), (rM_k13 M), (rM_n13 M), (rM_r516 M), (rM_k14 M), (rM_n14 M), (rM_r517 M), (rM_k15 M), (rM_n15 M), (rM_r518 M), (rM_k16 M), (rM_n16 M), (rM_r524 M), (rM_k17 M), (rM_n17 M), (rM_r525 M), (rM_k18 M), (rM_n18 M), (rM_r526 M), (rM_k19 M), (rM_n19 M), (rM_r528 M), (rM_k20 M), (rM_n20 M), (rM_r529 M), (rM_k21 M), (rM_n21 M), (rM_r531 M), (rM_k22 M), (rM_n22 M), (rM_r532 M), (rM_k23 M), (rM_n23 M), (rM_r533 M), (rM_k24 M), (rM_n24 M), qm_3, qm_4, qm_16, qm_600, qm_200, qm_8, qn_210, qn_3, qa_0, qb_0, qa_1, qb_1, qa_2, qb_2, qa_3, qb_3, qa_4, qb_4, qa_16, qb_16, qa_180, qb_180, qs_1, qs_2, qs_3, qs_4, qs_6, qs_24, nI_add, q_sub, q_pred, q_clamp, q_in, nI_leI, nI_ltI, nI_eq, ql_0, qL_0, qt_0, qT_0, qe_0, qc_0, qi_0, ql_1, qL_1, qt_1, qT_1, qe_1, qc_1, qi_1, ql_2, qL_2, qt_2, qT_2, qe_2, qc_2, qi_2, ql_3, qL_3, qt_3, qT_3, qe_3, qc_3, qi_3, ql_4, qL_4, qt_4, qT_4, qe_4, qc_4, qi_4, ql_6, qL_6, qt_6, qT_6, qe_6, qc_6, qi_6, ql_8, qL_8, qt_8, qT_8, qe_8, qc_8, qi_8, ql_10, qL_10, qt_10, qT_10, qe_10, qc_10, qi_10, ql_24, qL_24, qt_24, qT_24, qe_24, qc_24, qi_24, ql_60, qL_60, qt_60, qT_60, qe_60, qc_60, qi_60, ql_100, qL_100, qt_100, qT_100, qe_100, qc_100, qi_100, ql_200, qL_200, qt_200, qT_200, qe_200, qc_200, qi_200, ql_400, qL_400, qt_400, qT_400, qe_400, qc_400, qi_400, ql_600, qL_600, qt_600, qT_600, qe_600, qc_600, qi_600, ql_900, qL_900, qt_900, qT_900, qe_900, qc_900, qi_900, ql_1200, qL_1200, qt_1200, qT_1200, qe_1200, qc_1200, qi_1200, ql_65536, qL_65536, qt_65536, qT_65536, qe_65536, qc_65536, qi_65536, hv, true_and, and_true, eq_self, forall_eq, forall_eq_apply_imp_iff]
          exact ⟨fun c => by omega, fun _ => ⟨fun c => absurd q c, fun _ => nxt⟩⟩
        · rw [if_neg q] at nxt
          obtain ⟨q1, q2⟩ := hN_ok hw (b := b) (by omega) q
          have v3 : jL h1 1000 (m + 15) (s.hN b) = s.an (s.hN b) := (R1.g.1.2.2 _ q2).2.2
          have hv' := hv.trans q1
          simp (disch := omega) only [(rM_k M), (rM_r501 M), (rM_k1 M), (rM_n1 M), (rM_r502 M), (rM_k2 M), (rM_n2 M), (rM_r503 M), (rM_k3 M), (rM_n3 M), (rM_r504 M), (rM_k4 M), (rM_n4 M), (rM_r505 M), (rM_k5 M), (rM_n5 M), (rM_r506 M), (rM_k6 M), (rM_n6 M), (rM_r507 M), (rM_k7 M), (rM_n7 M), (rM_r508 M), (rM_k8 M), (rM_n8 M), (rM_r509 M), (rM_k9 M), (rM_n9 M), (rM_r510 M), (rM_k10 M), (rM_n10 M), (rM_r511 M), (rM_k11 M), (rM_n11 M), (rM_r512 M), (rM_k12 M), (rM_n12 M), (rM_r515 M), (rM_k13 M), (rM_n13 M), (rM_r516 M), (rM_k14 M), (rM_n14 M), (rM_r517 M), (rM_k15 M), (rM_n15 M), (rM_r518 M), (rM_k16 M), (rM_n16 M), (rM_r524 M), (rM_k17 M), (rM_n17 M), (rM_r525 M), (rM_k18 M), (rM_n18 M), (rM_r526 M), (rM_k19 M), (rM_n19 M), (rM_r528 M), (rM_k20 M), (rM_n20 M), (rM_r529 M), (rM_k21 M), (rM_n21 M), (rM_r531 M), (rM_k22 M), (rM_n22 M), (rM_r532 M), (rM_k23 M), (rM_n23 M), (rM_r533 M), (rM_k24 M), (rM_n24 M), qm_3, qm_4, qm_16, qm_600, qm_200, qm_8, qn_210, qn_3, qa_0, qb_0, qa_1, qb_1, qa_2, qb_2, qa_3, qb_3, qa_4, qb_4, qa_16, qb_16, qa_180, qb_180, qs_1, qs_2, qs_3, qs_4, qs_6, qs_24, nI_add, q_sub, q_pred, q_clamp, q_in, nI_leI, nI_ltI, nI_eq, ql_0, qL_0, qt_0, qT_0, qe_0, qc_0, qi_0, ql_1, qL_1, qt_1, qT_1, qe_1, qc_1, qi_1, ql_2, qL_2, qt_2, qT_2, qe_2, qc_2, qi_2, ql_3, qL_3, qt_3, qT_3, qe_3, qc_3, qi_3, ql_4, qL_4, qt_4, qT_4, qe_4, qc_4, qi_4, ql_6, qL_6, qt_6, qT_6, qe_6, qc_6, qi_6, ql_8, qL_8, qt_8, qT_8, qe_8, qc_8, qi_8, ql_10, qL_10, qt_10, qT_10, qe_10, qc_10, qi_10, ql_24, qL_24, qt_24, qT_24, qe_24, qc_24, qi_24, ql_60, qL_60, qt_60, qT_60, qe_60, qc_60, qi_60, ql_100, qL_100, qt_100, qT_100, qe_100, qc_100, qi_100, ql_200, qL_200, qt_200, qT_200, qe_200, qc_200, qi_200, ql_400, qL_400, qt_400, qT_400, qe_400, qc_400, qi_400, ql_600, qL_600, qt_600, qT_600, qe_600, qc_600, qi_600, ql_900, qL_900, qt_900, qT_900, qe_900, qc_900, qi_900, ql_1200, qL_1200, qt_1200, qT_1200, qe_1200, qc_1200, qi_1200, ql_65536, qL_65536, qt_65536, qT_65536, qe_65536, qc_65536, qi_65536, hv', v3, true_and, and_true, eq_self, forall_eq, forall_eq_apply_imp_iff]
          exact ⟨fun c => by omega, fun _ => ⟨fun _ => nxt, fun c => absurd c (nI_m1 (by omega))⟩⟩
    exact loop 6 0 (by omega)
  · have e : a_sweep s = (-3, s) := by unfold a_sweep; rw [if_pos (by omega)]
    have := H h1 (by rw [e]; exact R1) F1
    rw [e] at this
    exact this
end JP5
