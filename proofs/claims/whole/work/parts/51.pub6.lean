/-! the reference: commit -/
section JP6
variable {m : Nat} {s : St} {h : jj_H} {Q : Value → jj_H → Prop}
theorem s_more {d : jj_D} (R : Rr h m s) (hw : s.wf) (h60 : s.made ≠ 60) (H : ∀ h', Rr h' m (s.more.sh s.hand (nI s.made)).over → rfr h h' m → Q (.int (nI s.made)) h') : jj_WP d mX10_commit 0 0 31 [(0, .ref m)] [] h Q := by
  obtain ⟨a, b, c⟩ := hand_ok hw
  have hm := hw.1.2
  have M := R.1
  have hmd : jI h 513 m 0 = nI s.made := R.g.1.1
  have hhr : jL h 514 m 0 = s.here := R.g.1.2.1
  have hm2 : s.mg ≤ 2 := hw.2.2.2.2.2.2.2.1.1
  refine VX10_commit_31 _ ⟨R.K, fun _ => ?_, fun q => absurd (by rw [hmd] at q; exact (nI_eq (b := 60) (by omega) (by decide)).mp q) h60⟩
  intro h2 e2 h3 e3
  -- the numbers
  have f3 : h3.2.2 = h.2.2 := by rw [e3, e2]; rfl
  have M3 := M.of f3
  have k3 : jI h3 519 m 0 = nI s.hand := by rw [e3, e2, jI_wL, jI_wI, if_neg (by omega)]; exact R.g.2.1.2
  have hd3 : jI h3 1000 (m + 16) s.hand = nI (s.hN s.hand) := by rw [e3, e2, jI_wL, jI_wI, if_neg (by omega)]; exact (R.g.2.1.1 s.hand c).trans a
  simp (disch := omega) only [(rM_k M), (rM_r501 M), (rM_k1 M), (rM_n1 M), (rM_r502 M), (rM_k2 M), (rM_n2 M), (rM_r503 M), (rM_k3 M), (rM_n3 M), (rM_r504 M), (rM_k4 M), (rM_n4 M), (rM_r505 M), (rM_k5 M), (rM_n5 M), (rM_r506 M), (rM_k6 M), (rM_n6 M), (rM_r507 M), (rM_k7 M), (rM_n7 M), (rM_r508 M), (rM_k8 M), (rM_n8 M), (rM_r509 M), (rM_k9 M), (rM_n9 M), (rM_r510 M), (rM_k10 M), (rM_n10 M), (rM_r511 M), (rM_k11 M), (rM_n11 M), (rM_r512 M), (rM_k12 M), (rM_n12 M), (rM_r515 M), (rM_k13 M), (rM_n13 M), (rM_r516 M), (rM_k14 M), (rM_n14 M), (rM_r517 M), (rM_k15 M), (rM_n15 M), (rM_r518 M), (rM_k16 M), (rM_n16 M), (rM_r524 M), (rM_k17 M), (rM_n17 M), (rM_r525 M), (rM_k18 M), (rM_n18 M), (rM_r526 M), (rM_k19 M), (rM_n19 M), (rM_r528 M), (rM_k20 M), (rM_n20 M), (rM_r529 M), (rM_k21 M), (rM_n21 M), (rM_r531 M), (rM_k22 M), (rM_n22 M), (rM_r532 M), (rM_k23 M), (rM_n23 M), (rM_r533 M), (rM_k24 M), (rM_n24 M), (rM_k M3), (rM_r501 M3), (rM_k1 M3), (rM_n1 M3), (rM_r502 M3), (rM_k2 M3), (rM_n2 M3), (rM_r503 M3), (rM_k3 M3), (rM_n3 M3), (rM_r504 M3), (rM_k4 M3), (rM_n4 M3), (rM_r505 M3), (rM_k5 M3), (rM_n5 M3), (rM_r506 M3), (rM_k6 M3), (rM_n6 M3), (rM_r507 M3), (rM_k7 M3), (rM_n7 M3), (rM_r508 M3), (rM_k8 M3), (rM_n8 M3), (rM_r509 M3), (rM_k9 M3), (rM_n9 M3), (rM_r510 M3), (rM_k10 M3), (rM_n10 M3), (rM_r511 M3), (rM_k11 M3), (rM_n11 M3), (rM_r512 M3), (rM_k12 M3), (rM_n12 M3), (rM_r515 M3), (rM_k13 M3), (rM_n13 M3), (rM_r516 M3), (rM_k14 M3), (rM_n14 M3), (rM_r517 M3), (rM_k15 M3), (rM_n15 M3), (rM_r518 M3), (rM_k16 M3), (rM_n16 M3), (rM_r524 M3), (rM_k17 M3), (rM_n17 M3), (rM_r525 M3), (rM_k18 M3), (rM_n18 M3), (rM_r526 M3), (rM_k19 M3), (rM_n19 M3), (rM_r528 M3), (rM_k20 M3), (rM_n20 M3), (rM_r529 M3), (rM_k21 M3), (rM_n21 M3), (rM_r531 M3), (rM_k22 M3), (rM_n22 M3), (rM_r532 M3), (rM_k23 M3), (rM_n23 M3), (rM_r533 M3), (rM_k24 M3), (rM_n24 M3), q_clamp, q_in, nI_leI, nI_ltI, nI_eq, ql_0, qL_0, qt_0, qT_0, qe_0, qc_0, qi_0, ql_1, qL_1, qt_1, qT_1, qe_1, qc_1, qi_1, ql_2, qL_2, qt_2, qT_2, qe_2, qc_2, qi_2, ql_3, qL_3, qt_3, qT_3, qe_3, qc_3, qi_3, ql_4, qL_4, qt_4, qT_4, qe_4, qc_4, qi_4, ql_6, qL_6, qt_6, qT_6, qe_6, qc_6, qi_6, ql_8, qL_8, qt_8, qT_8, qe_8, qc_8, qi_8, ql_10, qL_10, qt_10, qT_10, qe_10, qc_10, qi_10, ql_24, qL_24, qt_24, qT_24, qe_24, qc_24, qi_24, ql_60, qL_60, qt_60, qT_60, qe_60, qc_60, qi_60, ql_100, qL_100, qt_100, qT_100, qe_100, qc_100, qi_100, ql_200, qL_200, qt_200, qT_200, qe_200, qc_200, qi_200, ql_400, qL_400, qt_400, qT_400, qe_400, qc_400, qi_400, ql_600, qL_600, qt_600, qT_600, qe_600, qc_600, qi_600, ql_900, qL_900, qt_900, qT_900, qe_900, qc_900, qi_900, ql_1200, qL_1200, qt_1200, qT_1200, qe_1200, qc_1200, qi_1200, ql_65536, qL_65536, qt_65536, qT_65536, qe_65536, qc_65536, qi_65536, hmd, k3, hd3, true_and, eq_self]
  intro h4 e4
  have f4 : h4.2.2 = h.2.2 := by rw [e4]; exact f3
  have M4 := M.of f4
  have g4 : jI h4 520 m 0 = nI s.mg := by rw [e4, e3, e2, jI_wI, if_neg (by omega), jI_wL, jI_wI, if_neg (by omega)]; exact R.g.2.2.1.1
  -- behind it all: parents and line written
  have step : ∀ (h6 : jj_H), h6.2.2 = h.2.2 → gC h6 m s.more.2.1 → gH h6 m s.2.2.1 → gM h6 m s.2.2.2.1 → gD h6 m s.2.2.2.2.1 → gO h6 m s.2.2.2.2.2 → (∀ a' i, m + 1 ≤ a' → a' ≤ m + 9 → jI h6 1000 a' i = jI h 1000 a' i) → (∀ i, jL h6 1000 (m + 10) i = jL h 1000 (m + 10) i) → rfr h h6 m → jj_C mX10_copy 0 0 [.ref m, .int 60, .int (nI s.made)] h6 (fun v5 h4 => jj_WP d mX10_commit 0 0 162 [(0, .ref m), (1, .int (nI s.made)), (2, .int 0)] [] h4 Q) := by
    intro h6 f6 c6 gh6 gm6 gd6 go6 i6 l6 fr6
    have T6 := R.t.ag f6 i6 l6
    refine s_copy (s := 60) T6.1 (by omega) (by omega) (by omega) (T6.2.1 60 (Or.inr rfl)) fun h7 T7 F7 => ?_
    have M7 : rM h7 m := T6.1.of (by rw [F7.1])
    -- the trees
    have loop : ∀ r t (h8 : jj_H), t + r = 3 → h8.2.2 = h7.2.2 → (∀ tg a' i, (a' < m + 4 ∨ m + 12 < a') → jI h8 tg a' i = jI h7 tg a' i) → (∀ tg a' i, a' ≠ m + 10 → jL h8 tg a' i = jL h7 tg a' i) → (∀ p u, p < s.made → u < 3 → rTr h8 m (3 * p + u) (tree (s.T p u))) → (∀ u, u < t → rTr h8 m (3 * s.made + u) (tree (s.T 60 u))) → jj_WP d mX10_commit 0 0 162 [(0, .ref m), (1, .int (nI s.made)), (2, .int (nI t))] [] h8 Q := by
      intro r
      induction r with
      | zero =>
        intro t h8 ht f8 i8 l8 tr8 lo
        have M8 := M7.of f8
        have k8 : jI h8 519 m 0 = nI s.hand := by rw [i8 _ _ _ (by omega), F7.2.1 _ _ _ (by omega) (by omega) (by omega)]; exact gh6.2
        refine VX10_commit_162 _ _ _ ?_
        simp (disch := omega) only [(rM_k M8), (rM_r501 M8), (rM_k1 M8), (rM_n1 M8), (rM_r502 M8), (rM_k2 M8), (rM_n2 M8), (rM_r503 M8), (rM_k3 M8), (rM_n3 M8), (rM_r504 M8), (rM_k4 M8), (rM_n4 M8), (rM_r505 M8), (rM_k5 M8), (rM_n5 M8), (rM_r506 M8), (rM_k6 M8), (rM_n6 M8), (rM_r507 M8), (rM_k7 M8), (rM_n7 M8), (rM_r508 M8), (rM_k8 M8), (rM_n8 M8), (rM_r509 M8), (rM_k9 M8), (rM_n9 M8), (rM_r510 M8), (rM_k10 M8), (rM_n10 M8), (rM_r511 M8), (rM_k11 M8), (rM_n11 M8), (rM_r512 M8), (rM_k12 M8), (rM_n12 M8), (rM_r515 M8), (rM_k13 M8), (rM_n13 M8), (rM_r516 M8), (rM_k14 M8), (rM_n14 M8), (rM_r517 M8), (rM_k15 M8), (rM_n15 M8), (rM_r518 M8), (rM_k16 M8), (rM_n16 M8), (rM_r524 M8), (rM_k17 M8), (rM_n17 M8), (rM_r525 M8), (rM_k18 M8), (rM_n18 M8), (rM_r526 M8), (rM_k19 M8), (rM_n19 M8), (rM_r528 M8), (rM_k20 M8), (rM_n20 M8), (rM_r529 M8), (rM_k21 M8), (rM_n21 M8), (rM_r531 M8), (rM_k22 M8), (rM_n22 M8), (rM_r532 M8), (rM_k23 M8), (rM_n23 M8), (rM_r533 M8), (rM_k24 M8), (rM_n24 M8), q_clamp, q_in, nI_leI, nI_ltI, nI_eq, ql_0, qL_0, qt_0, qT_0, qe_0, qc_0, qi_0, ql_1, qL_1, qt_1, qT_1, qe_1, qc_1, qi_1, ql_2, qL_2, qt_2, qT_2, qe_2, qc_2, qi_2, ql_3, qL_3, qt_3, qT_3, qe_3, qc_3, qi_3, ql_4, qL_4, qt_4, qT_4, qe_4, qc_4, qi_4, ql_6, qL_6, qt_6, qT_6, qe_6, qc_6, qi_6, ql_8, qL_8, qt_8, qT_8, qe_8, qc_8, qi_8, ql_10, qL_10, qt_10, qT_10, qe_10, qc_10, qi_10, ql_24, qL_24, qt_24, qT_24, qe_24, qc_24, qi_24, ql_60, qL_60, qt_60, qT_60, qe_60, qc_60, qi_60, ql_100, qL_100, qt_100, qT_100, qe_100, qc_100, qi_100, ql_200, qL_200, qt_200, qT_200, qe_200, qc_200, qi_200, ql_400, qL_400, qt_400, qT_400, qe_400, qc_400, qi_400, ql_600, qL_600, qt_600, qT_600, qe_600, qc_600, qi_600, ql_900, qL_900, qt_900, qT_900, qe_900, qc_900, qi_900, ql_1200, qL_1200, qt_1200, qT_1200, qe_1200, qc_1200, qi_1200, ql_65536, qL_65536, qt_65536, qT_65536, qe_65536, qc_65536, qi_65536, k8, true_and, and_true, eq_self, forall_eq, forall_eq_apply_imp_iff]
        refine ⟨fun _ => ?_, fun c => by omega⟩
        have R8 : Rr h8 m s.more := by
          refine Rr.mk ⟨M8, fun p hp u hu => ?_, fun p u hp hu => ?_⟩ (RrG.fr (h := h7) ?_ (fun tg a' i p q => i8 _ _ _ (by omega)) l8)
          · show rTb h8 m p u (if p = s.made then s.T 60 u else s.T p u)
            have hp' : p < s.made + 1 ∨ p = 60 := hp
            refine rTb.ag (h := h7) ?_ fun a' i p1 p2 => i8 _ _ _ (by omega)
            by_cases e : p = s.made
            · rw [if_pos e, e]; exact T7 u hu
            · rw [if_neg e]
              exact F7.2.2 p u _ e hu (T6.2.1 p (by omega) u hu)
          · show rTr h8 m (3 * p + u) (tree (if p = s.made then s.T 60 u else s.T p u))
            have hp' : p < s.made + 1 := hp
            by_cases e : p = s.made
            · rw [if_pos e, e]; exact lo u (by omega)
            · rw [if_neg e]; exact tr8 p u (by omega) hu
          · refine RrG.fr (h := h6) ⟨c6, gh6, gm6, gd6, go6⟩ (fun tg a' i p q => F7.2.1 _ _ _ (by omega) (by omega) (by omega)) (fun tg a' i _ => by unfold jL; rw [F7.1])
        refine s_over (R8.head (b := s.hand) (v := nI s.made)) fun h9 R9 F9 => ?_
        refine H h9 R9 ((fr6.trans F7.fr).trans (rfr.trans ⟨f8, fun tg a' i p => ⟨i8 _ _ _ (by omega), l8 _ _ _ (by omega)⟩⟩ ((rfr.wI (by omega) (by omega)).trans F9)))
      | succ r ih =>
        intro t h8 ht f8 i8 l8 tr8 lo
        have M8 := M7.of f8
        refine VX10_commit_162 _ _ _ ?_
        simp (disch := omega) only [(rM_k M8), (rM_r501 M8), (rM_k1 M8), (rM_n1 M8), (rM_r502 M8), (rM_k2 M8), (rM_n2 M8), (rM_r503 M8), (rM_k3 M8), (rM_n3 M8), (rM_r504 M8), (rM_k4 M8), (rM_n4 M8), (rM_r505 M8), (rM_k5 M8), (rM_n5 M8), (rM_r506 M8), (rM_k6 M8), (rM_n6 M8), (rM_r507 M8), (rM_k7 M8), (rM_n7 M8), (rM_r508 M8), (rM_k8 M8), (rM_n8 M8), (rM_r509 M8), (rM_k9 M8), (rM_n9 M8), (rM_r510 M8), (rM_k10 M8), (rM_n10 M8), (rM_r511 M8), (rM_k11 M8), (rM_n11 M8), (rM_r512 M8), (rM_k12 M8), (rM_n12 M8), (rM_r515 M8), (rM_k13 M8), (rM_n13 M8), (rM_r516 M8), (rM_k14 M8), (rM_n14 M8), (rM_r517 M8), (rM_k15 M8), (rM_n15 M8), (rM_r518 M8), (rM_k16 M8), (rM_n16 M8), (rM_r524 M8), (rM_k17 M8), (rM_n17 M8), (rM_r525 M8), (rM_k18 M8), (rM_n18 M8), (rM_r526 M8), (rM_k19 M8), (rM_n19 M8), (rM_r528 M8), (rM_k20 M8), (rM_n20 M8), (rM_r529 M8), (rM_k21 M8), (rM_n21 M8), (rM_r531 M8), (rM_k22 M8), (rM_n22 M8), (rM_r532 M8), (rM_k23 M8), (rM_n23 M8), (rM_r533 M8), (rM_k24 M8), (rM_n24 M8), qm_3, qm_4, qm_16, qm_600, qm_200, qm_8, qn_210, qn_3, qa_0, qb_0, qa_1, qb_1, qa_2, qb_2, qa_3, qb_3, qa_4, qb_4, qa_16, qb_16, qa_180, qb_180, qs_1, qs_2, qs_3, qs_4, qs_6, qs_24, nI_add, q_sub, q_pred, q_clamp, q_in, nI_leI, nI_ltI, nI_eq, ql_0, qL_0, qt_0, qT_0, qe_0, qc_0, qi_0, ql_1, qL_1, qt_1, qT_1, qe_1, qc_1, qi_1, ql_2, qL_2, qt_2, qT_2, qe_2, qc_2, qi_2, ql_3, qL_3, qt_3, qT_3, qe_3, qc_3, qi_3, ql_4, qL_4, qt_4, qT_4, qe_4, qc_4, qi_4, ql_6, qL_6, qt_6, qT_6, qe_6, qc_6, qi_6, ql_8, qL_8, qt_8, qT_8, qe_8, qc_8, qi_8, ql_10, qL_10, qt_10, qT_10, qe_10, qc_10, qi_10, ql_24, qL_24, qt_24, qT_24, qe_24, qc_24, qi_24, ql_60, qL_60, qt_60, qT_60, qe_60, qc_60, qi_60, ql_100, qL_100, qt_100, qT_100, qe_100, qc_100, qi_100, ql_200, qL_200, qt_200, qT_200, qe_200, qc_200, qi_200, ql_400, qL_400, qt_400, qT_400, qe_400, qc_400, qi_400, ql_600, qL_600, qt_600, qT_600, qe_600, qc_600, qi_600, ql_900, qL_900, qt_900, qT_900, qe_900, qc_900, qi_900, ql_1200, qL_1200, qt_1200, qT_1200, qe_1200, qc_1200, qi_1200, ql_65536, qL_65536, qt_65536, qT_65536, qe_65536, qc_65536, qi_65536, true_and, and_true, eq_self, forall_eq, forall_eq_apply_imp_iff]
        refine ⟨fun c => by omega, fun _ => ?_⟩
        have T8 : rTb h8 m s.made t (s.T 60 t) := (T7 t (by omega)).ag fun a' i p1 p2 => i8 _ _ _ (by omega)
        refine s_cut M8 (by omega) (by omega) T8 fun h9 T9 F9 => ?_
        refine ih (t + 1) h9 (by omega) (F9.1.trans f8) (fun tg a' i p => (F9.2.1 _ _ _ p).trans (i8 _ _ _ p)) (fun tg a' i p => (F9.2.2.2.2 _ _ _ (fun q => p q.1)).trans (l8 _ _ _ p)) (fun p u hp hu => F9.tr (by omega) (by have := (tree_len _ (R.2.1 p (Or.inl hp) u hu).2.1).1; omega) (tr8 p u hp hu)) fun u hu => ?_
        by_cases e : u = t
        · rw [e]; exact T9
        · exact F9.tr (by omega) (by have := (tree_len _ (R.2.1 60 (Or.inr rfl) u (by omega)).2.1).1; omega) (lo u (by omega))
    refine loop 3 0 h7 (by omega) rfl (fun _ _ _ _ => rfl) (fun _ _ _ _ => rfl) (fun p u hp hu => ?_) (fun u hu => by omega)
    refine (T6.2.2 p u hp hu).ag (fun a' i p1 p2 => F7.2.1 _ _ _ (by omega) (by omega) (by omega)) (fun i => by unfold jL; rw [F7.1])
  -- the second parent, the line
  have sec : ∀ (v2 : Int32), (if s.mg = 1 then nI s.their else -1) = v2 → jj_WP d mX10_commit 0 0 106 [(0, .ref m), (1, .int (nI s.made))] [.int v2, .int (nI s.made), .ref (m + 14)] h4 Q := by
    intro v2 hv2
    refine VX10_commit_106 _ _ _ _ _ ?_
    simp (disch := omega) only [(rM_k M4), (rM_r501 M4), (rM_k1 M4), (rM_n1 M4), (rM_r502 M4), (rM_k2 M4), (rM_n2 M4), (rM_r503 M4), (rM_k3 M4), (rM_n3 M4), (rM_r504 M4), (rM_k4 M4), (rM_n4 M4), (rM_r505 M4), (rM_k5 M4), (rM_n5 M4), (rM_r506 M4), (rM_k6 M4), (rM_n6 M4), (rM_r507 M4), (rM_k7 M4), (rM_n7 M4), (rM_r508 M4), (rM_k8 M4), (rM_n8 M4), (rM_r509 M4), (rM_k9 M4), (rM_n9 M4), (rM_r510 M4), (rM_k10 M4), (rM_n10 M4), (rM_r511 M4), (rM_k11 M4), (rM_n11 M4), (rM_r512 M4), (rM_k12 M4), (rM_n12 M4), (rM_r515 M4), (rM_k13 M4), (rM_n13 M4), (rM_r516 M4), (rM_k14 M4), (rM_n14 M4), (rM_r517 M4), (rM_k15 M4), (rM_n15 M4), (rM_r518 M4), (rM_k16 M4), (rM_n16 M4), (rM_r524 M4), (rM_k17 M4), (rM_n17 M4), (rM_r525 M4), (rM_k18 M4), (rM_n18 M4), (rM_r526 M4), (rM_k19 M4), (rM_n19 M4), (rM_r528 M4), (rM_k20 M4), (rM_n20 M4), (rM_r529 M4), (rM_k21 M4), (rM_n21 M4), (rM_r531 M4), (rM_k22 M4), (rM_n22 M4), (rM_r532 M4), (rM_k23 M4), (rM_n23 M4), (rM_r533 M4), (rM_k24 M4), (rM_n24 M4), q_clamp, q_in, nI_leI, nI_ltI, nI_eq, ql_0, qL_0, qt_0, qT_0, qe_0, qc_0, qi_0, ql_1, qL_1, qt_1, qT_1, qe_1, qc_1, qi_1, ql_2, qL_2, qt_2, qT_2, qe_2, qc_2, qi_2, ql_3, qL_3, qt_3, qT_3, qe_3, qc_3, qi_3, ql_4, qL_4, qt_4, qT_4, qe_4, qc_4, qi_4, ql_6, qL_6, qt_6, qT_6, qe_6, qc_6, qi_6, ql_8, qL_8, qt_8, qT_8, qe_8, qc_8, qi_8, ql_10, qL_10, qt_10, qT_10, qe_10, qc_10, qi_10, ql_24, qL_24, qt_24, qT_24, qe_24, qc_24, qi_24, ql_60, qL_60, qt_60, qT_60, qe_60, qc_60, qi_60, ql_100, qL_100, qt_100, qT_100, qe_100, qc_100, qi_100, ql_200, qL_200, qt_200, qT_200, qe_200, qc_200, qi_200, ql_400, qL_400, qt_400, qT_400, qe_400, qc_400, qi_400, ql_600, qL_600, qt_600, qT_600, qe_600, qc_600, qi_600, ql_900, qL_900, qt_900, qT_900, qe_900, qc_900, qi_900, ql_1200, qL_1200, qt_1200, qT_1200, qe_1200, qc_1200, qi_1200, ql_65536, qL_65536, qt_65536, qT_65536, qe_65536, qc_65536, qi_65536, true_and]
    intro h5 e5
    have f5 : h5.2.2 = h.2.2 := by rw [e5]; exact f4
    have M5 := M.of f5
    have k5 : jI h5 519 m 0 = nI s.hand := by rw [e5, e4, jI_wI, if_neg (by omega), jI_wI, if_neg (by omega)]; exact k3
    have hd5 : jI h5 1000 (m + 16) s.hand = nI (s.hN s.hand) := by rw [e5, e4, jI_wI, if_neg (by omega), jI_wI, if_neg (by omega)]; exact hd3
    have g5 : jI h5 520 m 0 = nI s.mg := by rw [e5, jI_wI, if_neg (by omega)]; exact g4
    have an5 : ∀ c, c < s.made → jL h5 1000 (m + 15) c = s.an c := fun c hc => by rw [e5, e4, e3, e2, jL_wI, jL_wI, jL_wL, if_neg (by omega), jL_wI]; exact (R.g.1.2.2 c hc).2.2
    have an5h := an5 _ b
    have last : ∀ v, v = s.more.an s.made → jj_C mX10_copy 0 0 [.ref m, .int 60, .int (nI s.made)] (wL h5 1000 (m + 15) s.made v) (fun v5 h4 => jj_WP d mX10_commit 0 0 162 [(0, .ref m), (1, .int (nI s.made)), (2, .int 0)] [] h4 Q) := by
      intro v hv
      subst e5; subst e4; subst e3; subst e2
      refine step _ f5 ⟨?_, ?_, fun c' hc' => ⟨?_, ?_, ?_⟩⟩ (((((R.g.2.1.wI (by omega)).wL).wI (by omega)).wI (by omega)).wL) (((((R.g.2.2.1.wI (by omega)).wL).wI (by omega)).wI (by omega)).wL) (((((R.g.2.2.2.1.wI (by omega)).wL).wI (by omega)).wI (by omega)).wL) (((((R.g.2.2.2.2.wI (by omega)).wL (by omega)).wI (by omega)).wI (by omega)).wL (by omega)) (fun a' i p1 p2 => ?_) (fun i => ?_) ((((((rfr.wI (by omega) (by omega)).trans (rfr.wL (by omega) (by omega))).trans (rfr.wI (by omega) (by omega))).trans (rfr.wI (by omega) (by omega)))).trans (rfr.wL (by omega) (by omega)))
      · rw [jI_wL, jI_wI, if_neg (by omega), jI_wI, if_neg (by omega), jI_wL, jI_wI, if_pos ⟨rfl, rfl, rfl⟩, hmd, qa_1]; rfl
      · rw [jL_wL, if_neg (by omega), jL_wI, jL_wI, jL_wL, if_pos ⟨rfl, rfl, rfl⟩, jL_wI, hhr, hmd]; rfl
      · have hc2 : c' < s.made + 1 := hc'
        show _ = if c' = s.made then s.hd s.hand else s.fp c'
        rw [jI_wL, jI_wI, if_neg (by omega), jI_wI]
        by_cases e : c' = s.made
        · rw [if_pos ⟨rfl, rfl, e⟩, if_pos e, a]
        · rw [if_neg (by omega), if_neg e, jI_wL, jI_wI, if_neg (by omega)]; exact (R.g.1.2.2 c' (by show c' < s.made; omega)).1
      · have hc2 : c' < s.made + 1 := hc'
        show _ = if c' = s.made then (if s.mg = 1 then nI s.their else -1) else s.sp c'
        rw [jI_wL, jI_wI]
        by_cases e : c' = s.made
        · rw [if_pos ⟨rfl, rfl, e⟩, if_pos e, hv2]
        · rw [if_neg (by omega), if_neg e, jI_wI, if_neg (by omega), jI_wL, jI_wI, if_neg (by omega)]; exact (R.g.1.2.2 c' (by show c' < s.made; omega)).2.1
      · have hc2 : c' < s.made + 1 := hc'
        show _ = s.more.an c'
        rw [jL_wL]
        by_cases e : c' = s.made
        · rw [if_pos ⟨rfl, rfl, e⟩, hv, e]
        · rw [if_neg (by omega)]
          have := an5 c' (by omega)
          rw [this]
          show s.an c' = if c' = s.made then _ else s.an c'
          rw [if_neg e]
      · rw [jI_wL, jI_wI, if_neg (by omega), jI_wI, if_neg (by omega), jI_wL, jI_wI, if_neg (by omega)]
      · rw [jL_wL, if_neg (by omega), jL_wI, jL_wI, jL_wL, if_neg (by omega), jL_wI]
    have eAn : s.more.an s.made = (shl s.made ||| s.an (s.hN s.hand)) ||| (if s.mg = 1 then s.an s.their else 0) := by show (if s.made = s.made then _ else _) = _; rw [if_pos rfl]
    by_cases q : s.mg = 1
    · have t5 : jI h5 521 m 0 = nI s.their := by rw [e5, e4, e3, e2, jI_wI, if_neg (by omega), jI_wI, if_neg (by omega), jI_wL, jI_wI, if_neg (by omega)]; exact (R.g.2.2.1.2.1 (by show 0 < s.mg; omega)).1
      have ht := (hw.2.2.2.2.2.2.2.1.2.1 (by omega)).1
      have an5t := an5 _ ht
      rw [if_pos q] at eAn
      simp (disch := omega) only [(rM_k M), (rM_r501 M), (rM_k1 M), (rM_n1 M), (rM_r502 M), (rM_k2 M), (rM_n2 M), (rM_r503 M), (rM_k3 M), (rM_n3 M), (rM_r504 M), (rM_k4 M), (rM_n4 M), (rM_r505 M), (rM_k5 M), (rM_n5 M), (rM_r506 M), (rM_k6 M), (rM_n6 M), (rM_r507 M), (rM_k7 M), (rM_n7 M), (rM_r508 M), (rM_k8 M), (rM_n8 M), (rM_r509 M), (rM_k9 M), (rM_n9 M), (rM_r510 M), (rM_k10 M), (rM_n10 M), (rM_r511 M), (rM_k11 M), (rM_n11 M), (rM_r512 M), (rM_k12 M), (rM_n12 M), (rM_r515 M), (rM_k13 M), (rM_n13 M), (rM_r516 M), (rM_k14 M), (rM_n14 M), (rM_r517 M), (rM_k15 M), (rM_n15 M), (rM_r518 M), (rM_k16 M), (rM_n16 M), (rM_r524 M), (rM_k17 M), (rM_n17 M), (rM_r525 M), (rM_k18 M), (rM_n18 M), (rM_r526 M), (rM_k19 M), (rM_n19 M), (rM_r528 M), (rM_k20 M), (rM_n20 M), (rM_r529 M), (rM_k21 M), (rM_n21 M), (rM_r531 M), (rM_k22 M), (rM_n22 M), (rM_r532 M), (rM_k23 M), (rM_n23 M), (rM_r533 M), (rM_k24 M), (rM_n24 M), (rM_k M4), (rM_r501 M4), (rM_k1 M4), (rM_n1 M4), (rM_r502 M4), (rM_k2 M4), (rM_n2 M4), (rM_r503 M4), (rM_k3 M4), (rM_n3 M4), (rM_r504 M4), (rM_k4 M4), (rM_n4 M4), (rM_r505 M4), (rM_k5 M4), (rM_n5 M4), (rM_r506 M4), (rM_k6 M4), (rM_n6 M4), (rM_r507 M4), (rM_k7 M4), (rM_n7 M4), (rM_r508 M4), (rM_k8 M4), (rM_n8 M4), (rM_r509 M4), (rM_k9 M4), (rM_n9 M4), (rM_r510 M4), (rM_k10 M4), (rM_n10 M4), (rM_r511 M4), (rM_k11 M4), (rM_n11 M4), (rM_r512 M4), (rM_k12 M4), (rM_n12 M4), (rM_r515 M4), (rM_k13 M4), (rM_n13 M4), (rM_r516 M4), (rM_k14 M4), (rM_n14 M4), (rM_r517 M4), (rM_k15 M4), (rM_n15 M4), (rM_r518 M4), (rM_k16 M4), (rM_n16 M4), (rM_r524 M4), (rM_k17 M4), (rM_n17 M4), (rM_r525 M4), (rM_k18 M4), (rM_n18 M4), (rM_r526 M4), (rM_k19 M4), (rM_n19 M4), (rM_r528 M4), (rM_k20 M4), (rM_n20 M4), (rM_r529 M4), (rM_k21 M4), (rM_n21 M4), (rM_r531 M4), (rM_k22 M4), (rM_n22 M4), (rM_r532 M4), (rM_k23 M4), (rM_n23 M4), (rM_r533 M4), (rM_k24 M4), (rM_n24 M4), (rM_k M5), (rM_r501 M5), (rM_k1 M5), (rM_n1 M5), (rM_r502 M5), (rM_k2 M5), (rM_n2 M5), (rM_r503 M5), (rM_k3 M5), (rM_n3 M5), (rM_r504 M5), (rM_k4 M5), (rM_n4 M5), (rM_r505 M5), (rM_k5 M5), (rM_n5 M5), (rM_r506 M5), (rM_k6 M5), (rM_n6 M5), (rM_r507 M5), (rM_k7 M5), (rM_n7 M5), (rM_r508 M5), (rM_k8 M5), (rM_n8 M5), (rM_r509 M5), (rM_k9 M5), (rM_n9 M5), (rM_r510 M5), (rM_k10 M5), (rM_n10 M5), (rM_r511 M5), (rM_k11 M5), (rM_n11 M5), (rM_r512 M5), (rM_k12 M5), (rM_n12 M5), (rM_r515 M5), (rM_k13 M5), (rM_n13 M5), (rM_r516 M5), (rM_k14 M5), (rM_n14 M5), (rM_r517 M5), (rM_k15 M5), (rM_n15 M5), (rM_r518 M5), (rM_k16 M5), (rM_n16 M5), (rM_r524 M5), (rM_k17 M5), (rM_n17 M5), (rM_r525 M5), (rM_k18 M5), (rM_n18 M5), (rM_r526 M5), (rM_k19 M5), (rM_n19 M5), (rM_r528 M5), (rM_k20 M5), (rM_n20 M5), (rM_r529 M5), (rM_k21 M5), (rM_n21 M5), (rM_r531 M5), (rM_k22 M5), (rM_n22 M5), (rM_r532 M5), (rM_k23 M5), (rM_n23 M5), (rM_r533 M5), (rM_k24 M5), (rM_n24 M5), q_clamp, q_in, nI_leI, nI_ltI, nI_eq, ql_0, qL_0, qt_0, qT_0, qe_0, qc_0, qi_0, ql_1, qL_1, qt_1, qT_1, qe_1, qc_1, qi_1, ql_2, qL_2, qt_2, qT_2, qe_2, qc_2, qi_2, ql_3, qL_3, qt_3, qT_3, qe_3, qc_3, qi_3, ql_4, qL_4, qt_4, qT_4, qe_4, qc_4, qi_4, ql_6, qL_6, qt_6, qT_6, qe_6, qc_6, qi_6, ql_8, qL_8, qt_8, qT_8, qe_8, qc_8, qi_8, ql_10, qL_10, qt_10, qT_10, qe_10, qc_10, qi_10, ql_24, qL_24, qt_24, qT_24, qe_24, qc_24, qi_24, ql_60, qL_60, qt_60, qT_60, qe_60, qc_60, qi_60, ql_100, qL_100, qt_100, qT_100, qe_100, qc_100, qi_100, ql_200, qL_200, qt_200, qT_200, qe_200, qc_200, qi_200, ql_400, qL_400, qt_400, qT_400, qe_400, qc_400, qi_400, ql_600, qL_600, qt_600, qT_600, qe_600, qc_600, qi_600, ql_900, qL_900, qt_900, qT_900, qe_900, qc_900, qi_900, ql_1200, qL_1200, qt_1200, qT_1200, qe_1200, qc_1200, qi_1200, ql_65536, qL_65536, qt_65536, qT_65536, qe_65536, qc_65536, qi_65536, k5, hd5, g5, an5h, t5, an5t, true_and, and_true, eq_self, forall_eq, forall_eq_apply_imp_iff]
      exact ⟨fun c => absurd q c, fun _ => last _ eAn.symm⟩
    · rw [if_neg q] at eAn
      simp (disch := omega) only [(rM_k M), (rM_r501 M), (rM_k1 M), (rM_n1 M), (rM_r502 M), (rM_k2 M), (rM_n2 M), (rM_r503 M), (rM_k3 M), (rM_n3 M), (rM_r504 M), (rM_k4 M), (rM_n4 M), (rM_r505 M), (rM_k5 M), (rM_n5 M), (rM_r506 M), (rM_k6 M), (rM_n6 M), (rM_r507 M), (rM_k7 M), (rM_n7 M), (rM_r508 M), (rM_k8 M), (rM_n8 M), (rM_r509 M), (rM_k9 M), (rM_n9 M), (rM_r510 M), (rM_k10 M), (rM_n10 M), (rM_r511 M), (rM_k11 M), (rM_n11 M), (rM_r512 M), (rM_k12 M), (rM_n12 M), (rM_r515 M), (rM_k13 M), (rM_n13 M), (rM_r516 M), (rM_k14 M), (rM_n14 M), (rM_r517 M), (rM_k15 M), (rM_n15 M), (rM_r518 M), (rM_k16 M), (rM_n16 M), (rM_r524 M), (rM_k17 M), (rM_n17 M), (rM_r525 M), (rM_k18 M), (rM_n18 M), (rM_r526 M), (rM_k19 M), (rM_n19 M), (rM_r528 M), (rM_k20 M), (rM_n20 M), (rM_r529 M), (rM_k21 M), (rM_n21 M), (rM_r531 M), (rM_k22 M), (rM_n22 M), (rM_r532 M), (rM_k23 M), (rM_n23 M), (rM_r533 M), (rM_k24 M), (rM_n24 M), (rM_k M4), (rM_r501 M4), (rM_k1 M4), (rM_n1 M4), (rM_r502 M4), (rM_k2 M4), (rM_n2 M4), (rM_r503 M4), (rM_k3 M4), (rM_n3 M4), (rM_r504 M4), (rM_k4 M4), (rM_n4 M4), (rM_r505 M4), (rM_k5 M4), (rM_n5 M4), (rM_r506 M4), (rM_k6 M4), (rM_n6 M4), (rM_r507 M4), (rM_k7 M4), (rM_n7 M4), (rM_r508 M4), (rM_k8 M4), (rM_n8 M4), (rM_r509 M4), (rM_k9 M4), (rM_n9 M4), (rM_r510 M4), (rM_k10 M4), (rM_n10 M4), (rM_r511 M4), (rM_k11 M4), (rM_n11 M4), (rM_r512 M4), (rM_k12 M4), (rM_n12 M4), (rM_r515 M4), (rM_k13 M4), (rM_n13 M4), (rM_r516 M4), (rM_k14 M4), (rM_n14 M4), (rM_r517 M4), (rM_k15 M4), (rM_n15 M4), (rM_r518 M4), (rM_k16 M4), (rM_n16 M4), (rM_r524 M4), (rM_k17 M4), (rM_n17 M4), (rM_r525 M4), (rM_k18 M4), (rM_n18 M4), (rM_r526 M4), (rM_k19 M4), (rM_n19 M4), (rM_r528 M4), (rM_k20 M4), (rM_n20 M4), (rM_r529 M4), (rM_k21 M4), (rM_n21 M4), (rM_r531 M4), (rM_k22 M4), (rM_n22 M4), (rM_r532 M4), (rM_k23 M4), (rM_n23 M4), (rM_r533 M4), (rM_k24 M4), (rM_n24 M4), (rM_k M5), (rM_r501 M5), (rM_k1 M5), (rM_n1 M5), (rM_r502 M5), (rM_k2 M5), (rM_n2 M5), (rM_r503 M5), (rM_k3 M5), (rM_n3 M5), (rM_r504 M5), (rM_k4 M5), (rM_n4 M5), (rM_r505 M5), (rM_k5 M5), (rM_n5 M5), (rM_r506 M5), (rM_k6 M5), (rM_n6 M5), (rM_r507 M5), (rM_k7 M5), (rM_n7 M5), (rM_r508 M5), (rM_k8 M5), (rM_n8 M5), (rM_r509 M5), (rM_k9 M5), (rM_n9 M5), (rM_r510 M5), (rM_k10 M5), (rM_n10 M5), (rM_r511 M5), (rM_k11 M5), (rM_n11 M5), (rM_r512 M5), (rM_k12 M5), (rM_n12 M5), (rM_r515 M5), (rM_k13 M5), (rM_n13 M5), (rM_r516 M5), (rM_k14 M5), (rM_n14 M5), (rM_r517 M5), (rM_k15 M5), (rM_n15 M5), (rM_r518 M5), (rM_k16 M5), (rM_n16 M5), (rM_r524 M5), (rM_k17 M5), (rM_n17 M5), (rM_r525 M5), (rM_k18 M5), (rM_n18 M5), (rM_r526 M5), (rM_k19 M5), (rM_n19 M5), (rM_r528 M5), (rM_k20 M5), (rM_n20 M5), (rM_r529 M5), (rM_k21 M5), (rM_n21 M5), (rM_r531 M5), (rM_k22 M5), (rM_n22 M5), (rM_r532 M5), (rM_k23 M5), (rM_n23 M5), (rM_r533 M5), (rM_k24 M5), (rM_n24 M5), q_clamp, q_in, nI_leI, nI_ltI, nI_eq, ql_0, qL_0, qt_0, qT_0, qe_0, qc_0, qi_0, ql_1, qL_1, qt_1, qT_1, qe_1, qc_1, qi_1, ql_2, qL_2, qt_2, qT_2, qe_2, qc_2, qi_2, ql_3, qL_3, qt_3, qT_3, qe_3, qc_3, qi_3, ql_4, qL_4, qt_4, qT_4, qe_4, qc_4, qi_4, ql_6, qL_6, qt_6, qT_6, qe_6, qc_6, qi_6, ql_8, qL_8, qt_8, qT_8, qe_8, qc_8, qi_8, ql_10, qL_10, qt_10, qT_10, qe_10, qc_10, qi_10, ql_24, qL_24, qt_24, qT_24, qe_24, qc_24, qi_24, ql_60, qL_60, qt_60, qT_60, qe_60, qc_60, qi_60, ql_100, qL_100, qt_100, qT_100, qe_100, qc_100, qi_100, ql_200, qL_200, qt_200, qT_200, qe_200, qc_200, qi_200, ql_400, qL_400, qt_400, qT_400, qe_400, qc_400, qi_400, ql_600, qL_600, qt_600, qT_600, qe_600, qc_600, qi_600, ql_900, qL_900, qt_900, qT_900, qe_900, qc_900, qi_900, ql_1200, qL_1200, qt_1200, qT_1200, qe_1200, qc_1200, qi_1200, ql_65536, qL_65536, qt_65536, qT_65536, qe_65536, qc_65536, qi_65536, k5, hd5, g5, an5h, true_and, and_true, eq_self, forall_eq, forall_eq_apply_imp_iff]
      exact ⟨fun _ => last _ eAn.symm, fun c => absurd c q⟩
  rw [g4, rM_r516 M4]
  by_cases q : s.mg = 1
  · have t4 : jI h4 521 m 0 = nI s.their := by rw [e4, e3, e2, jI_wI, if_neg (by omega), jI_wL, jI_wI, if_neg (by omega)]; exact (R.g.2.2.1.2.1 (by show 0 < s.mg; omega)).1
    rw [t4, q]
    exact ⟨fun c => absurd rfl c, fun _ => sec _ (by rw [if_pos q])⟩
  · refine ⟨fun _ => sec _ (by rw [if_neg q]), fun c => absurd ((nI_eq (b := 1) (by omega) (by decide)).mp c) q⟩
theorem r_commit (R : Rr h m s) (hw : s.wf) (H : ∀ h', Rr h' m (a_commit s).2 → rfr h h' m → Q (.int (a_commit s).1) h') : jj_C mX10_commit 0 0 [.ref m] h Q := by
  refine EX10_commit _ fun d => r_start R fun h1 R1 F1 => ?_
  have bad : ∀ v', a_commit s = (v', s) → Q (.int v') h1 := fun v' e => by
    have := H h1 (by rw [e]; exact R1) F1
    rw [e] at this
    exact this
  have hm := hw.1.2
  have hl : s.cf.length ≤ 900 := hw.2.2.2.2.2.2.2.1.2.2.2.1
  have ho : opn s ≤ s.cf.length := List.countP_le_length
  have hmg : jI h1 520 m 0 = nI s.mg := R1.g.2.2.1.1
  have hm2 : s.mg ≤ 2 := hw.2.2.2.2.2.2.2.1.1
  have hmd : jI h1 513 m 0 = nI s.made := R1.g.1.1
  refine s_openConflicts R1 hw ?_
  simp (disch := omega) only [jj_vi, q_clamp, q_in, nI_leI, nI_ltI, nI_eq, ql_0, qL_0, qt_0, qT_0, qe_0, qc_0, qi_0, ql_1, qL_1, qt_1, qT_1, qe_1, qc_1, qi_1, ql_2, qL_2, qt_2, qT_2, qe_2, qc_2, qi_2, ql_3, qL_3, qt_3, qT_3, qe_3, qc_3, qi_3, ql_4, qL_4, qt_4, qT_4, qe_4, qc_4, qi_4, ql_6, qL_6, qt_6, qT_6, qe_6, qc_6, qi_6, ql_8, qL_8, qt_8, qT_8, qe_8, qc_8, qi_8, ql_10, qL_10, qt_10, qT_10, qe_10, qc_10, qi_10, ql_24, qL_24, qt_24, qT_24, qe_24, qc_24, qi_24, ql_60, qL_60, qt_60, qT_60, qe_60, qc_60, qi_60, ql_100, qL_100, qt_100, qT_100, qe_100, qc_100, qi_100, ql_200, qL_200, qt_200, qT_200, qe_200, qc_200, qi_200, ql_400, qL_400, qt_400, qT_400, qe_400, qc_400, qi_400, ql_600, qL_600, qt_600, qT_600, qe_600, qc_600, qi_600, ql_900, qL_900, qt_900, qT_900, qe_900, qc_900, qi_900, ql_1200, qL_1200, qt_1200, qT_1200, qe_1200, qc_1200, qi_1200, ql_65536, qL_65536, qt_65536, qT_65536, qe_65536, qc_65536, qi_65536, hmg]
  have fin : ¬ 0 < opn s → ¬ (s.mg = 0 ∧ s.cln = true) → jj_WP d mX10_commit 0 0 31 [(0, .ref m)] [] h1 Q := by
    intro c1 c2
    by_cases h60 : s.made = 60
    · refine VX10_commit_31 _ ⟨R1.K, fun q => absurd (by rw [hmd, h60]; rfl) q, fun _ => bad _ ?_⟩
      unfold a_commit
      rw [if_neg c1, if_neg c2, if_pos h60]
    · have e : a_commit s = (nI s.made, (s.more.sh s.hand (nI s.made)).over) := by unfold a_commit; rw [if_neg c1, if_neg c2, if_neg h60]
      rw [e] at H
      exact s_more R1 hw h60 fun h' a b => H h' a (F1.trans b)
  refine ⟨fun c => ⟨R1.K, fun c2 => fin (by omega) (fun q => c2 q.1), fun c2 => s_isClean R1 hw (fun q => ?_) (fun q => ?_)⟩, fun c => bad _ (by unfold a_commit; rw [if_pos (by omega)])⟩
  · exact ⟨fun c => absurd c (by decide), fun _ => bad _ (by unfold a_commit; rw [if_neg (by omega), if_pos ⟨c2, q⟩])⟩
  · exact ⟨fun _ => fin (by omega) (fun z => by rw [q] at z; exact absurd z.2 (by decide)), fun c => absurd rfl c⟩
end JP6
