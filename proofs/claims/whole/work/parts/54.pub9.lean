/-! the reference: the other store -/
section JP9
variable {m : Nat} {s : St} {h : jj_H} {Q : Value → jj_H → Prop}
theorem s_dis {x : Int64} (R : Rr h m s) (hw : s.wf) (hx : ∀ c, c < 60 → bt x c = true → c < s.made) (H : ∀ h', Rr h' m s → rfr h h' m → Q (.int (nI (s.D x))) h') : jj_C mX10_distinct 0 0 [.ref m, .long x, .int 0] h Q := by
  refine s_distinct (tb := s.T) (w := false) R.1 (fun p t hp ht hb => ?_) (R.2.1 60 (Or.inr rfl)) fun h2 F2 => H h2 (R.df hw F2) F2.fr
  have := hx p hp hb
  exact ⟨R.2.1 p (Or.inl this) t ht, R.2.2.1 p t this ht⟩
theorem r_there {x : Int32} (R : Rr h m s) (hw : s.wf) (H : ∀ h', Rr h' m s → rfr h h' m → Q (.int (a_there s x)) h') : jj_C mX10_there 0 0 [.ref m, .int x] h Q := by
  refine EX10_there _ _ fun d => r_start R fun h1 R1 F1 => ?_
  have HH := H h1 R1 F1
  refine s_isNumber (fun b hb => ?_) (fun hb => ?_)
  · obtain ⟨e, hb6⟩ := lim_some (by decide) hb
    have M := R1.1
    have hv : jI h1 1000 (m + 22) b = s.th b := R1.g.2.2.2.2.2 b hb6
    simp only [a_there, hb] at HH
    rw [e]
    refine ⟨fun c => absurd c (by decide), fun _ => ?_⟩
    simp (disch := omega) only [(rM_k M), (rM_r501 M), (rM_k1 M), (rM_n1 M), (rM_r502 M), (rM_k2 M), (rM_n2 M), (rM_r503 M), (rM_k3 M), (rM_n3 M), (rM_r504 M), (rM_k4 M), (rM_n4 M), (rM_r505 M), (rM_k5 M), (rM_n5 M), (rM_r506 M), (rM_k6 M), (rM_n6 M), (rM_r507 M), (rM_k7 M), (rM_n7 M), (rM_r508 M), (rM_k8 M), (rM_n8 M), (rM_r509 M), (rM_k9 M), (rM_n9 M), (rM_r510 M), (rM_k10 M), (rM_n10 M), (rM_r511 M), (rM_k11 M), (rM_n11 M), (rM_r512 M), (rM_k12 M), (rM_n12 M), (rM_r515 M), (rM_k13 M), (rM_n13 M), (rM_r516 M), (rM_k14 M), (rM_n14 M), (rM_r517 M), (rM_k15 M), (rM_n15 M), (rM_r518 M), (rM_k16 M), (rM_n16 M), (rM_r524 M), (rM_k17 M), (rM_n17 M), (rM_r525 M), (rM_k18 M), (rM_n18 M), (rM_r526 M), (rM_k19 M), (rM_n19 M), (rM_r528 M), (rM_k20 M), (rM_n20 M), (rM_r529 M), (rM_k21 M), (rM_n21 M), (rM_r531 M), (rM_k22 M), (rM_n22 M), (rM_r532 M), (rM_k23 M), (rM_n23 M), (rM_r533 M), (rM_k24 M), (rM_n24 M), q_clamp, q_in, nI_leI, nI_ltI, nI_eq, ql_0, qL_0, qt_0, qT_0, qe_0, qc_0, qi_0, ql_1, qL_1, qt_1, qT_1, qe_1, qc_1, qi_1, ql_2, qL_2, qt_2, qT_2, qe_2, qc_2, qi_2, ql_3, qL_3, qt_3, qT_3, qe_3, qc_3, qi_3, ql_4, qL_4, qt_4, qT_4, qe_4, qc_4, qi_4, ql_6, qL_6, qt_6, qT_6, qe_6, qc_6, qi_6, ql_8, qL_8, qt_8, qT_8, qe_8, qc_8, qi_8, ql_10, qL_10, qt_10, qT_10, qe_10, qc_10, qi_10, ql_24, qL_24, qt_24, qT_24, qe_24, qc_24, qi_24, ql_60, qL_60, qt_60, qT_60, qe_60, qc_60, qi_60, ql_100, qL_100, qt_100, qT_100, qe_100, qc_100, qi_100, ql_200, qL_200, qt_200, qT_200, qe_200, qc_200, qi_200, ql_400, qL_400, qt_400, qT_400, qe_400, qc_400, qi_400, ql_600, qL_600, qt_600, qT_600, qe_600, qc_600, qi_600, ql_900, qL_900, qt_900, qT_900, qe_900, qc_900, qi_900, ql_1200, qL_1200, qt_1200, qT_1200, qe_1200, qc_1200, qi_1200, ql_65536, qL_65536, qt_65536, qT_65536, qe_65536, qc_65536, qi_65536, hv, true_and, and_true, eq_self, forall_eq, forall_eq_apply_imp_iff]
    refine ⟨fun c => ?_, fun c => ?_⟩
    · rw [if_pos c] at HH; exact HH
    · rw [if_neg c] at HH; exact HH
  · simp only [a_there, hb] at HH
    exact ⟨fun _ => HH, fun c => absurd rfl c⟩
theorem r_kept {x : Int32} (R : Rr h m s) (hw : s.wf) (H : ∀ h', Rr h' m s → rfr h h' m → Q (.int (a_kept s x)) h') : jj_C mX10_kept 0 0 [.ref m, .int x] h Q := by
  refine EX10_kept _ _ fun d => r_start R fun h1 R1 F1 => ?_
  have hv : jL h1 530 m 0 = s.thr := R1.g.2.2.2.2.1
  rw [hv]
  refine ⟨fun c => ⟨fun c2 => ?_, fun c2 => s_bits ?_⟩, fun c => s_dis R1 hw (fun c hc hb => hw.2.2.2.2.2.2.2.2.2.1 c (by omega) hb) fun h2 R2 F2 => ?_⟩
  · have HH := H h1 R1 F1
    unfold a_kept at HH
    rw [if_neg c, if_neg c2] at HH; exact HH
  · have HH := H h1 R1 F1
    unfold a_kept at HH
    rw [if_neg c, if_pos c2] at HH; exact HH
  · have HH := H h2 R2 (F1.trans F2)
    unfold a_kept at HH
    rw [if_pos c] at HH; exact HH
theorem Rr.oth {h : jj_H} {m b : Nat} {v : Int64} {u : Int32} {s : St} (R : Rr h m s) : Rr (wI (wL h 530 m 0 v) 1000 (m + 22) b u) m (s.set6 (v, fun y => if y = b then u else s.th y)) := by
  refine Rr.mk ((R.t.wL (s := s) (by omega)).wI (by omega)) ⟨(R.g.1.wL (by omega)).wI (by omega), R.g.2.1.wL.wI (by omega), R.g.2.2.1.wL.wI (by omega), R.g.2.2.2.1.wL.wI (by omega), ⟨?_, fun x hx => ?_⟩⟩
  · rw [jL_wI, jL_wL, if_pos ⟨rfl, rfl, rfl⟩]; rfl
  · rw [jI_wI]
    show _ = if x = b then u else s.th x
    by_cases e : x = b
    · simp [e]
    · simp [e]; exact R.g.2.2.2.2.2 x hx
theorem thr_or {s : St} (hw : s.wf) {c : Nat} (hc : c < s.made) : ∀ k, k < 64 → bt (s.thr ||| s.an c) k = true → k < s.made := by
  intro k hk hb
  rw [bt_or, Bool.or_eq_true] at hb
  rcases hb with hb | hb
  · exact hw.2.2.2.2.2.2.2.2.2.1 k hk hb
  · have := (wf_an hw hc).2.2.1 k hk hb
    omega
theorem set6_wf {s : St} (hw : s.wf) {v : Int64} {f : Nat → Int32} (h1 : ∀ k, k < 64 → bt v k = true → k < s.made) (h2 : ∀ b, b < 6 → aCom (f b) s.made) : (s.set6 (v, f)).wf := ⟨hw.1, hw.2.1, hw.2.2.1, hw.2.2.2.1, hw.2.2.2.2.1, hw.2.2.2.2.2.1, hw.2.2.2.2.2.2.1, hw.2.2.2.2.2.2.2.1, hw.2.2.2.2.2.2.2.2.1, h1, h2⟩
theorem r_send {x : Int32} (R : Rr h m s) (hw : s.wf) (H : ∀ h', Rr h' m (a_send s x).2 → rfr h h' m → Q (.int (a_send s x).1) h') : jj_C mX10_send 0 0 [.ref m, .int x] h Q := by
  refine EX10_send _ _ fun d => r_start R fun h1 R1 F1 => ?_
  have bad : ∀ v', a_send s x = (v', s) → Q (.int v') h1 := fun v' e => by
    have := H h1 (by rw [e]; exact R1) F1
    rw [e] at this
    exact this
  refine s_isBranch R1 (fun b hb => ?_) (fun hb => ?_)
  · obtain ⟨e, hb6, hne, hd1, hd2, _⟩ := bAt_some hw hb
    have hm := hw.1.2
    have M := R1.1
    have hv : jI h1 1000 (m + 16) b = nI (s.hN b) := (R1.g.2.1.1 b hb6).trans hd1
    have ht : jI h1 1000 (m + 22) b = s.th b := R1.g.2.2.2.2.2 b hb6
    refine ⟨fun _ => ?_, fun c => absurd c (by decide)⟩
    have fin : ¬ (s.th b ≠ -1 ∧ bt (s.an (s.hN b)) (s.tN b) = false) → jj_WP d mX10_send 0 0 50 [(0, .ref m), (1, .int (nI b)), (2, .int (nI (s.hN b)))] [] h1 Q := by
      intro hc
      have e2 : a_send s x = (nI (s.D (s.thr ||| s.an (s.hN b))) - nI (s.D s.thr), s.set6 (s.thr ||| s.an (s.hN b), fun y => if y = b then s.hd b else s.th y)) := by simp only [a_send, hb, if_neg hc]
      rw [e2] at H
      have h530 : jL h1 530 m 0 = s.thr := R1.g.2.2.2.2.1
      refine VX10_send_50 _ _ _ ⟨R1.K, ?_⟩
      rw [h530]
      refine s_dis R1 hw (fun c hc hb => hw.2.2.2.2.2.2.2.2.2.1 c (by omega) hb) fun h2 R2 F2 => ?_
      have M2 := R2.1
      have a2 : jL h2 1000 (m + 15) (s.hN b) = s.an (s.hN b) := (R2.g.1.2.2 _ hd2).2.2
      have k2 : jL h2 530 m 0 = s.thr := R2.g.2.2.2.2.1
      simp (disch := omega) only [jj_vi, (rM_k M2), (rM_r501 M2), (rM_k1 M2), (rM_n1 M2), (rM_r502 M2), (rM_k2 M2), (rM_n2 M2), (rM_r503 M2), (rM_k3 M2), (rM_n3 M2), (rM_r504 M2), (rM_k4 M2), (rM_n4 M2), (rM_r505 M2), (rM_k5 M2), (rM_n5 M2), (rM_r506 M2), (rM_k6 M2), (rM_n6 M2), (rM_r507 M2), (rM_k7 M2), (rM_n7 M2), (rM_r508 M2), (rM_k8 M2), (rM_n8 M2), (rM_r509 M2), (rM_k9 M2), (rM_n9 M2), (rM_r510 M2), (rM_k10 M2), (rM_n10 M2), (rM_r511 M2), (rM_k11 M2), (rM_n11 M2), (rM_r512 M2), (rM_k12 M2), (rM_n12 M2), (rM_r515 M2), (rM_k13 M2), (rM_n13 M2), (rM_r516 M2), (rM_k14 M2), (rM_n14 M2), (rM_r517 M2), (rM_k15 M2), (rM_n15 M2), (rM_r518 M2), (rM_k16 M2), (rM_n16 M2), (rM_r524 M2), (rM_k17 M2), (rM_n17 M2), (rM_r525 M2), (rM_k18 M2), (rM_n18 M2), (rM_r526 M2), (rM_k19 M2), (rM_n19 M2), (rM_r528 M2), (rM_k20 M2), (rM_n20 M2), (rM_r529 M2), (rM_k21 M2), (rM_n21 M2), (rM_r531 M2), (rM_k22 M2), (rM_n22 M2), (rM_r532 M2), (rM_k23 M2), (rM_n23 M2), (rM_r533 M2), (rM_k24 M2), (rM_n24 M2), q_clamp, q_in, nI_leI, nI_ltI, nI_eq, ql_0, qL_0, qt_0, qT_0, qe_0, qc_0, qi_0, ql_1, qL_1, qt_1, qT_1, qe_1, qc_1, qi_1, ql_2, qL_2, qt_2, qT_2, qe_2, qc_2, qi_2, ql_3, qL_3, qt_3, qT_3, qe_3, qc_3, qi_3, ql_4, qL_4, qt_4, qT_4, qe_4, qc_4, qi_4, ql_6, qL_6, qt_6, qT_6, qe_6, qc_6, qi_6, ql_8, qL_8, qt_8, qT_8, qe_8, qc_8, qi_8, ql_10, qL_10, qt_10, qT_10, qe_10, qc_10, qi_10, ql_24, qL_24, qt_24, qT_24, qe_24, qc_24, qi_24, ql_60, qL_60, qt_60, qT_60, qe_60, qc_60, qi_60, ql_100, qL_100, qt_100, qT_100, qe_100, qc_100, qi_100, ql_200, qL_200, qt_200, qT_200, qe_200, qc_200, qi_200, ql_400, qL_400, qt_400, qT_400, qe_400, qc_400, qi_400, ql_600, qL_600, qt_600, qT_600, qe_600, qc_600, qi_600, ql_900, qL_900, qt_900, qT_900, qe_900, qc_900, qi_900, ql_1200, qL_1200, qt_1200, qT_1200, qe_1200, qc_1200, qi_1200, ql_65536, qL_65536, qt_65536, qT_65536, qe_65536, qc_65536, qi_65536, a2, k2, true_and, and_true, eq_self, forall_eq, forall_eq_apply_imp_iff, jR_wL]
      have R3 := R2.oth (b := b) (v := s.thr ||| s.an (s.hN b)) (u := nI (s.hN b))
      have hw3 : (s.set6 (s.thr ||| s.an (s.hN b), fun y => if y = b then nI (s.hN b) else s.th y)).wf := set6_wf hw (thr_or hw hd2) (fun y hy => by
        show aCom (if y = b then nI (s.hN b) else s.th y) s.made
        split
        · exact Or.inr ⟨_, rfl, hd2⟩
        · exact hw.2.2.2.2.2.2.2.2.2.2 y hy)
      have k3 : jL (wI (wL h2 530 m 0 (s.thr ||| s.an (s.hN b))) 1000 (m + 22) b (nI (s.hN b))) 530 m 0 = s.thr ||| s.an (s.hN b) := R3.g.2.2.2.2.1
      rw [k3]
      refine s_dis R3 hw3 (fun c hc hb => thr_or hw hd2 c (by omega) hb) fun h4 R4 F4 => ?_
      have HH := H h4 (by rw [hd1]; exact R4) (F1.trans (F2.trans (((rfr.wL (by omega) (by omega)).trans (rfr.wI (by omega) (by omega))).trans F4)))
      exact HH
    rw [e]
    by_cases q : s.th b = -1
    · simp (disch := omega) only [(rM_k M), (rM_r501 M), (rM_k1 M), (rM_n1 M), (rM_r502 M), (rM_k2 M), (rM_n2 M), (rM_r503 M), (rM_k3 M), (rM_n3 M), (rM_r504 M), (rM_k4 M), (rM_n4 M), (rM_r505 M), (rM_k5 M), (rM_n5 M), (rM_r506 M), (rM_k6 M), (rM_n6 M), (rM_r507 M), (rM_k7 M), (rM_n7 M), (rM_r508 M), (rM_k8 M), (rM_n8 M), (rM_r509 M), (rM_k9 M), (rM_n9 M), (rM_r510 M), (rM_k10 M), (rM_n10 M), (rM_r511 M), (rM_k11 M), (rM_n11 M), (rM_r512 M), (rM_k12 M), (rM_n12 M), (rM_r515 M), (rM_k13 M), (rM_n13 M), (rM_r516 M), (rM_k14 M), (rM_n14 M), (rM_r517 M), (rM_k15 M), (rM_n15 M), (rM_r518 M), (rM_k16 M), (rM_n16 M), (rM_r524 M), (rM_k17 M), (rM_n17 M), (rM_r525 M), (rM_k18 M), (rM_n18 M), (rM_r526 M), (rM_k19 M), (rM_n19 M), (rM_r528 M), (rM_k20 M), (rM_n20 M), (rM_r529 M), (rM_k21 M), (rM_n21 M), (rM_r531 M), (rM_k22 M), (rM_n22 M), (rM_r532 M), (rM_k23 M), (rM_n23 M), (rM_r533 M), (rM_k24 M), (rM_n24 M), q_clamp, q_in, nI_leI, nI_ltI, nI_eq, ql_0, qL_0, qt_0, qT_0, qe_0, qc_0, qi_0, ql_1, qL_1, qt_1, qT_1, qe_1, qc_1, qi_1, ql_2, qL_2, qt_2, qT_2, qe_2, qc_2, qi_2, ql_3, qL_3, qt_3, qT_3, qe_3, qc_3, qi_3, ql_4, qL_4, qt_4, qT_4, qe_4, qc_4, qi_4, ql_6, qL_6, qt_6, qT_6, qe_6, qc_6, qi_6, ql_8, qL_8, qt_8, qT_8, qe_8, qc_8, qi_8, ql_10, qL_10, qt_10, qT_10, qe_10, qc_10, qi_10, ql_24, qL_24, qt_24, qT_24, qe_24, qc_24, qi_24, ql_60, qL_60, qt_60, qT_60, qe_60, qc_60, qi_60, ql_100, qL_100, qt_100, qT_100, qe_100, qc_100, qi_100, ql_200, qL_200, qt_200, qT_200, qe_200, qc_200, qi_200, ql_400, qL_400, qt_400, qT_400, qe_400, qc_400, qi_400, ql_600, qL_600, qt_600, qT_600, qe_600, qc_600, qi_600, ql_900, qL_900, qt_900, qT_900, qe_900, qc_900, qi_900, ql_1200, qL_1200, qt_1200, qT_1200, qe_1200, qc_1200, qi_1200, ql_65536, qL_65536, qt_65536, qT_65536, qe_65536, qc_65536, qi_65536, hv, ht, true_and, and_true, eq_self, forall_eq, forall_eq_apply_imp_iff]
      exact ⟨fun _ => fin (fun z => z.1 q), fun c => absurd q c⟩
    · obtain ⟨t1, t2⟩ := tN_ok hw hb6 q
      have ht' := ht.trans t1
      simp (disch := omega) only [(rM_k M), (rM_r501 M), (rM_k1 M), (rM_n1 M), (rM_r502 M), (rM_k2 M), (rM_n2 M), (rM_r503 M), (rM_k3 M), (rM_n3 M), (rM_r504 M), (rM_k4 M), (rM_n4 M), (rM_r505 M), (rM_k5 M), (rM_n5 M), (rM_r506 M), (rM_k6 M), (rM_n6 M), (rM_r507 M), (rM_k7 M), (rM_n7 M), (rM_r508 M), (rM_k8 M), (rM_n8 M), (rM_r509 M), (rM_k9 M), (rM_n9 M), (rM_r510 M), (rM_k10 M), (rM_n10 M), (rM_r511 M), (rM_k11 M), (rM_n11 M), (rM_r512 M), (rM_k12 M), (rM_n12 M), (rM_r515 M), (rM_k13 M), (rM_n13 M), (rM_r516 M), (rM_k14 M), (rM_n14 M), (rM_r517 M), (rM_k15 M), (rM_n15 M), (rM_r518 M), (rM_k16 M), (rM_n16 M), (rM_r524 M), (rM_k17 M), (rM_n17 M), (rM_r525 M), (rM_k18 M), (rM_n18 M), (rM_r526 M), (rM_k19 M), (rM_n19 M), (rM_r528 M), (rM_k20 M), (rM_n20 M), (rM_r529 M), (rM_k21 M), (rM_n21 M), (rM_r531 M), (rM_k22 M), (rM_n22 M), (rM_r532 M), (rM_k23 M), (rM_n23 M), (rM_r533 M), (rM_k24 M), (rM_n24 M), q_clamp, q_in, nI_leI, nI_ltI, nI_eq, ql_0, qL_0, qt_0, qT_0, qe_0, qc_0, qi_0, ql_1, qL_1, qt_1, qT_1, qe_1, qc_1, qi_1, ql_2, qL_2, qt_2, qT_2, qe_2, qc_2, qi_2, ql_3, qL_3, qt_3, qT_3, qe_3, qc_3, qi_3, ql_4, qL_4, qt_4, qT_4, qe_4, qc_4, qi_4, ql_6, qL_6, qt_6, qT_6, qe_6, qc_6, qi_6, ql_8, qL_8, qt_8, qT_8, qe_8, qc_8, qi_8, ql_10, qL_10, qt_10, qT_10, qe_10, qc_10, qi_10, ql_24, qL_24, qt_24, qT_24, qe_24, qc_24, qi_24, ql_60, qL_60, qt_60, qT_60, qe_60, qc_60, qi_60, ql_100, qL_100, qt_100, qT_100, qe_100, qc_100, qi_100, ql_200, qL_200, qt_200, qT_200, qe_200, qc_200, qi_200, ql_400, qL_400, qt_400, qT_400, qe_400, qc_400, qi_400, ql_600, qL_600, qt_600, qT_600, qe_600, qc_600, qi_600, ql_900, qL_900, qt_900, qT_900, qe_900, qc_900, qi_900, ql_1200, qL_1200, qt_1200, qT_1200, qe_1200, qc_1200, qi_1200, ql_65536, qL_65536, qt_65536, qT_65536, qe_65536, qc_65536, qi_65536, hv, ht', true_and, and_true, eq_self, forall_eq, forall_eq_apply_imp_iff]
      refine ⟨fun c => absurd c (nI_m1 (by omega)), fun _ => s_isAncestor R1 (by omega) hd2 hm (fun z => ?_) (fun z => ?_)⟩
      · exact ⟨fun _ => fin (fun y => by rw [z] at y; exact Bool.noConfusion y.2), fun c => absurd c (by decide)⟩
      · exact ⟨fun c => absurd rfl c, fun _ => bad _ (by simp only [a_send, hb, if_pos (show s.th b ≠ -1 ∧ bt (s.an (s.hN b)) (s.tN b) = false from ⟨q, z⟩)])⟩
  · exact ⟨fun c => absurd rfl c, fun _ => bad _ (by simp only [a_send, hb])⟩
theorem ftc_wf {s : St} (hw : s.wf) {b : Nat} (hb : b < 6) (ht : s.th b ≠ -1) : (s.ftc b).wf := by
  obtain ⟨t1, t2⟩ := tN_ok hw hb ht
  refine ⟨hw.1, hw.2.1, fun k hk hb => ?_, hw.2.2.2.1, hw.2.2.2.2.1, fun x hx => ?_, ⟨hw.2.2.2.2.2.2.1.1, ?_, fun x hx hne => ?_, fun c i hc hi h1 h2 => ?_, hw.2.2.2.2.2.2.1.2.2.2.2⟩, ⟨hw.2.2.2.2.2.2.2.1.1, fun q => ⟨(hw.2.2.2.2.2.2.2.1.2.1 q).1, (hw.2.2.2.2.2.2.2.1.2.1 q).2.1, ?_⟩, hw.2.2.2.2.2.2.2.1.2.2⟩, hw.2.2.2.2.2.2.2.2⟩
  · have hb' : bt (s.here ||| s.an (s.tN b)) k = true := hb
    rw [bt_or, Bool.or_eq_true] at hb'
    rcases hb' with q | q
    · exact hw.2.2.1 k hk q
    · have := (wf_an hw t2).2.2.1 k hk q
      show k < s.made
      omega
  · show aCom (if x = b then s.th b else s.hd x) s.made
    split
    · rw [t1]; exact Or.inr ⟨_, rfl, t2⟩
    · exact hw.2.2.2.2.2.1 x hx
  · show (if s.hand = b then s.th b else s.hd s.hand) ≠ -1
    split
    · exact ht
    · exact hw.2.2.2.2.2.2.1.2.1
  · have hne' : (if x = b then s.th b else s.hd x) ≠ -1 := hne
    show bt (s.here ||| s.an (s.tN b)) (Int32.toNatClampNeg (if x = b then s.th b else s.hd x)) = true
    by_cases q : x = b
    · rw [if_pos q]
      have : bt (s.an (s.tN b)) (Int32.toNatClampNeg (s.th b)) = true := (wf_an hw t2).1
      rw [bt_or, this, Bool.or_true]
    · rw [if_neg q] at hne' ⊢
      have : bt s.here (Int32.toNatClampNeg (s.hd x)) = true := hw.2.2.2.2.2.2.1.2.2.1 x hx hne'
      rw [bt_or, this, Bool.true_or]
  · have h1' : bt (s.here ||| s.an (s.tN b)) c = true := h1
    have h2' : bt (s.an c) i = true := h2
    show bt (s.here ||| s.an (s.tN b)) i = true
    rw [bt_or, Bool.or_eq_true] at h1' ⊢
    rcases h1' with q | q
    · exact Or.inl (an_here hw hc hi q h2')
    · exact Or.inr ((wf_an hw t2).2.2.2 c i hc hi q h2')
  · show bt (s.here ||| s.an (s.tN b)) s.their = true
    rw [bt_or, (hw.2.2.2.2.2.2.2.1.2.1 q).2.2, Bool.true_or]
theorem r_fetch {x : Int32} (R : Rr h m s) (hw : s.wf) (H : ∀ h', Rr h' m (a_fetch s x).2 → rfr h h' m → Q (.int (a_fetch s x).1) h') : jj_C mX10_fetch 0 0 [.ref m, .int x] h Q := by
  refine EX10_fetch _ _ fun d => r_start R fun h1 R1 F1 => ?_
  have bad : ∀ v', a_fetch s x = (v', s) → Q (.int v') h1 := fun v' e => by
    have := H h1 (by rw [e]; exact R1) F1
    rw [e] at this
    exact this
  refine s_isNumber (fun b hb => ?_) (fun hb => ?_)
  · obtain ⟨e, hb6⟩ := lim_some (by decide) hb
    have hm := hw.1.2
    have M := R1.1
    have hh6 := (hand_ok hw).2.2
    have hh : jI h1 519 m 0 = nI s.hand := R1.g.2.1.2
    have ht : jI h1 1000 (m + 22) b = s.th b := R1.g.2.2.2.2.2 b hb6
    have hv : jI h1 1000 (m + 16) b = s.hd b := R1.g.2.1.1 b hb6
    have hmg : jI h1 520 m 0 = nI s.mg := R1.g.2.2.1.1
    have hm2 : s.mg ≤ 2 := hw.2.2.2.2.2.2.2.1.1
    refine ⟨fun c => absurd c (by decide), fun _ => ?_⟩
    rw [e]
    by_cases q : s.th b = -1
    · simp (disch := omega) only [(rM_k M), (rM_r501 M), (rM_k1 M), (rM_n1 M), (rM_r502 M), (rM_k2 M), (rM_n2 M), (rM_r503 M), (rM_k3 M), (rM_n3 M), (rM_r504 M), (rM_k4 M), (rM_n4 M), (rM_r505 M), (rM_k5 M), (rM_n5 M), (rM_r506 M), (rM_k6 M), (rM_n6 M), (rM_r507 M), (rM_k7 M), (rM_n7 M), (rM_r508 M), (rM_k8 M), (rM_n8 M), (rM_r509 M), (rM_k9 M), (rM_n9 M), (rM_r510 M), (rM_k10 M), (rM_n10 M), (rM_r511 M), (rM_k11 M), (rM_n11 M), (rM_r512 M), (rM_k12 M), (rM_n12 M), (rM_r515 M), (rM_k13 M), (rM_n13 M), (rM_r516 M), (rM_k14 M), (rM_n14 M), (rM_r517 M), (rM_k15 M), (rM_n15 M), (rM_r518 M), (rM_k16 M), (rM_n16 M), (rM_r524 M), (rM_k17 M), (rM_n17 M), (rM_r525 M), (rM_k18 M), (rM_n18 M), (rM_r526 M), (rM_k19 M), (rM_n19 M), (rM_r528 M), (rM_k20 M), (rM_n20 M), (rM_r529 M), (rM_k21 M), (rM_n21 M), (rM_r531 M), (rM_k22 M), (rM_n22 M), (rM_r532 M), (rM_k23 M), (rM_n23 M), (rM_r533 M), (rM_k24 M), (rM_n24 M), q_clamp, q_in, nI_leI, nI_ltI, nI_eq, ql_0, qL_0, qt_0, qT_0, qe_0, qc_0, qi_0, ql_1, qL_1, qt_1, qT_1, qe_1, qc_1, qi_1, ql_2, qL_2, qt_2, qT_2, qe_2, qc_2, qi_2, ql_3, qL_3, qt_3, qT_3, qe_3, qc_3, qi_3, ql_4, qL_4, qt_4, qT_4, qe_4, qc_4, qi_4, ql_6, qL_6, qt_6, qT_6, qe_6, qc_6, qi_6, ql_8, qL_8, qt_8, qT_8, qe_8, qc_8, qi_8, ql_10, qL_10, qt_10, qT_10, qe_10, qc_10, qi_10, ql_24, qL_24, qt_24, qT_24, qe_24, qc_24, qi_24, ql_60, qL_60, qt_60, qT_60, qe_60, qc_60, qi_60, ql_100, qL_100, qt_100, qT_100, qe_100, qc_100, qi_100, ql_200, qL_200, qt_200, qT_200, qe_200, qc_200, qi_200, ql_400, qL_400, qt_400, qT_400, qe_400, qc_400, qi_400, ql_600, qL_600, qt_600, qT_600, qe_600, qc_600, qi_600, ql_900, qL_900, qt_900, qT_900, qe_900, qc_900, qi_900, ql_1200, qL_1200, qt_1200, qT_1200, qe_1200, qc_1200, qi_1200, ql_65536, qL_65536, qt_65536, qT_65536, qe_65536, qc_65536, qi_65536, ht, true_and, and_true, eq_self, forall_eq, forall_eq_apply_imp_iff]
      exact ⟨fun c => absurd q c, fun _ => bad _ (by simp only [a_fetch, hb, if_pos q])⟩
    · obtain ⟨t1, t2⟩ := tN_ok hw hb6 q
      have ht' := ht.trans t1
      have fin : ∀ own : Int32, (own = 0 ∨ own = 1) → (own = 0 ↔ b ≠ s.hand) → ¬ ((s.hd b ≠ -1 ∧ bt (s.an (s.tN b)) (s.hN b) = false) ∨ (b = s.hand ∧ s.cln = false)) → ¬ (b = s.hand ∧ 0 < s.mg) → jj_WP d mX10_fetch 0 0 98 [(0, .ref m), (1, .int (nI b)), (2, .int (nI (s.tN b))), (3, .int own)] [] h1 Q := by
        intro own h01 hown hc1 hc2
        have e2 : a_fetch s x = (s.th b, if b = s.hand then (s.ftc b).wk3 (s.T (s.tN b)) else s.ftc b) := by simp only [a_fetch, hb, if_neg q, if_neg hc1, if_neg hc2]
        rw [e2] at H
        refine VX10_fetch_98 _ _ _ _ ?_
        have R2 := R1.head (b := b) (v := nI (s.tN b))
        have M2 := R2.1
        have a2 : jL (wI h1 1000 (m + 16) b (nI (s.tN b))) 1000 (m + 15) (s.tN b) = s.an (s.tN b) := (R1.g.1.2.2 _ t2).2.2
        have k2 : jL (wI h1 1000 (m + 16) b (nI (s.tN b))) 514 m 0 = s.here := R1.g.1.2.1
        simp (disch := omega) only [(rM_k M), (rM_r501 M), (rM_k1 M), (rM_n1 M), (rM_r502 M), (rM_k2 M), (rM_n2 M), (rM_r503 M), (rM_k3 M), (rM_n3 M), (rM_r504 M), (rM_k4 M), (rM_n4 M), (rM_r505 M), (rM_k5 M), (rM_n5 M), (rM_r506 M), (rM_k6 M), (rM_n6 M), (rM_r507 M), (rM_k7 M), (rM_n7 M), (rM_r508 M), (rM_k8 M), (rM_n8 M), (rM_r509 M), (rM_k9 M), (rM_n9 M), (rM_r510 M), (rM_k10 M), (rM_n10 M), (rM_r511 M), (rM_k11 M), (rM_n11 M), (rM_r512 M), (rM_k12 M), (rM_n12 M), (rM_r515 M), (rM_k13 M), (rM_n13 M), (rM_r516 M), (rM_k14 M), (rM_n14 M), (rM_r517 M), (rM_k15 M), (rM_n15 M), (rM_r518 M), (rM_k16 M), (rM_n16 M), (rM_r524 M), (rM_k17 M), (rM_n17 M), (rM_r525 M), (rM_k18 M), (rM_n18 M), (rM_r526 M), (rM_k19 M), (rM_n19 M), (rM_r528 M), (rM_k20 M), (rM_n20 M), (rM_r529 M), (rM_k21 M), (rM_n21 M), (rM_r531 M), (rM_k22 M), (rM_n22 M), (rM_r532 M), (rM_k23 M), (rM_n23 M), (rM_r533 M), (rM_k24 M), (rM_n24 M), (rM_k M2), (rM_r501 M2), (rM_k1 M2), (rM_n1 M2), (rM_r502 M2), (rM_k2 M2), (rM_n2 M2), (rM_r503 M2), (rM_k3 M2), (rM_n3 M2), (rM_r504 M2), (rM_k4 M2), (rM_n4 M2), (rM_r505 M2), (rM_k5 M2), (rM_n5 M2), (rM_r506 M2), (rM_k6 M2), (rM_n6 M2), (rM_r507 M2), (rM_k7 M2), (rM_n7 M2), (rM_r508 M2), (rM_k8 M2), (rM_n8 M2), (rM_r509 M2), (rM_k9 M2), (rM_n9 M2), (rM_r510 M2), (rM_k10 M2), (rM_n10 M2), (rM_r511 M2), (rM_k11 M2), (rM_n11 M2), (rM_r512 M2), (rM_k12 M2), (rM_n12 M2), (rM_r515 M2), (rM_k13 M2), (rM_n13 M2), (rM_r516 M2), (rM_k14 M2), (rM_n14 M2), (rM_r517 M2), (rM_k15 M2), (rM_n15 M2), (rM_r518 M2), (rM_k16 M2), (rM_n16 M2), (rM_r524 M2), (rM_k17 M2), (rM_n17 M2), (rM_r525 M2), (rM_k18 M2), (rM_n18 M2), (rM_r526 M2), (rM_k19 M2), (rM_n19 M2), (rM_r528 M2), (rM_k20 M2), (rM_n20 M2), (rM_r529 M2), (rM_k21 M2), (rM_n21 M2), (rM_r531 M2), (rM_k22 M2), (rM_n22 M2), (rM_r532 M2), (rM_k23 M2), (rM_n23 M2), (rM_r533 M2), (rM_k24 M2), (rM_n24 M2), q_clamp, q_in, nI_leI, nI_ltI, nI_eq, ql_0, qL_0, qt_0, qT_0, qe_0, qc_0, qi_0, ql_1, qL_1, qt_1, qT_1, qe_1, qc_1, qi_1, ql_2, qL_2, qt_2, qT_2, qe_2, qc_2, qi_2, ql_3, qL_3, qt_3, qT_3, qe_3, qc_3, qi_3, ql_4, qL_4, qt_4, qT_4, qe_4, qc_4, qi_4, ql_6, qL_6, qt_6, qT_6, qe_6, qc_6, qi_6, ql_8, qL_8, qt_8, qT_8, qe_8, qc_8, qi_8, ql_10, qL_10, qt_10, qT_10, qe_10, qc_10, qi_10, ql_24, qL_24, qt_24, qT_24, qe_24, qc_24, qi_24, ql_60, qL_60, qt_60, qT_60, qe_60, qc_60, qi_60, ql_100, qL_100, qt_100, qT_100, qe_100, qc_100, qi_100, ql_200, qL_200, qt_200, qT_200, qe_200, qc_200, qi_200, ql_400, qL_400, qt_400, qT_400, qe_400, qc_400, qi_400, ql_600, qL_600, qt_600, qT_600, qe_600, qc_600, qi_600, ql_900, qL_900, qt_900, qT_900, qe_900, qc_900, qi_900, ql_1200, qL_1200, qt_1200, qT_1200, qe_1200, qc_1200, qi_1200, ql_65536, qL_65536, qt_65536, qT_65536, qe_65536, qc_65536, qi_65536, a2, k2, true_and, and_true, eq_self, forall_eq, forall_eq_apply_imp_iff]
        have R3 := R2.here (v := s.here ||| s.an (s.tN b))
        have R3' : Rr (wL (wI h1 1000 (m + 16) b (nI (s.tN b))) 514 m 0 (s.here ||| s.an (s.tN b))) m (s.ftc b) := by
          unfold St.ftc
          rw [t1]
          exact R3
        have F3 : rfr h1 (wL (wI h1 1000 (m + 16) b (nI (s.tN b))) 514 m 0 (s.here ||| s.an (s.tN b))) m := (rfr.wI (by omega) (by omega)).trans (rfr.wL (by omega) (by omega))
        refine ⟨fun c => ?_, fun c => ?_⟩
        · rw [if_neg (hown.mp c)] at H
          have := H _ R3' (F1.trans F3)
          rw [t1] at this
          exact this
        · have hbh : b = s.hand := Decidable.byContradiction fun z => c (hown.mpr z)
          rw [if_pos hbh] at H
          refine s_copy (s' := 60) R3'.1 (by omega) (by omega) (by omega) (R3'.2.1 (s.tN b) (Or.inl t2)) fun h4 T4 F4 => ?_
          have := H h4 (R3'.fs (ftc_wf hw hb6 q) F4 T4) (F1.trans (F3.trans F4.fr))
          rw [t1] at this
          exact this
      have mid : ∀ own : Int32, (own = 0 ∨ own = 1) → (own = 0 ↔ b ≠ s.hand) → jj_WP d mX10_fetch 0 0 45 [(0, .ref m), (1, .int (nI b)), (2, .int (nI (s.tN b)))] [.int own] h1 Q := by
        intro own h01 hown
        have low : ¬ (s.hd b ≠ -1 ∧ bt (s.an (s.tN b)) (s.hN b) = false) → (own = 0 → jj_WP d mX10_fetch 0 0 98 [(0, .ref m), (1, .int (nI b)), (2, .int (nI (s.tN b))), (3, .int own)] [] h1 Q) ∧ (¬ own = 0 → (s.cln = true → ((s.mg ≤ 0 → jj_WP d mX10_fetch 0 0 98 [(0, .ref m), (1, .int (nI b)), (2, .int (nI (s.tN b))), (3, .int own)] [] h1 Q) ∧ (¬ s.mg ≤ 0 → Q (.int (-3)) h1))) ∧ (s.cln = false → Q (.int (-4)) h1)) := by
          intro hc
          refine ⟨fun c => fin own h01 hown (fun z => z.elim hc (fun y => (hown.mp c) y.1)) (fun y => (hown.mp c) y.1), fun c => ?_⟩
          have hbh : b = s.hand := Decidable.byContradiction fun z => c (hown.mpr z)
          refine ⟨fun z => ⟨fun w => fin own h01 hown (fun y => y.elim hc (fun u => by rw [z] at u; exact Bool.noConfusion u.2)) (fun u => by omega), fun w => ?_⟩, fun z => ?_⟩
          · exact bad _ (by simp only [a_fetch, hb, if_neg q]; rw [if_neg (fun y => y.elim hc (fun u => by rw [z] at u; exact Bool.noConfusion u.2)), if_pos ⟨hbh, by omega⟩])
          · exact bad _ (by simp only [a_fetch, hb, if_neg q]; rw [if_pos (Or.inr ⟨hbh, z⟩)])
        refine VX10_fetch_45 _ _ _ _ ?_
        by_cases z : s.hd b = -1
        · obtain ⟨l1, l2⟩ := low (fun y => y.1 z)
          simp (disch := omega) only [(rM_k M), (rM_r501 M), (rM_k1 M), (rM_n1 M), (rM_r502 M), (rM_k2 M), (rM_n2 M), (rM_r503 M), (rM_k3 M), (rM_n3 M), (rM_r504 M), (rM_k4 M), (rM_n4 M), (rM_r505 M), (rM_k5 M), (rM_n5 M), (rM_r506 M), (rM_k6 M), (rM_n6 M), (rM_r507 M), (rM_k7 M), (rM_n7 M), (rM_r508 M), (rM_k8 M), (rM_n8 M), (rM_r509 M), (rM_k9 M), (rM_n9 M), (rM_r510 M), (rM_k10 M), (rM_n10 M), (rM_r511 M), (rM_k11 M), (rM_n11 M), (rM_r512 M), (rM_k12 M), (rM_n12 M), (rM_r515 M), (rM_k13 M), (rM_n13 M), (rM_r516 M), (rM_k14 M), (rM_n14 M), (rM_r517 M), (rM_k15 M), (rM_n15 M), (rM_r518 M), (rM_k16 M), (rM_n16 M), (rM_r524 M), (rM_k17 M), (rM_n17 M), (rM_r525 M), (rM_k18 M), (rM_n18 M), (rM_r526 M), (rM_k19 M), (rM_n19 M), (rM_r528 M), (rM_k20 M), (rM_n20 M), (rM_r529 M), (rM_k21 M), (rM_n21 M), (rM_r531 M), (rM_k22 M), (rM_n22 M), (rM_r532 M), (rM_k23 M), (rM_n23 M), (rM_r533 M), (rM_k24 M), (rM_n24 M), q_clamp, q_in, nI_leI, nI_ltI, nI_eq, ql_0, qL_0, qt_0, qT_0, qe_0, qc_0, qi_0, ql_1, qL_1, qt_1, qT_1, qe_1, qc_1, qi_1, ql_2, qL_2, qt_2, qT_2, qe_2, qc_2, qi_2, ql_3, qL_3, qt_3, qT_3, qe_3, qc_3, qi_3, ql_4, qL_4, qt_4, qT_4, qe_4, qc_4, qi_4, ql_6, qL_6, qt_6, qT_6, qe_6, qc_6, qi_6, ql_8, qL_8, qt_8, qT_8, qe_8, qc_8, qi_8, ql_10, qL_10, qt_10, qT_10, qe_10, qc_10, qi_10, ql_24, qL_24, qt_24, qT_24, qe_24, qc_24, qi_24, ql_60, qL_60, qt_60, qT_60, qe_60, qc_60, qi_60, ql_100, qL_100, qt_100, qT_100, qe_100, qc_100, qi_100, ql_200, qL_200, qt_200, qT_200, qe_200, qc_200, qi_200, ql_400, qL_400, qt_400, qT_400, qe_400, qc_400, qi_400, ql_600, qL_600, qt_600, qT_600, qe_600, qc_600, qi_600, ql_900, qL_900, qt_900, qT_900, qe_900, qc_900, qi_900, ql_1200, qL_1200, qt_1200, qT_1200, qe_1200, qc_1200, qi_1200, ql_65536, qL_65536, qt_65536, qT_65536, qe_65536, qc_65536, qi_65536, hv, hmg, true_and, and_true, eq_self, forall_eq, forall_eq_apply_imp_iff]
          refine ⟨fun _ => ⟨fun c => ⟨fun c2 => l1 c2, fun c2 => absurd c c2⟩, fun c => s_isClean R1 hw (fun y => ?_) (fun y => ?_)⟩, fun c => absurd z c⟩
          · refine ⟨fun _ => ⟨fun c2 => absurd c2 c, fun _ => ⟨R1.K, ?_⟩⟩, fun c => absurd c (by decide)⟩
            rw [hmg, ql_0 (by omega)]
            exact (l2 c).1 y
          · exact ⟨fun c => absurd rfl c, fun _ => (l2 c).2 y⟩
        · obtain ⟨d1, d2⟩ := hN_ok hw hb6 z
          have hv' := hv.trans d1
          simp (disch := omega) only [(rM_k M), (rM_r501 M), (rM_k1 M), (rM_n1 M), (rM_r502 M), (rM_k2 M), (rM_n2 M), (rM_r503 M), (rM_k3 M), (rM_n3 M), (rM_r504 M), (rM_k4 M), (rM_n4 M), (rM_r505 M), (rM_k5 M), (rM_n5 M), (rM_r506 M), (rM_k6 M), (rM_n6 M), (rM_r507 M), (rM_k7 M), (rM_n7 M), (rM_r508 M), (rM_k8 M), (rM_n8 M), (rM_r509 M), (rM_k9 M), (rM_n9 M), (rM_r510 M), (rM_k10 M), (rM_n10 M), (rM_r511 M), (rM_k11 M), (rM_n11 M), (rM_r512 M), (rM_k12 M), (rM_n12 M), (rM_r515 M), (rM_k13 M), (rM_n13 M), (rM_r516 M), (rM_k14 M), (rM_n14 M), (rM_r517 M), (rM_k15 M), (rM_n15 M), (rM_r518 M), (rM_k16 M), (rM_n16 M), (rM_r524 M), (rM_k17 M), (rM_n17 M), (rM_r525 M), (rM_k18 M), (rM_n18 M), (rM_r526 M), (rM_k19 M), (rM_n19 M), (rM_r528 M), (rM_k20 M), (rM_n20 M), (rM_r529 M), (rM_k21 M), (rM_n21 M), (rM_r531 M), (rM_k22 M), (rM_n22 M), (rM_r532 M), (rM_k23 M), (rM_n23 M), (rM_r533 M), (rM_k24 M), (rM_n24 M), q_clamp, q_in, nI_leI, nI_ltI, nI_eq, ql_0, qL_0, qt_0, qT_0, qe_0, qc_0, qi_0, ql_1, qL_1, qt_1, qT_1, qe_1, qc_1, qi_1, ql_2, qL_2, qt_2, qT_2, qe_2, qc_2, qi_2, ql_3, qL_3, qt_3, qT_3, qe_3, qc_3, qi_3, ql_4, qL_4, qt_4, qT_4, qe_4, qc_4, qi_4, ql_6, qL_6, qt_6, qT_6, qe_6, qc_6, qi_6, ql_8, qL_8, qt_8, qT_8, qe_8, qc_8, qi_8, ql_10, qL_10, qt_10, qT_10, qe_10, qc_10, qi_10, ql_24, qL_24, qt_24, qT_24, qe_24, qc_24, qi_24, ql_60, qL_60, qt_60, qT_60, qe_60, qc_60, qi_60, ql_100, qL_100, qt_100, qT_100, qe_100, qc_100, qi_100, ql_200, qL_200, qt_200, qT_200, qe_200, qc_200, qi_200, ql_400, qL_400, qt_400, qT_400, qe_400, qc_400, qi_400, ql_600, qL_600, qt_600, qT_600, qe_600, qc_600, qi_600, ql_900, qL_900, qt_900, qT_900, qe_900, qc_900, qi_900, ql_1200, qL_1200, qt_1200, qT_1200, qe_1200, qc_1200, qi_1200, ql_65536, qL_65536, qt_65536, qT_65536, qe_65536, qc_65536, qi_65536, hv', hmg, true_and, and_true, eq_self, forall_eq, forall_eq_apply_imp_iff]
          refine ⟨fun c => absurd c (nI_m1 (by omega)), fun _ => s_isAncestor R1 (by omega) t2 hm (fun y => ?_) (fun y => ?_)⟩
          · obtain ⟨l1, l2⟩ := low (fun u => by rw [y] at u; exact Bool.noConfusion u.2)
            refine ⟨fun c => absurd c (by decide), fun _ => ⟨fun c => ⟨fun c2 => l1 c2, fun c2 => absurd c c2⟩, fun c => ⟨R1.K, s_isClean R1 hw (fun y => ?_) (fun y => ?_)⟩⟩⟩
            · refine ⟨fun _ => ⟨fun c2 => absurd c2 c, fun _ => ⟨R1.K, ?_⟩⟩, fun c => absurd c (by decide)⟩
              rw [hmg, ql_0 (by omega)]
              exact (l2 c).1 y
            · exact ⟨fun c => absurd rfl c, fun _ => (l2 c).2 y⟩
          · exact ⟨fun _ => bad _ (by simp only [a_fetch, hb, if_neg q]; rw [if_pos (Or.inl ⟨z, y⟩)]), fun c => absurd rfl c⟩
      simp (disch := omega) only [(rM_k M), (rM_r501 M), (rM_k1 M), (rM_n1 M), (rM_r502 M), (rM_k2 M), (rM_n2 M), (rM_r503 M), (rM_k3 M), (rM_n3 M), (rM_r504 M), (rM_k4 M), (rM_n4 M), (rM_r505 M), (rM_k5 M), (rM_n5 M), (rM_r506 M), (rM_k6 M), (rM_n6 M), (rM_r507 M), (rM_k7 M), (rM_n7 M), (rM_r508 M), (rM_k8 M), (rM_n8 M), (rM_r509 M), (rM_k9 M), (rM_n9 M), (rM_r510 M), (rM_k10 M), (rM_n10 M), (rM_r511 M), (rM_k11 M), (rM_n11 M), (rM_r512 M), (rM_k12 M), (rM_n12 M), (rM_r515 M), (rM_k13 M), (rM_n13 M), (rM_r516 M), (rM_k14 M), (rM_n14 M), (rM_r517 M), (rM_k15 M), (rM_n15 M), (rM_r518 M), (rM_k16 M), (rM_n16 M), (rM_r524 M), (rM_k17 M), (rM_n17 M), (rM_r525 M), (rM_k18 M), (rM_n18 M), (rM_r526 M), (rM_k19 M), (rM_n19 M), (rM_r528 M), (rM_k20 M), (rM_n20 M), (rM_r529 M), (rM_k21 M), (rM_n21 M), (rM_r531 M), (rM_k22 M), (rM_n22 M), (rM_r532 M), (rM_k23 M), (rM_n23 M), (rM_r533 M), (rM_k24 M), (rM_n24 M), q_clamp, q_in, nI_leI, nI_ltI, nI_eq, ql_0, qL_0, qt_0, qT_0, qe_0, qc_0, qi_0, ql_1, qL_1, qt_1, qT_1, qe_1, qc_1, qi_1, ql_2, qL_2, qt_2, qT_2, qe_2, qc_2, qi_2, ql_3, qL_3, qt_3, qT_3, qe_3, qc_3, qi_3, ql_4, qL_4, qt_4, qT_4, qe_4, qc_4, qi_4, ql_6, qL_6, qt_6, qT_6, qe_6, qc_6, qi_6, ql_8, qL_8, qt_8, qT_8, qe_8, qc_8, qi_8, ql_10, qL_10, qt_10, qT_10, qe_10, qc_10, qi_10, ql_24, qL_24, qt_24, qT_24, qe_24, qc_24, qi_24, ql_60, qL_60, qt_60, qT_60, qe_60, qc_60, qi_60, ql_100, qL_100, qt_100, qT_100, qe_100, qc_100, qi_100, ql_200, qL_200, qt_200, qT_200, qe_200, qc_200, qi_200, ql_400, qL_400, qt_400, qT_400, qe_400, qc_400, qi_400, ql_600, qL_600, qt_600, qT_600, qe_600, qc_600, qi_600, ql_900, qL_900, qt_900, qT_900, qe_900, qc_900, qi_900, ql_1200, qL_1200, qt_1200, qT_1200, qe_1200, qc_1200, qi_1200, ql_65536, qL_65536, qt_65536, qT_65536, qe_65536, qc_65536, qi_65536, ht', hh, true_and, and_true, eq_self, forall_eq, forall_eq_apply_imp_iff]
      refine ⟨fun _ => ⟨fun c => mid 0 (Or.inl rfl) ⟨fun _ => c, fun _ => rfl⟩, fun c => mid 1 (Or.inr rfl) ⟨fun z => absurd z (by decide), fun z => absurd c z⟩⟩, fun c => absurd c (nI_m1 (by omega))⟩
  · exact ⟨fun _ => bad _ (by simp only [a_fetch, hb]), fun c => absurd rfl c⟩
end JP9
