/-! the reference: distinct -/
theorem rFt.tr {h h' : jj_H} {m k k' : Nat} {x : List (List Nd)} (F : rFt h h' m k) (hne : k' ≠ k) (hx : (flat x).length ≤ 210) (T : rTr h m k' x) : rTr h' m k' x := by
  obtain ⟨⟨a1, a2⟩, b⟩ := T
  refine ⟨⟨by rw [(F.2.2.1 k' hne).1]; exact a1, fun i nd hi => ?_⟩, by rw [(F.2.2.1 k' hne).2]; exact b⟩
  have hil := (List.getElem?_eq_some_iff.mp hi).1
  have := a2 i nd hi
  unfold rNd at *
  have hk : k' * 210 + i < k * 210 ∨ k * 210 + 210 ≤ k' * 210 + i := by omega
  rw [F.2.2.2.1 _ _ (by omega) (by omega) hk, F.2.2.2.1 _ _ (by omega) (by omega) hk, F.2.2.2.1 _ _ (by omega) (by omega) hk, F.2.2.2.1 _ _ (by omega) (by omega) hk, F.2.2.2.2 _ _ _ (by omega)]
  exact this
/-- only the trees of the work (and bytes) have changed -/
def rFw (h h' : jj_H) (m : Nat) : Prop := h'.2.2 = h.2.2 ∧ (∀ tg a i, (a < m + 4 ∨ m + 12 < a) → jI h' tg a i = jI h tg a i) ∧ (∀ k x, k < 180 → (flat x).length ≤ 210 → rTr h m k x → rTr h' m k x) ∧ (∀ tg a i, a ≠ m + 10 → jL h' tg a i = jL h tg a i)
theorem rFw.rf {h : jj_H} {m : Nat} : rFw h h m := ⟨rfl, fun _ _ _ _ => rfl, fun _ _ _ _ T => T, fun _ _ _ _ => rfl⟩
theorem rFw.trans {h h1 h2 : jj_H} {m : Nat} (a : rFw h h1 m) (b : rFw h1 h2 m) : rFw h h2 m := ⟨b.1.trans a.1, fun tg x i p => (b.2.1 tg x i p).trans (a.2.1 tg x i p), fun k x p q T => b.2.2.1 k x p q (a.2.2.1 k x p q T), fun tg x i p => (b.2.2.2 tg x i p).trans (a.2.2.2 tg x i p)⟩
theorem rFt.w {h h' : jj_H} {m k : Nat} (F : rFt h h' m k) (hk : 180 ≤ k) : rFw h h' m := ⟨F.1, F.2.1, fun k' x p q T => F.tr (by omega) q T, fun tg a i p => F.2.2.2.2 tg a i (fun q => p q.1)⟩
theorem rFw.tb {h h' : jj_H} {m s t : Nat} {l : List Row} (F : rFw h h' m) (T : rTb h m s t l) : rTb h' m s t l := by
  refine ⟨by rw [F.2.1 _ _ _ (by omega)]; exact T.1, T.2.1, fun j r hj => ?_⟩
  rw [← T.2.2 j r hj]
  unfold rw4
  rw [F.2.1 _ _ _ (by omega), F.2.1 _ _ _ (by omega), F.2.1 _ _ _ (by omega), F.2.1 _ _ _ (by omega)]
theorem s_cutWork {m : Nat} {ls : Nat → List Row} {h : jj_H} {Q : Value → jj_H → Prop} (M : rM h m) (T : rT3 h m 60 ls) (H : ∀ h', (∀ t, t < 3 → rTr h' m (180 + t) (tree (ls t))) → rFw h h' m → Q (.int 0) h') : jj_C mX10_cutWork 0 0 [.ref m] h Q := by
  refine EX10_cutWork _ fun d => ?_
  have loop : ∀ r i (h1 : jj_H), i + r = 3 → rFw h h1 m → (∀ t, t < i → rTr h1 m (180 + t) (tree (ls t))) → jj_WP d mX10_cutWork 0 0 2 [(0, .ref m), (1, .int (nI i))] [] h1 Q := by
    intro r
    induction r with
    | zero =>
      intro i h1 hi F lo
      refine VX10_cutWork_2 _ _ ?_
      simp (disch := omega) only [q_clamp, q_in, nI_leI, nI_ltI, nI_eq, ql_0, qL_0, qt_0, qT_0, qe_0, qc_0, qi_0, ql_1, qL_1, qt_1, qT_1, qe_1, qc_1, qi_1, ql_2, qL_2, qt_2, qT_2, qe_2, qc_2, qi_2, ql_3, qL_3, qt_3, qT_3, qe_3, qc_3, qi_3, ql_4, qL_4, qt_4, qT_4, qe_4, qc_4, qi_4, ql_6, qL_6, qt_6, qT_6, qe_6, qc_6, qi_6, ql_8, qL_8, qt_8, qT_8, qe_8, qc_8, qi_8, ql_10, qL_10, qt_10, qT_10, qe_10, qc_10, qi_10, ql_24, qL_24, qt_24, qT_24, qe_24, qc_24, qi_24, ql_60, qL_60, qt_60, qT_60, qe_60, qc_60, qi_60, ql_100, qL_100, qt_100, qT_100, qe_100, qc_100, qi_100, ql_200, qL_200, qt_200, qT_200, qe_200, qc_200, qi_200, ql_400, qL_400, qt_400, qT_400, qe_400, qc_400, qi_400, ql_600, qL_600, qt_600, qT_600, qe_600, qc_600, qi_600, ql_900, qL_900, qt_900, qT_900, qe_900, qc_900, qi_900, ql_1200, qL_1200, qt_1200, qT_1200, qe_1200, qc_1200, qi_1200, ql_65536, qL_65536, qt_65536, qT_65536, qe_65536, qc_65536, qi_65536]
      exact ⟨fun _ => H h1 (fun t ht => lo t (by omega)) F, fun c => by omega⟩
    | succ r ih =>
      intro i h1 hi F lo
      refine VX10_cutWork_2 _ _ ?_
      have M1 : rM h1 m := M.of F.1
      simp (disch := omega) only [(rM_k M1), (rM_r501 M1), (rM_k1 M1), (rM_n1 M1), (rM_r502 M1), (rM_k2 M1), (rM_n2 M1), (rM_r503 M1), (rM_k3 M1), (rM_n3 M1), (rM_r504 M1), (rM_k4 M1), (rM_n4 M1), (rM_r505 M1), (rM_k5 M1), (rM_n5 M1), (rM_r506 M1), (rM_k6 M1), (rM_n6 M1), (rM_r507 M1), (rM_k7 M1), (rM_n7 M1), (rM_r508 M1), (rM_k8 M1), (rM_n8 M1), (rM_r509 M1), (rM_k9 M1), (rM_n9 M1), (rM_r510 M1), (rM_k10 M1), (rM_n10 M1), (rM_r511 M1), (rM_k11 M1), (rM_n11 M1), (rM_r512 M1), (rM_k12 M1), (rM_n12 M1), (rM_r515 M1), (rM_k13 M1), (rM_n13 M1), (rM_r516 M1), (rM_k14 M1), (rM_n14 M1), (rM_r517 M1), (rM_k15 M1), (rM_n15 M1), (rM_r518 M1), (rM_k16 M1), (rM_n16 M1), (rM_r524 M1), (rM_k17 M1), (rM_n17 M1), (rM_r525 M1), (rM_k18 M1), (rM_n18 M1), (rM_r526 M1), (rM_k19 M1), (rM_n19 M1), (rM_r528 M1), (rM_k20 M1), (rM_n20 M1), (rM_r529 M1), (rM_k21 M1), (rM_n21 M1), (rM_r531 M1), (rM_k22 M1), (rM_n22 M1), (rM_r532 M1), (rM_k23 M1), (rM_n23 M1), (rM_r533 M1), (rM_k24 M1), (rM_n24 M1), qm_3, qm_4, qm_16, qm_600, qm_200, qm_8, qn_210, qn_3, qa_0, qb_0, qa_1, qb_1, qa_2, qb_2, qa_3, qb_3, qa_4, qb_4, qa_16, qb_16, qa_180, qb_180, qs_1, qs_2, qs_3, qs_4, qs_6, qs_24, nI_add, q_sub, q_pred, q_clamp, q_in, nI_leI, nI_ltI, nI_eq, ql_0, qL_0, qt_0, qT_0, qe_0, qc_0, qi_0, ql_1, qL_1, qt_1, qT_1, qe_1, qc_1, qi_1, ql_2, qL_2, qt_2, qT_2, qe_2, qc_2, qi_2, ql_3, qL_3, qt_3, qT_3, qe_3, qc_3, qi_3, ql_4, qL_4, qt_4, qT_4, qe_4, qc_4, qi_4, ql_6, qL_6, qt_6, qT_6, qe_6, qc_6, qi_6, ql_8, qL_8, qt_8, qT_8, qe_8, qc_8, qi_8, ql_10, qL_10, qt_10, qT_10, qe_10, qc_10, qi_10, ql_24, qL_24, qt_24, qT_24, qe_24, qc_24, qi_24, ql_60, qL_60, qt_60, qT_60, qe_60, qc_60, qi_60, ql_100, qL_100, qt_100, qT_100, qe_100, qc_100, qi_100, ql_200, qL_200, qt_200, qT_200, qe_200, qc_200, qi_200, ql_400, qL_400, qt_400, qT_400, qe_400, qc_400, qi_400, ql_600, qL_600, qt_600, qT_600, qe_600, qc_600, qi_600, ql_900, qL_900, qt_900, qT_900, qe_900, qc_900, qi_900, ql_1200, qL_1200, qt_1200, qT_1200, qe_1200, qc_1200, qi_1200, ql_65536, qL_65536, qt_65536, qT_65536, qe_65536, qc_65536, qi_65536, true_and, and_true, eq_self, forall_eq, forall_eq_apply_imp_iff]
      refine ⟨fun c => by omega, fun _ => ?_⟩
      refine s_cut (s := 60) M1 (by omega) (by omega) (F.tb (T i (by omega))) fun h2 T2 F2 => ?_
      refine ih (i + 1) h2 (by omega) (F.trans (F2.w (by omega))) fun t ht => ?_
      by_cases hti : t = i
      · subst hti
        exact T2
      · exact F2.tr (by omega) (by have := (tree_len (ls t) (T t (by omega)).2.1).1; omega) (lo t (by omega))
  exact loop 3 0 h (by omega) rFw.rf (fun t ht => by omega)
def tF (h h' : jj_H) (m : Nat) : Prop := h'.2 = h.2 ∧ ∀ tg a i, a ≠ m + 23 → jI h' tg a i = jI h tg a i
theorem tF.rf {h : jj_H} {m : Nat} : tF h h m := ⟨rfl, fun _ _ _ _ => rfl⟩
theorem tF.trans {h h1 h2 : jj_H} {m : Nat} (a : tF h h1 m) (b : tF h1 h2 m) : tF h h2 m := ⟨b.1.trans a.1, fun tg x i p => (b.2 tg x i p).trans (a.2 tg x i p)⟩
theorem tF.wr {h : jj_H} {m q : Nat} {v : Int32} : tF h (wI h 1000 (m + 23) q v) m := ⟨rfl, fun tg x i p => by rw [jI_wI, if_neg (by omega)]⟩
theorem tF.M {h h' : jj_H} {m : Nat} (F : tF h h' m) (M : rM h m) : rM h' m := M.of (by rw [F.1])
theorem tF.tb {h h' : jj_H} {m s t : Nat} {l : List Row} (F : tF h h' m) (T : rTb h m s t l) : rTb h' m s t l := by
  refine ⟨by rw [F.2 _ _ _ (by omega)]; exact T.1, T.2.1, fun j r hj => ?_⟩
  rw [← T.2.2 j r hj]
  unfold rw4
  rw [F.2 _ _ _ (by omega), F.2 _ _ _ (by omega), F.2 _ _ _ (by omega), F.2 _ _ _ (by omega)]
theorem tF.nd {h h' : jj_H} {m g : Nat} {nd : Nd} (F : tF h h' m) (N : rNd h m g nd) : rNd h' m g nd := by
  unfold rNd at *
  rw [F.2 _ _ _ (by omega), F.2 _ _ _ (by omega), F.2 _ _ _ (by omega), F.2 _ _ _ (by omega), show jL h' 1000 (m + 10) g = jL h 1000 (m + 10) g by unfold jL; rw [F.1]]
  exact N
theorem tF.no {h h' : jj_H} {m g : Nat} {l : List Row} {nd : Nd} (F : tF h h' m) (N : rNo h m g l nd) : rNo h' m g l nd := ⟨N.1, F.nd N.2.1, F.tb N.2.2.1, N.2.2.2⟩
theorem rTr.no {h : jj_H} {m s t i : Nat} {l : List Row} {nd : Nd} (hs : s < 61) (ht : t < 3) (T : rTb h m s t l) (R : rTr h m (3 * s + t) (tree l)) (hi : (flat (tree l))[i]? = some nd) : rNo h m ((3 * s + t) * 210 + i) l nd := by
  have hl := tree_len l T.2.1
  have hil := (List.getElem?_eq_some_iff.mp hi).1
  have hnd := tree_nd T.2.1 (List.mem_of_getElem? hi)
  have e1 : ((3 * s + t) * 210 + i) / 210 = 3 * s + t := by omega
  refine ⟨by omega, R.1.2 i nd hi, ?_, hnd.2.1, by omega⟩
  rw [e1, show (3 * s + t) / 3 = s by omega, show (3 * s + t) % 3 = t by omega]
  exact T
/-- all of it, from table t on -/
def n3 (ls : Nat → List Row) : Nat → List NK
  | 0 => []
  | k + 1 => nks (ls (2 - k)) ++ n3 ls k
theorem n3_3 (ls : Nat → List Row) : n3 ls 3 = nk3 ls := by simp [n3, nk3]
def gnf (tb : Nat → Nat → List Row) (g : Nat) : List Row × Nd := (tb (g / 210 / 3) (g / 210 % 3), (flat (tree (tb (g / 210 / 3) (g / 210 % 3)))).getD (g % 210) (0, 0, 0, 0, 0))
theorem gnf_at {tb : Nat → Nat → List Row} {s t i : Nat} {nd : Nd} (ht : t < 3) (hi : (flat (tree (tb s t)))[i]? = some nd) (h2 : i < 210) : gnf tb ((3 * s + t) * 210 + i) = (tb s t, nd) := by
  unfold gnf
  rw [show ((3 * s + t) * 210 + i) / 210 = 3 * s + t by omega, show ((3 * s + t) * 210 + i) % 210 = i by omega, show (3 * s + t) / 3 = s by omega, show (3 * s + t) % 3 = t by omega, List.getD_eq_getElem?_getD, hi]
  rfl
/-- what distinct leaves as it was -/
def dFr (h h' : jj_H) (m : Nat) : Prop := h'.2.2 = h.2.2 ∧ (∀ tg a i, (a < m + 4 ∨ m + 12 < a) → a ≠ m + 23 → jI h' tg a i = jI h tg a i) ∧ (∀ k x, k < 180 → (flat x).length ≤ 210 → rTr h m k x → rTr h' m k x) ∧ (∀ tg a i, a ≠ m + 10 → jL h' tg a i = jL h tg a i)
theorem tF.tr {h h' : jj_H} {m k : Nat} {x : List (List Nd)} (F : tF h h' m) (T : rTr h m k x) : rTr h' m k x := ⟨⟨by rw [F.2 _ _ _ (by omega)]; exact T.1.1, fun i nd hi => F.nd (T.1.2 i nd hi)⟩, by rw [F.2 _ _ _ (by omega)]; exact T.2⟩
theorem dFr.mk {h h1 h2 : jj_H} {m : Nat} (a : rFw h h1 m) (b : tF h1 h2 m) : dFr h h2 m := ⟨by rw [b.1]; exact a.1, fun tg x i p q => (b.2 tg x i q).trans (a.2.1 tg x i p), fun k x p q T => b.tr (a.2.2.1 k x p q T), fun tg x i p => by rw [show jL h2 tg x i = jL h1 tg x i by unfold jL; rw [b.1]]; exact a.2.2.2 tg x i p⟩
theorem tFw {h h1 h2 : jj_H} {m : Nat} (a : tF h h1 m) (b : rFw h1 h2 m) : dFr h h2 m := ⟨by rw [b.1, a.1], fun tg x i p q => (b.2.1 tg x i p).trans (a.2 tg x i q), fun k x p q T => b.2.2.1 k x p q (a.tr T), fun tg x i p => (b.2.2.2 tg x i p).trans (by unfold jL; rw [a.1])⟩
theorem dFr.t {h h1 h2 : jj_H} {m : Nat} (a : dFr h h1 m) (b : tF h1 h2 m) : dFr h h2 m := ⟨by rw [b.1]; exact a.1, fun tg x i p q => (b.2 tg x i q).trans (a.2.1 tg x i p q), fun k x p q T => b.tr (a.2.2.1 k x p q T), fun tg x i p => by rw [show jL h2 tg x i = jL h1 tg x i by unfold jL; rw [b.1]]; exact a.2.2.2 tg x i p⟩
