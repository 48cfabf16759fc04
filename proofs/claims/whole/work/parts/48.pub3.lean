/-! the reference: calls on trees -/
theorem trAt_some {s : St} {x y : Int32} {p t : Nat} (hp : pAt s x = some p) (ht : lim 3 y = some t) : trAt s x y = some (s.T p t) := by unfold trAt; rw [hp, ht]
theorem tree_pos0 (l : List Row) : 0 < (tree l).length := by unfold tree; rw [lvs]; split <;> simp
theorem tree_pos (l : List Row) : 0 < (flat (tree l)).length := by
  have e := List.getElem?_eq_getElem (tree_pos0 l)
  have h1 := (tree_at l e).2.2.1
  have h2 := (List.sublist_flatten_of_mem (List.mem_of_getElem? e)).length_le
  exact Nat.lt_of_lt_of_le h1 h2
section JP3
variable {m : Nat} {s : St} {h : jj_H} {Q : Value → jj_H → Prop}
theorem r_root {x y : Int32} (R : Rr h m s) (hw : s.wf) (H : ∀ h', Rr h' m s → rfr h h' m → Q (.long (a_root s x y)) h') : jj_C mX10_root 0 0 [.ref m, .int x, .int y] h Q := by
  refine EX10_root _ _ _ fun d => r_start R fun h1 R1 F1 => ?_
  refine s_treeOf R1 hw (fun p t hp ht h2 R2 F2 T2 _ => ?_) (fun e => ?_)
  · obtain ⟨e0, ht3⟩ := lim_some (by decide) ht
    obtain ⟨hpl, hp6⟩ := pAt_lt hw hp
    have HH := H h2 R2 (F1.trans F2)
    simp only [a_root, trAt_some hp ht] at HH
    have M2 := R2.1
    have hT := R2.2.1 p hpl t ht3
    have hl := tree_len _ hT.2.1
    have hc := T2.1.1
    have hpos := tree_pos (s.T p t)
    obtain ⟨nd, e3⟩ : ∃ nd, (flat (tree (s.T p t)))[(flat (tree (s.T p t))).length - 1]? = some nd := ⟨_, List.getElem?_eq_getElem (by omega)⟩
    have n5 := (T2.1.2 _ nd e3).2.2.2.2
    rw [show topN (s.T p t) = nd by unfold topN; rw [List.getD_eq_getElem?_getD, e3]; rfl] at HH
    rw [e0]
    simp (disch := omega) only [jj_vi, (rM_k M2), (rM_r501 M2), (rM_k1 M2), (rM_n1 M2), (rM_r502 M2), (rM_k2 M2), (rM_n2 M2), (rM_r503 M2), (rM_k3 M2), (rM_n3 M2), (rM_r504 M2), (rM_k4 M2), (rM_n4 M2), (rM_r505 M2), (rM_k5 M2), (rM_n5 M2), (rM_r506 M2), (rM_k6 M2), (rM_n6 M2), (rM_r507 M2), (rM_k7 M2), (rM_n7 M2), (rM_r508 M2), (rM_k8 M2), (rM_n8 M2), (rM_r509 M2), (rM_k9 M2), (rM_n9 M2), (rM_r510 M2), (rM_k10 M2), (rM_n10 M2), (rM_r511 M2), (rM_k11 M2), (rM_n11 M2), (rM_r512 M2), (rM_k12 M2), (rM_n12 M2), (rM_r515 M2), (rM_k13 M2), (rM_n13 M2), (rM_r516 M2), (rM_k14 M2), (rM_n14 M2), (rM_r517 M2), (rM_k15 M2), (rM_n15 M2), (rM_r518 M2), (rM_k16 M2), (rM_n16 M2), (rM_r524 M2), (rM_k17 M2), (rM_n17 M2), (rM_r525 M2), (rM_k18 M2), (rM_n18 M2), (rM_r526 M2), (rM_k19 M2), (rM_n19 M2), (rM_r528 M2), (rM_k20 M2), (rM_n20 M2), (rM_r529 M2), (rM_k21 M2), (rM_n21 M2), (rM_r531 M2), (rM_k22 M2), (rM_n22 M2), (rM_r532 M2), (rM_k23 M2), (rM_n23 M2), (rM_r533 M2), (rM_k24 M2), (rM_n24 M2), qm_3, qm_4, qm_16, qm_600, qm_200, qm_8, qn_210, qn_3, qa_0, qb_0, qa_1, qb_1, qa_2, qb_2, qa_3, qb_3, qa_4, qb_4, qa_16, qb_16, qa_180, qb_180, qs_1, qs_2, qs_3, qs_4, qs_6, qs_24, nI_add, q_sub, q_pred, q_clamp, q_in, nI_leI, nI_ltI, nI_eq, ql_0, qL_0, qt_0, qT_0, qe_0, qc_0, qi_0, ql_1, qL_1, qt_1, qT_1, qe_1, qc_1, qi_1, ql_2, qL_2, qt_2, qT_2, qe_2, qc_2, qi_2, ql_3, qL_3, qt_3, qT_3, qe_3, qc_3, qi_3, ql_4, qL_4, qt_4, qT_4, qe_4, qc_4, qi_4, ql_6, qL_6, qt_6, qT_6, qe_6, qc_6, qi_6, ql_8, qL_8, qt_8, qT_8, qe_8, qc_8, qi_8, ql_10, qL_10, qt_10, qT_10, qe_10, qc_10, qi_10, ql_24, qL_24, qt_24, qT_24, qe_24, qc_24, qi_24, ql_60, qL_60, qt_60, qT_60, qe_60, qc_60, qi_60, ql_100, qL_100, qt_100, qT_100, qe_100, qc_100, qi_100, ql_200, qL_200, qt_200, qT_200, qe_200, qc_200, qi_200, ql_400, qL_400, qt_400, qT_400, qe_400, qc_400, qi_400, ql_600, qL_600, qt_600, qT_600, qe_600, qc_600, qi_600, ql_900, qL_900, qt_900, qT_900, qe_900, qc_900, qi_900, ql_1200, qL_1200, qt_1200, qT_1200, qe_1200, qc_1200, qi_1200, ql_65536, qL_65536, qt_65536, qT_65536, qe_65536, qc_65536, qi_65536, hc, true_and, and_true, eq_self, forall_eq, forall_eq_apply_imp_iff]
    refine ⟨fun _ => ?_, fun c => absurd (Nat.zero_le _) c⟩
    rw [show (3 * p + t) * 210 + (flat (tree (s.T p t))).length - 1 = (3 * p + t) * 210 + ((flat (tree (s.T p t))).length - 1) by omega, n5]
    exact HH
  · have HH := H h1 R1 F1
    simp only [a_root, e] at HH
    exact ⟨fun c => absurd c (by decide), fun _ => HH⟩
theorem r_height {x y : Int32} (R : Rr h m s) (hw : s.wf) (H : ∀ h', Rr h' m s → rfr h h' m → Q (.int (a_height s x y)) h') : jj_C mX10_height 0 0 [.ref m, .int x, .int y] h Q := by
  refine EX10_height _ _ _ fun d => r_start R fun h1 R1 F1 => ?_
  refine s_treeOf R1 hw (fun p t hp ht h2 R2 F2 T2 _ => ?_) (fun e => ?_)
  · obtain ⟨e0, ht3⟩ := lim_some (by decide) ht
    obtain ⟨hpl, hp6⟩ := pAt_lt hw hp
    have HH := H h2 R2 (F1.trans F2)
    simp only [a_height, trAt_some hp ht] at HH
    have M2 := R2.1
    have hc := T2.2
    rw [e0]
    simp (disch := omega) only [jj_vi, (rM_k M2), (rM_r501 M2), (rM_k1 M2), (rM_n1 M2), (rM_r502 M2), (rM_k2 M2), (rM_n2 M2), (rM_r503 M2), (rM_k3 M2), (rM_n3 M2), (rM_r504 M2), (rM_k4 M2), (rM_n4 M2), (rM_r505 M2), (rM_k5 M2), (rM_n5 M2), (rM_r506 M2), (rM_k6 M2), (rM_n6 M2), (rM_r507 M2), (rM_k7 M2), (rM_n7 M2), (rM_r508 M2), (rM_k8 M2), (rM_n8 M2), (rM_r509 M2), (rM_k9 M2), (rM_n9 M2), (rM_r510 M2), (rM_k10 M2), (rM_n10 M2), (rM_r511 M2), (rM_k11 M2), (rM_n11 M2), (rM_r512 M2), (rM_k12 M2), (rM_n12 M2), (rM_r515 M2), (rM_k13 M2), (rM_n13 M2), (rM_r516 M2), (rM_k14 M2), (rM_n14 M2), (rM_r517 M2), (rM_k15 M2), (rM_n15 M2), (rM_r518 M2), (rM_k16 M2), (rM_n16 M2), (rM_r524 M2), (rM_k17 M2), (rM_n17 M2), (rM_r525 M2), (rM_k18 M2), (rM_n18 M2), (rM_r526 M2), (rM_k19 M2), (rM_n19 M2), (rM_r528 M2), (rM_k20 M2), (rM_n20 M2), (rM_r529 M2), (rM_k21 M2), (rM_n21 M2), (rM_r531 M2), (rM_k22 M2), (rM_n22 M2), (rM_r532 M2), (rM_k23 M2), (rM_n23 M2), (rM_r533 M2), (rM_k24 M2), (rM_n24 M2), qm_3, qm_4, qm_16, qm_600, qm_200, qm_8, qn_210, qn_3, qa_0, qb_0, qa_1, qb_1, qa_2, qb_2, qa_3, qb_3, qa_4, qb_4, qa_16, qb_16, qa_180, qb_180, qs_1, qs_2, qs_3, qs_4, qs_6, qs_24, nI_add, q_sub, q_pred, q_clamp, q_in, nI_leI, nI_ltI, nI_eq, ql_0, qL_0, qt_0, qT_0, qe_0, qc_0, qi_0, ql_1, qL_1, qt_1, qT_1, qe_1, qc_1, qi_1, ql_2, qL_2, qt_2, qT_2, qe_2, qc_2, qi_2, ql_3, qL_3, qt_3, qT_3, qe_3, qc_3, qi_3, ql_4, qL_4, qt_4, qT_4, qe_4, qc_4, qi_4, ql_6, qL_6, qt_6, qT_6, qe_6, qc_6, qi_6, ql_8, qL_8, qt_8, qT_8, qe_8, qc_8, qi_8, ql_10, qL_10, qt_10, qT_10, qe_10, qc_10, qi_10, ql_24, qL_24, qt_24, qT_24, qe_24, qc_24, qi_24, ql_60, qL_60, qt_60, qT_60, qe_60, qc_60, qi_60, ql_100, qL_100, qt_100, qT_100, qe_100, qc_100, qi_100, ql_200, qL_200, qt_200, qT_200, qe_200, qc_200, qi_200, ql_400, qL_400, qt_400, qT_400, qe_400, qc_400, qi_400, ql_600, qL_600, qt_600, qT_600, qe_600, qc_600, qi_600, ql_900, qL_900, qt_900, qT_900, qe_900, qc_900, qi_900, ql_1200, qL_1200, qt_1200, qT_1200, qe_1200, qc_1200, qi_1200, ql_65536, qL_65536, qt_65536, qT_65536, qe_65536, qc_65536, qi_65536, hc, true_and, and_true, eq_self, forall_eq, forall_eq_apply_imp_iff]
    exact ⟨fun _ => HH, fun c => absurd (Nat.zero_le _) c⟩
  · have HH := H h1 R1 F1
    simp only [a_height, e] at HH
    exact ⟨fun c => absurd c (by decide), fun _ => HH⟩
theorem tree_lv (l : List Row) : ∀ j ns, (tree l)[j]? = some ns → ∀ nd ∈ ns, nd.1 = 0 + j := fun j ns hj nd hnd => by rw [((tree_at l hj).1 nd hnd).1]; omega
theorem s_nodeT {p t lv i : Nat} (R : Rr h m s) (hp : p < s.made ∨ p = 60) (hp6 : p < 61) (ht : t < 3) (hlv : lv < 2147483648) (hi : i < 2147483648) (T2 : rTr h m (3 * p + t) (tree (s.T p t))) (H1 : ∀ q nd, ((tree (s.T p t)).getD lv [])[i]? = some nd → (flat (tree (s.T p t)))[q]? = some nd → q < 202 → Q (.int (nI ((3 * p + t) * 210 + q))) h) (H0 : ((tree (s.T p t)).getD lv [])[i]? = none → Q (.int (-1)) h) : jj_C mX10_nodeAt 0 0 [.ref m, .int (nI p), .int (nI t), .int (nI lv), .int (nI i)] h Q := by
  have hT := R.2.1 p hp t ht
  have hl := tree_len _ hT.2.1
  obtain ⟨f1, f2⟩ := fnd_x (b := 0) (lv := lv) (i := i) (p := 0) (tree_lv (s.T p t)) (Nat.zero_le _)
  rw [Nat.sub_zero] at f1 f2
  refine s_nodeAt R.1 hp6 ht hlv hi T2.1 (by omega) (fun nd hnd => ?_) (fun q hq => ?_) (fun hq => H0 (f2 hq))
  · have := (tree_nd hT.2.1 hnd).1
    omega
  · obtain ⟨nd, n1, n2, n3⟩ := f1 q hq
    rw [Nat.sub_zero] at n3
    exact H1 q nd n1 n3 (by have := (List.getElem?_eq_some_iff.mp n3).1; omega)
theorem r_nodes {x y lv : Int32} (R : Rr h m s) (hw : s.wf) (H : ∀ h', Rr h' m s → rfr h h' m → Q (.int (a_nodes s x y lv)) h') : jj_C mX10_nodes 0 0 [.ref m, .int x, .int y, .int lv] h Q := by
  refine EX10_nodes _ _ _ _ fun d => r_start R fun h1 R1 F1 => ?_
  refine s_treeOf R1 hw (fun p t hp ht h2 R2 F2 T2 _ => ?_) (fun e => ?_)
  · obtain ⟨e0, ht3⟩ := lim_some (by decide) ht
    obtain ⟨hpl, hp6⟩ := pAt_lt hw hp
    have HH := H h2 R2 (F1.trans F2)
    simp only [a_nodes, trAt_some hp ht] at HH
    have M2 := R2.1
    have hc := T2.2
    have hT := R2.2.1 p hpl t ht3
    have hl := tree_len _ hT.2.1
    rw [e0]
    simp (disch := omega) only [jj_vi, (rM_k M2), (rM_r501 M2), (rM_k1 M2), (rM_n1 M2), (rM_r502 M2), (rM_k2 M2), (rM_n2 M2), (rM_r503 M2), (rM_k3 M2), (rM_n3 M2), (rM_r504 M2), (rM_k4 M2), (rM_n4 M2), (rM_r505 M2), (rM_k5 M2), (rM_n5 M2), (rM_r506 M2), (rM_k6 M2), (rM_n6 M2), (rM_r507 M2), (rM_k7 M2), (rM_n7 M2), (rM_r508 M2), (rM_k8 M2), (rM_n8 M2), (rM_r509 M2), (rM_k9 M2), (rM_n9 M2), (rM_r510 M2), (rM_k10 M2), (rM_n10 M2), (rM_r511 M2), (rM_k11 M2), (rM_n11 M2), (rM_r512 M2), (rM_k12 M2), (rM_n12 M2), (rM_r515 M2), (rM_k13 M2), (rM_n13 M2), (rM_r516 M2), (rM_k14 M2), (rM_n14 M2), (rM_r517 M2), (rM_k15 M2), (rM_n15 M2), (rM_r518 M2), (rM_k16 M2), (rM_n16 M2), (rM_r524 M2), (rM_k17 M2), (rM_n17 M2), (rM_r525 M2), (rM_k18 M2), (rM_n18 M2), (rM_r526 M2), (rM_k19 M2), (rM_n19 M2), (rM_r528 M2), (rM_k20 M2), (rM_n20 M2), (rM_r529 M2), (rM_k21 M2), (rM_n21 M2), (rM_r531 M2), (rM_k22 M2), (rM_n22 M2), (rM_r532 M2), (rM_k23 M2), (rM_n23 M2), (rM_r533 M2), (rM_k24 M2), (rM_n24 M2), qm_3, qm_4, qm_16, qm_600, qm_200, qm_8, qn_210, qn_3, qa_0, qb_0, qa_1, qb_1, qa_2, qb_2, qa_3, qb_3, qa_4, qb_4, qa_16, qb_16, qa_180, qb_180, qs_1, qs_2, qs_3, qs_4, qs_6, qs_24, nI_add, q_sub, q_pred, q_clamp, q_in, nI_leI, nI_ltI, nI_eq, ql_0, qL_0, qt_0, qT_0, qe_0, qc_0, qi_0, ql_1, qL_1, qt_1, qT_1, qe_1, qc_1, qi_1, ql_2, qL_2, qt_2, qT_2, qe_2, qc_2, qi_2, ql_3, qL_3, qt_3, qT_3, qe_3, qc_3, qi_3, ql_4, qL_4, qt_4, qT_4, qe_4, qc_4, qi_4, ql_6, qL_6, qt_6, qT_6, qe_6, qc_6, qi_6, ql_8, qL_8, qt_8, qT_8, qe_8, qc_8, qi_8, ql_10, qL_10, qt_10, qT_10, qe_10, qc_10, qi_10, ql_24, qL_24, qt_24, qT_24, qe_24, qc_24, qi_24, ql_60, qL_60, qt_60, qT_60, qe_60, qc_60, qi_60, ql_100, qL_100, qt_100, qT_100, qe_100, qc_100, qi_100, ql_200, qL_200, qt_200, qT_200, qe_200, qc_200, qi_200, ql_400, qL_400, qt_400, qT_400, qe_400, qc_400, qi_400, ql_600, qL_600, qt_600, qT_600, qe_600, qc_600, qi_600, ql_900, qL_900, qt_900, qT_900, qe_900, qc_900, qi_900, ql_1200, qL_1200, qt_1200, qT_1200, qe_1200, qc_1200, qi_1200, ql_65536, qL_65536, qt_65536, qT_65536, qe_65536, qc_65536, qi_65536, hc, true_and, and_true, eq_self, forall_eq, forall_eq_apply_imp_iff]
    refine ⟨fun c => absurd c (Nat.not_lt_zero _), fun _ => s_isIn (n := (tree (s.T p t)).length) (by omega) rfl (fun j hj => ?_) (fun hj => ?_)⟩
    · obtain ⟨e1, hj2⟩ := lim_some (by omega) hj
      simp only [hj] at HH
      refine ⟨fun _ => ?_, fun c => absurd c (by decide)⟩
      rw [e1]
      have hlen : ((tree (s.T p t)).getD j []).length ≤ 202 := by
        have e2 : (tree (s.T p t))[j]? = some (tree (s.T p t))[j] := List.getElem?_eq_getElem hj2
        rw [List.getD_eq_getElem?_getD, e2]
        have := List.sublist_flatten_of_mem (List.mem_of_getElem? e2)
        exact Nat.le_trans this.length_le hl.1
      have loop : ∀ r n, n + r = ((tree (s.T p t)).getD j []).length → jj_WP d mX10_nodes 0 0 47 [(0, .ref m), (2, .int (nI t)), (3, .int (nI j)), (4, .int (nI p)), (5, .int (nI n))] [] h2 Q := by
        intro r
        induction r with
        | zero =>
          intro n hn
          refine VX10_nodes_47 _ _ _ _ _ ⟨R2.K, ?_⟩
          refine s_nodeT R2 hpl hp6 ht3 (by omega) (by omega) T2 (fun q nd n1 _ _ => ?_) (fun _ => ?_)
          · have := (List.getElem?_eq_some_iff.mp n1).1
            omega
          · refine ⟨fun _ => ?_, fun c => absurd (by decide) c⟩
            rw [show n = ((tree (s.T p t)).getD j []).length by omega]
            exact HH
        | succ r ih =>
          intro n hn
          refine VX10_nodes_47 _ _ _ _ _ ⟨R2.K, ?_⟩
          refine s_nodeT R2 hpl hp6 ht3 (by omega) (by omega) T2 (fun q nd n1 _ _ => ?_) (fun n1 => ?_)
          · exact ⟨fun c => absurd c (neg_nI (by omega)), fun _ => by rw [qa_1]; exact ih (n + 1) (by omega)⟩
          · have := List.getElem?_eq_none_iff.mp n1
            omega
      exact loop _ 0 (Nat.zero_add _)
    · simp only [hj] at HH
      exact ⟨fun c => absurd rfl c, fun _ => HH⟩
  · have HH := H h1 R1 F1
    simp only [a_nodes, e] at HH
    exact ⟨fun _ => HH, fun c => absurd (by decide) c⟩
theorem r_node {x y lv i w : Int32} (R : Rr h m s) (hw : s.wf) (H : ∀ h', Rr h' m s → rfr h h' m → Q (.long (a_node s x y lv i w)) h') : jj_C mX10_node_ 0 0 [.ref m, .int x, .int y, .int lv, .int i, .int w] h Q := by
  refine EX10_node_ _ _ _ _ _ _ fun d => r_start R fun h1 R1 F1 => ?_
  refine s_treeOf R1 hw (fun p t hp ht h2 R2 F2 T2 _ => ?_) (fun e => ?_)
  · obtain ⟨e0, ht3⟩ := lim_some (by decide) ht
    obtain ⟨hpl, hp6⟩ := pAt_lt hw hp
    have HH := H h2 R2 (F1.trans F2)
    simp only [a_node, trAt_some hp ht] at HH
    have M2 := R2.1
    have hT := R2.2.1 p hpl t ht3
    have hl := tree_len _ hT.2.1
    have no : ndA (s.T p t) lv i = none → jj_WP d mX10_node_ 0 0 41 [(0, .ref m), (5, .int w)] [.int (-1)] h2 Q := fun q => by
      simp only [q] at HH
      exact VX10_node__41 _ _ _ ⟨fun _ => HH, fun c => absurd (by decide) c⟩
    rw [e0]
    refine ⟨fun c => absurd c (neg_nI (by omega)), fun _ => ⟨fun c => no (by unfold ndA; rw [if_neg (fun q => Int32.not_lt.mpr q.2 c)]), fun c => ⟨fun c2 => ⟨R2.K, ?_⟩, fun c2 => no (by unfold ndA; rw [if_neg (fun q => c2 q.1)])⟩⟩⟩
    obtain ⟨e1, b1⟩ := pos_nI c2
    obtain ⟨e2, b2⟩ := pos_nI (Int32.not_lt.mp c)
    have ea : ndA (s.T p t) lv i = ((tree (s.T p t)).getD (Int32.toNatClampNeg lv) [])[Int32.toNatClampNeg i]? := by unfold ndA; rw [if_pos ⟨c2, Int32.not_lt.mp c⟩]
    generalize Int32.toNatClampNeg lv = lv' at *
    generalize Int32.toNatClampNeg i = i' at *
    rw [e1, e2]
    refine s_nodeT R2 hpl hp6 ht3 b1 b2 T2 (fun q nd n1 n2 hq => ?_) (fun n1 => ?_)
    · rw [e1, e2] at ea
      rw [e1, e2] at HH
      simp only [ea, n1] at HH
      have N := rTr.no (s := p) hp6 ht3 hT T2 n2
      obtain ⟨n_1, n_2, n_3, n_4, n_5⟩ := id N.2.1
      have hnd := tree_nd hT.2.1 (List.mem_of_getElem? n2)
      have hn200 := hT.2.1
      refine VX10_node__41 _ _ _ ⟨fun c => absurd c (neg_nI (by omega)), fun _ => s_isIn (n := 4) (by decide) rfl (fun j hj => ?_) (fun hj => ?_)⟩
      · obtain ⟨e4, hj4⟩ := lim_some (by decide) hj
        refine ⟨fun _ => ?_, fun c => absurd c (by decide)⟩
        simp only [whatN, hj] at HH
        rw [e4]
        simp (disch := omega) only [(rM_k M2), (rM_r501 M2), (rM_k1 M2), (rM_n1 M2), (rM_r502 M2), (rM_k2 M2), (rM_n2 M2), (rM_r503 M2), (rM_k3 M2), (rM_n3 M2), (rM_r504 M2), (rM_k4 M2), (rM_n4 M2), (rM_r505 M2), (rM_k5 M2), (rM_n5 M2), (rM_r506 M2), (rM_k6 M2), (rM_n6 M2), (rM_r507 M2), (rM_k7 M2), (rM_n7 M2), (rM_r508 M2), (rM_k8 M2), (rM_n8 M2), (rM_r509 M2), (rM_k9 M2), (rM_n9 M2), (rM_r510 M2), (rM_k10 M2), (rM_n10 M2), (rM_r511 M2), (rM_k11 M2), (rM_n11 M2), (rM_r512 M2), (rM_k12 M2), (rM_n12 M2), (rM_r515 M2), (rM_k13 M2), (rM_n13 M2), (rM_r516 M2), (rM_k14 M2), (rM_n14 M2), (rM_r517 M2), (rM_k15 M2), (rM_n15 M2), (rM_r518 M2), (rM_k16 M2), (rM_n16 M2), (rM_r524 M2), (rM_k17 M2), (rM_n17 M2), (rM_r525 M2), (rM_k18 M2), (rM_n18 M2), (rM_r526 M2), (rM_k19 M2), (rM_n19 M2), (rM_r528 M2), (rM_k20 M2), (rM_n20 M2), (rM_r529 M2), (rM_k21 M2), (rM_n21 M2), (rM_r531 M2), (rM_k22 M2), (rM_n22 M2), (rM_r532 M2), (rM_k23 M2), (rM_n23 M2), (rM_r533 M2), (rM_k24 M2), (rM_n24 M2), qm_3, qm_4, qm_16, qm_600, qm_200, qm_8, qn_210, qn_3, qa_0, qb_0, qa_1, qb_1, qa_2, qb_2, qa_3, qb_3, qa_4, qb_4, qa_16, qb_16, qa_180, qb_180, qs_1, qs_2, qs_3, qs_4, qs_6, qs_24, nI_add, q_sub, q_pred, q_clamp, q_in, nI_leI, nI_ltI, nI_eq, ql_0, qL_0, qt_0, qT_0, qe_0, qc_0, qi_0, ql_1, qL_1, qt_1, qT_1, qe_1, qc_1, qi_1, ql_2, qL_2, qt_2, qT_2, qe_2, qc_2, qi_2, ql_3, qL_3, qt_3, qT_3, qe_3, qc_3, qi_3, ql_4, qL_4, qt_4, qT_4, qe_4, qc_4, qi_4, ql_6, qL_6, qt_6, qT_6, qe_6, qc_6, qi_6, ql_8, qL_8, qt_8, qT_8, qe_8, qc_8, qi_8, ql_10, qL_10, qt_10, qT_10, qe_10, qc_10, qi_10, ql_24, qL_24, qt_24, qT_24, qe_24, qc_24, qi_24, ql_60, qL_60, qt_60, qT_60, qe_60, qc_60, qi_60, ql_100, qL_100, qt_100, qT_100, qe_100, qc_100, qi_100, ql_200, qL_200, qt_200, qT_200, qe_200, qc_200, qi_200, ql_400, qL_400, qt_400, qT_400, qe_400, qc_400, qi_400, ql_600, qL_600, qt_600, qT_600, qe_600, qc_600, qi_600, ql_900, qL_900, qt_900, qT_900, qe_900, qc_900, qi_900, ql_1200, qL_1200, qt_1200, qT_1200, qe_1200, qc_1200, qi_1200, ql_65536, qL_65536, qt_65536, qT_65536, qe_65536, qc_65536, qi_65536, n_2, n_4, n_5, true_and, and_true, eq_self, forall_eq, forall_eq_apply_imp_iff]
        refine ⟨fun j0 => ⟨fun j1 => ⟨fun j2 => ⟨fun b0 => ?_, fun b0 => ?_⟩, fun j2 => ?_⟩, fun j1 => ?_⟩, fun j0 => ?_⟩
        · have hj3 : j = 3 := by omega
          subst hj3
          simp only [if_neg b0] at HH
          refine s_lastRow M2 N ?_
          rw [show ((3 * p + t) * 210 + q) / 210 = 3 * p + t by omega, show (3 * p + t) / 3 = p by omega, show (3 * p + t) % 3 = t by omega]
          simp (disch := omega) only [jj_vi, (rM_k M2), (rM_r501 M2), (rM_k1 M2), (rM_n1 M2), (rM_r502 M2), (rM_k2 M2), (rM_n2 M2), (rM_r503 M2), (rM_k3 M2), (rM_n3 M2), (rM_r504 M2), (rM_k4 M2), (rM_n4 M2), (rM_r505 M2), (rM_k5 M2), (rM_n5 M2), (rM_r506 M2), (rM_k6 M2), (rM_n6 M2), (rM_r507 M2), (rM_k7 M2), (rM_n7 M2), (rM_r508 M2), (rM_k8 M2), (rM_n8 M2), (rM_r509 M2), (rM_k9 M2), (rM_n9 M2), (rM_r510 M2), (rM_k10 M2), (rM_n10 M2), (rM_r511 M2), (rM_k11 M2), (rM_n11 M2), (rM_r512 M2), (rM_k12 M2), (rM_n12 M2), (rM_r515 M2), (rM_k13 M2), (rM_n13 M2), (rM_r516 M2), (rM_k14 M2), (rM_n14 M2), (rM_r517 M2), (rM_k15 M2), (rM_n15 M2), (rM_r518 M2), (rM_k16 M2), (rM_n16 M2), (rM_r524 M2), (rM_k17 M2), (rM_n17 M2), (rM_r525 M2), (rM_k18 M2), (rM_n18 M2), (rM_r526 M2), (rM_k19 M2), (rM_n19 M2), (rM_r528 M2), (rM_k20 M2), (rM_n20 M2), (rM_r529 M2), (rM_k21 M2), (rM_n21 M2), (rM_r531 M2), (rM_k22 M2), (rM_n22 M2), (rM_r532 M2), (rM_k23 M2), (rM_n23 M2), (rM_r533 M2), (rM_k24 M2), (rM_n24 M2), qm_3, qm_4, qm_16, qm_600, qm_200, qm_8, qn_210, qn_3, qa_0, qb_0, qa_1, qb_1, qa_2, qb_2, qa_3, qb_3, qa_4, qb_4, qa_16, qb_16, qa_180, qb_180, qs_1, qs_2, qs_3, qs_4, qs_6, qs_24, nI_add, q_sub, q_pred, q_clamp, q_in, nI_leI, nI_ltI, nI_eq, ql_0, qL_0, qt_0, qT_0, qe_0, qc_0, qi_0, ql_1, qL_1, qt_1, qT_1, qe_1, qc_1, qi_1, ql_2, qL_2, qt_2, qT_2, qe_2, qc_2, qi_2, ql_3, qL_3, qt_3, qT_3, qe_3, qc_3, qi_3, ql_4, qL_4, qt_4, qT_4, qe_4, qc_4, qi_4, ql_6, qL_6, qt_6, qT_6, qe_6, qc_6, qi_6, ql_8, qL_8, qt_8, qT_8, qe_8, qc_8, qi_8, ql_10, qL_10, qt_10, qT_10, qe_10, qc_10, qi_10, ql_24, qL_24, qt_24, qT_24, qe_24, qc_24, qi_24, ql_60, qL_60, qt_60, qT_60, qe_60, qc_60, qi_60, ql_100, qL_100, qt_100, qT_100, qe_100, qc_100, qi_100, ql_200, qL_200, qt_200, qT_200, qe_200, qc_200, qi_200, ql_400, qL_400, qt_400, qT_400, qe_400, qc_400, qi_400, ql_600, qL_600, qt_600, qT_600, qe_600, qc_600, qi_600, ql_900, qL_900, qt_900, qT_900, qe_900, qc_900, qi_900, ql_1200, qL_1200, qt_1200, qT_1200, qe_1200, qc_1200, qi_1200, ql_65536, qL_65536, qt_65536, qT_65536, qe_65536, qc_65536, qi_65536, true_and, and_true, eq_self, forall_eq, forall_eq_apply_imp_iff]
          obtain ⟨r, e5⟩ : ∃ r, (s.T p t)[nd.2.2.1 + nd.2.2.2.1 - 1]? = some r := ⟨_, List.getElem?_eq_getElem (by omega)⟩
          rw [List.getD_eq_getElem?_getD, e5] at HH
          have e6 := hT.2.2 _ _ e5
          rw [show 600 * p + 200 * t + nd.2.2.1 + nd.2.2.2.1 - 1 = 600 * p + 200 * t + (nd.2.2.1 + nd.2.2.2.1 - 1) by omega, show jI h2 1000 (m + 1) (600 * p + 200 * t + (nd.2.2.1 + nd.2.2.2.1 - 1)) = r.1 from congrArg Prod.fst e6]
          exact HH
        · have hj3 : j = 3 := by omega
          subst hj3
          simp only [if_pos b0] at HH
          exact HH
        · subst j2
          exact HH
        · subst j1
          exact HH
        · subst j0
          exact HH
      · simp only [whatN, hj] at HH
        exact ⟨fun c => absurd rfl c, fun _ => HH⟩
    · exact no (by rw [ea]; exact n1)
  · have HH := H h1 R1 F1
    simp only [a_node, e] at HH
    exact ⟨fun _ => VX10_node__41 _ _ _ ⟨fun _ => HH, fun c => absurd (by decide) c⟩, fun c => absurd (by decide) c⟩
theorem r_stored (R : Rr h m s) (hw : s.wf) (H : ∀ h', Rr h' m s → rfr h h' m → Q (.int (a_stored s)) h') : jj_C mX10_stored 0 0 [.ref m] h Q := by
  refine EX10_stored _ fun d => r_start R fun h1 R1 F1 => ?_
  have hh : jL h1 514 m 0 = s.here := R1.g.1.2.1
  rw [hh]
  refine s_distinct (tb := s.T) (w := true) R1.1 (fun p t hp ht hb => ?_) (R1.2.1 60 (Or.inr rfl)) fun h2 F2 => ?_
  · have hm := hw.2.2.1 p (by omega) hb
    exact ⟨R1.2.1 p (Or.inl hm) t ht, R1.2.2.1 p t hm ht⟩
  · exact H h2 (R1.df hw F2) (F1.trans F2.fr)
theorem r_shared {x y z : Int32} (R : Rr h m s) (hw : s.wf) (H : ∀ h', Rr h' m s → rfr h h' m → Q (.int (a_shared s x y z)) h') : jj_C mX10_shared 0 0 [.ref m, .int x, .int y, .int z] h Q := by
  refine EX10_shared _ _ _ _ fun d => r_start R fun h1 R1 F1 => ?_
  refine s_treeOf R1 hw (fun p t hp ht h2 R2 F2 T2 _ => ?_) (fun e => ?_)
  · obtain ⟨e0, ht3⟩ := lim_some (by decide) ht
    obtain ⟨hpl, hp6⟩ := pAt_lt hw hp
    refine ⟨R2.K, s_treeOf R2 hw (fun p' t' hp' ht' h3 R3 F3 T3 hs3 => ?_) (fun e => ?_)⟩
    · have ett : t' = t := by rw [ht] at ht'; exact (Option.some.inj ht').symm
      subst ett
      obtain ⟨hpl', hp6'⟩ := pAt_lt hw hp'
      have T4 : rTr h3 m (3 * p + t') (tree (s.T p t')) := by
        rcases hpl with q | q
        · exact R3.2.2.1 p t' q ht3
        · by_cases q' : p' = 60
          · rw [q]; rw [q'] at T3; exact T3
          · rw [hs3 q']; exact T2
      have HH := H h3 R3 (F1.trans (F2.trans F3))
      simp only [a_shared, trAt_some hp ht, trAt_some hp' ht] at HH
      have M3 := R3.1
      have hT := R3.2.1 p hpl t' ht3
      have hT' := R3.2.1 p' hpl' t' ht3
      have hl := (tree_len _ hT.2.1).1
      have hl' := (tree_len _ hT'.2.1).1
      have hc := T4.1.1
      have hc' := T3.1.1
      rw [e0]
      refine ⟨fun c => absurd c (neg_nI (by omega)), fun _ => ⟨fun _ => ?_, fun c => absurd (Int32.not_lt.mp (neg_nI (by omega))) c⟩⟩
      generalize hA : flat (tree (s.T p t')) = A at *
      generalize hB : flat (tree (s.T p' t')) = B at *
      have enk : nks (s.T p t') = A.map (nk (s.T p t')) := by unfold nks; rw [hA]
      have enk' : nks (s.T p' t') = B.map (nk (s.T p' t')) := by unfold nks; rw [hB]
      have cle : ∀ i, (((nks (s.T p t')).take i).countP (fun k => decide (k ∈ nks (s.T p' t')))) ≤ i := fun i => Nat.le_trans List.countP_le_length (by rw [List.length_take]; omega)
      have loop : ∀ r i, i + r = A.length → jj_WP d mX10_shared 0 0 40 [(0, .ref m), (3, .int (nI t')), (4, .int (nI p)), (5, .int (nI p')), (6, .int (nI (((nks (s.T p t')).take i).countP (fun k => decide (k ∈ nks (s.T p' t')))))), (7, .int (nI i))] [] h3 Q := by
        intro r
        induction r with
        | zero =>
          intro i hi
          refine VX10_shared_40 _ _ _ _ _ _ ?_
          simp (disch := omega) only [(rM_k M3), (rM_r501 M3), (rM_k1 M3), (rM_n1 M3), (rM_r502 M3), (rM_k2 M3), (rM_n2 M3), (rM_r503 M3), (rM_k3 M3), (rM_n3 M3), (rM_r504 M3), (rM_k4 M3), (rM_n4 M3), (rM_r505 M3), (rM_k5 M3), (rM_n5 M3), (rM_r506 M3), (rM_k6 M3), (rM_n6 M3), (rM_r507 M3), (rM_k7 M3), (rM_n7 M3), (rM_r508 M3), (rM_k8 M3), (rM_n8 M3), (rM_r509 M3), (rM_k9 M3), (rM_n9 M3), (rM_r510 M3), (rM_k10 M3), (rM_n10 M3), (rM_r511 M3), (rM_k11 M3), (rM_n11 M3), (rM_r512 M3), (rM_k12 M3), (rM_n12 M3), (rM_r515 M3), (rM_k13 M3), (rM_n13 M3), (rM_r516 M3), (rM_k14 M3), (rM_n14 M3), (rM_r517 M3), (rM_k15 M3), (rM_n15 M3), (rM_r518 M3), (rM_k16 M3), (rM_n16 M3), (rM_r524 M3), (rM_k17 M3), (rM_n17 M3), (rM_r525 M3), (rM_k18 M3), (rM_n18 M3), (rM_r526 M3), (rM_k19 M3), (rM_n19 M3), (rM_r528 M3), (rM_k20 M3), (rM_n20 M3), (rM_r529 M3), (rM_k21 M3), (rM_n21 M3), (rM_r531 M3), (rM_k22 M3), (rM_n22 M3), (rM_r532 M3), (rM_k23 M3), (rM_n23 M3), (rM_r533 M3), (rM_k24 M3), (rM_n24 M3), qm_3, qm_4, qm_16, qm_600, qm_200, qm_8, qn_210, qn_3, qa_0, qb_0, qa_1, qb_1, qa_2, qb_2, qa_3, qb_3, qa_4, qb_4, qa_16, qb_16, qa_180, qb_180, qs_1, qs_2, qs_3, qs_4, qs_6, qs_24, nI_add, q_sub, q_pred, q_clamp, q_in, nI_leI, nI_ltI, nI_eq, ql_0, qL_0, qt_0, qT_0, qe_0, qc_0, qi_0, ql_1, qL_1, qt_1, qT_1, qe_1, qc_1, qi_1, ql_2, qL_2, qt_2, qT_2, qe_2, qc_2, qi_2, ql_3, qL_3, qt_3, qT_3, qe_3, qc_3, qi_3, ql_4, qL_4, qt_4, qT_4, qe_4, qc_4, qi_4, ql_6, qL_6, qt_6, qT_6, qe_6, qc_6, qi_6, ql_8, qL_8, qt_8, qT_8, qe_8, qc_8, qi_8, ql_10, qL_10, qt_10, qT_10, qe_10, qc_10, qi_10, ql_24, qL_24, qt_24, qT_24, qe_24, qc_24, qi_24, ql_60, qL_60, qt_60, qT_60, qe_60, qc_60, qi_60, ql_100, qL_100, qt_100, qT_100, qe_100, qc_100, qi_100, ql_200, qL_200, qt_200, qT_200, qe_200, qc_200, qi_200, ql_400, qL_400, qt_400, qT_400, qe_400, qc_400, qi_400, ql_600, qL_600, qt_600, qT_600, qe_600, qc_600, qi_600, ql_900, qL_900, qt_900, qT_900, qe_900, qc_900, qi_900, ql_1200, qL_1200, qt_1200, qT_1200, qe_1200, qc_1200, qi_1200, ql_65536, qL_65536, qt_65536, qT_65536, qe_65536, qc_65536, qi_65536, hc, true_and, and_true, eq_self, forall_eq, forall_eq_apply_imp_iff]
          refine ⟨fun _ => ?_, fun c => by omega⟩
          rw [List.take_of_length_le (by rw [enk, List.length_map]; omega)]
          exact HH
        | succ r ih =>
          intro i hi
          have nxt := ih (i + 1) (by omega)
          obtain ⟨nd, e1⟩ : ∃ nd, A[i]? = some nd := ⟨_, List.getElem?_eq_getElem (by omega)⟩
          have e2 : (nks (s.T p t'))[i]? = some (nk (s.T p t') nd) := by rw [enk, List.getElem?_map, e1]; rfl
          have ec := cle i
          rw [List.take_add_one, e2, List.countP_append] at nxt
          simp only [Option.toList_some, List.countP_singleton, decide_eq_true_eq] at nxt
          refine VX10_shared_40 _ _ _ _ _ _ ?_
          simp (disch := omega) only [(rM_k M3), (rM_r501 M3), (rM_k1 M3), (rM_n1 M3), (rM_r502 M3), (rM_k2 M3), (rM_n2 M3), (rM_r503 M3), (rM_k3 M3), (rM_n3 M3), (rM_r504 M3), (rM_k4 M3), (rM_n4 M3), (rM_r505 M3), (rM_k5 M3), (rM_n5 M3), (rM_r506 M3), (rM_k6 M3), (rM_n6 M3), (rM_r507 M3), (rM_k7 M3), (rM_n7 M3), (rM_r508 M3), (rM_k8 M3), (rM_n8 M3), (rM_r509 M3), (rM_k9 M3), (rM_n9 M3), (rM_r510 M3), (rM_k10 M3), (rM_n10 M3), (rM_r511 M3), (rM_k11 M3), (rM_n11 M3), (rM_r512 M3), (rM_k12 M3), (rM_n12 M3), (rM_r515 M3), (rM_k13 M3), (rM_n13 M3), (rM_r516 M3), (rM_k14 M3), (rM_n14 M3), (rM_r517 M3), (rM_k15 M3), (rM_n15 M3), (rM_r518 M3), (rM_k16 M3), (rM_n16 M3), (rM_r524 M3), (rM_k17 M3), (rM_n17 M3), (rM_r525 M3), (rM_k18 M3), (rM_n18 M3), (rM_r526 M3), (rM_k19 M3), (rM_n19 M3), (rM_r528 M3), (rM_k20 M3), (rM_n20 M3), (rM_r529 M3), (rM_k21 M3), (rM_n21 M3), (rM_r531 M3), (rM_k22 M3), (rM_n22 M3), (rM_r532 M3), (rM_k23 M3), (rM_n23 M3), (rM_r533 M3), (rM_k24 M3), (rM_n24 M3), qm_3, qm_4, qm_16, qm_600, qm_200, qm_8, qn_210, qn_3, qa_0, qb_0, qa_1, qb_1, qa_2, qb_2, qa_3, qb_3, qa_4, qb_4, qa_16, qb_16, qa_180, qb_180, qs_1, qs_2, qs_3, qs_4, qs_6, qs_24, nI_add, q_sub, q_pred, q_clamp, q_in, nI_leI, nI_ltI, nI_eq, ql_0, qL_0, qt_0, qT_0, qe_0, qc_0, qi_0, ql_1, qL_1, qt_1, qT_1, qe_1, qc_1, qi_1, ql_2, qL_2, qt_2, qT_2, qe_2, qc_2, qi_2, ql_3, qL_3, qt_3, qT_3, qe_3, qc_3, qi_3, ql_4, qL_4, qt_4, qT_4, qe_4, qc_4, qi_4, ql_6, qL_6, qt_6, qT_6, qe_6, qc_6, qi_6, ql_8, qL_8, qt_8, qT_8, qe_8, qc_8, qi_8, ql_10, qL_10, qt_10, qT_10, qe_10, qc_10, qi_10, ql_24, qL_24, qt_24, qT_24, qe_24, qc_24, qi_24, ql_60, qL_60, qt_60, qT_60, qe_60, qc_60, qi_60, ql_100, qL_100, qt_100, qT_100, qe_100, qc_100, qi_100, ql_200, qL_200, qt_200, qT_200, qe_200, qc_200, qi_200, ql_400, qL_400, qt_400, qT_400, qe_400, qc_400, qi_400, ql_600, qL_600, qt_600, qT_600, qe_600, qc_600, qi_600, ql_900, qL_900, qt_900, qT_900, qe_900, qc_900, qi_900, ql_1200, qL_1200, qt_1200, qT_1200, qe_1200, qc_1200, qi_1200, ql_65536, qL_65536, qt_65536, qT_65536, qe_65536, qc_65536, qi_65536, hc, true_and, and_true, eq_self, forall_eq, forall_eq_apply_imp_iff]
          refine ⟨fun c => by omega, fun _ => ?_⟩
          have N1 := rTr.no (s := p) hp6 ht3 hT T4 (by rw [hA]; exact e1)
          have inner : ∀ r j, j + r = B.length → (∀ q nd', q < j → B[q]? = some nd' → nk (s.T p t') nd ≠ nk (s.T p' t') nd') → jj_WP d mX10_shared 0 0 62 [(0, .ref m), (3, .int (nI t')), (4, .int (nI p)), (5, .int (nI p')), (6, .int (nI (((nks (s.T p t')).take i).countP (fun k => decide (k ∈ nks (s.T p' t')))))), (7, .int (nI i)), (8, .int 0), (9, .int (nI j))] [] h3 Q := by
            intro r
            induction r with
            | zero =>
              intro j hj lo
              refine VX10_shared_62 _ _ _ _ _ _ _ _ ?_
              simp (disch := omega) only [(rM_k M3), (rM_r501 M3), (rM_k1 M3), (rM_n1 M3), (rM_r502 M3), (rM_k2 M3), (rM_n2 M3), (rM_r503 M3), (rM_k3 M3), (rM_n3 M3), (rM_r504 M3), (rM_k4 M3), (rM_n4 M3), (rM_r505 M3), (rM_k5 M3), (rM_n5 M3), (rM_r506 M3), (rM_k6 M3), (rM_n6 M3), (rM_r507 M3), (rM_k7 M3), (rM_n7 M3), (rM_r508 M3), (rM_k8 M3), (rM_n8 M3), (rM_r509 M3), (rM_k9 M3), (rM_n9 M3), (rM_r510 M3), (rM_k10 M3), (rM_n10 M3), (rM_r511 M3), (rM_k11 M3), (rM_n11 M3), (rM_r512 M3), (rM_k12 M3), (rM_n12 M3), (rM_r515 M3), (rM_k13 M3), (rM_n13 M3), (rM_r516 M3), (rM_k14 M3), (rM_n14 M3), (rM_r517 M3), (rM_k15 M3), (rM_n15 M3), (rM_r518 M3), (rM_k16 M3), (rM_n16 M3), (rM_r524 M3), (rM_k17 M3), (rM_n17 M3), (rM_r525 M3), (rM_k18 M3), (rM_n18 M3), (rM_r526 M3), (rM_k19 M3), (rM_n19 M3), (rM_r528 M3), (rM_k20 M3), (rM_n20 M3), (rM_r529 M3), (rM_k21 M3), (rM_n21 M3), (rM_r531 M3), (rM_k22 M3), (rM_n22 M3), (rM_r532 M3), (rM_k23 M3), (rM_n23 M3), (rM_r533 M3), (rM_k24 M3), (rM_n24 M3), qm_3, qm_4, qm_16, qm_600, qm_200, qm_8, qn_210, qn_3, qa_0, qb_0, qa_1, qb_1, qa_2, qb_2, qa_3, qb_3, qa_4, qb_4, qa_16, qb_16, qa_180, qb_180, qs_1, qs_2, qs_3, qs_4, qs_6, qs_24, nI_add, q_sub, q_pred, q_clamp, q_in, nI_leI, nI_ltI, nI_eq, ql_0, qL_0, qt_0, qT_0, qe_0, qc_0, qi_0, ql_1, qL_1, qt_1, qT_1, qe_1, qc_1, qi_1, ql_2, qL_2, qt_2, qT_2, qe_2, qc_2, qi_2, ql_3, qL_3, qt_3, qT_3, qe_3, qc_3, qi_3, ql_4, qL_4, qt_4, qT_4, qe_4, qc_4, qi_4, ql_6, qL_6, qt_6, qT_6, qe_6, qc_6, qi_6, ql_8, qL_8, qt_8, qT_8, qe_8, qc_8, qi_8, ql_10, qL_10, qt_10, qT_10, qe_10, qc_10, qi_10, ql_24, qL_24, qt_24, qT_24, qe_24, qc_24, qi_24, ql_60, qL_60, qt_60, qT_60, qe_60, qc_60, qi_60, ql_100, qL_100, qt_100, qT_100, qe_100, qc_100, qi_100, ql_200, qL_200, qt_200, qT_200, qe_200, qc_200, qi_200, ql_400, qL_400, qt_400, qT_400, qe_400, qc_400, qi_400, ql_600, qL_600, qt_600, qT_600, qe_600, qc_600, qi_600, ql_900, qL_900, qt_900, qT_900, qe_900, qc_900, qi_900, ql_1200, qL_1200, qt_1200, qT_1200, qe_1200, qc_1200, qi_1200, ql_65536, qL_65536, qt_65536, qT_65536, qe_65536, qc_65536, qi_65536, hc', true_and, and_true, eq_self, forall_eq, forall_eq_apply_imp_iff]
              refine ⟨fun _ => ⟨fun _ => ?_, fun c => absurd trivial c⟩, fun c => by omega⟩
              rw [if_neg] at nxt
              · exact nxt
              · rw [enk']
                intro q
                obtain ⟨nd', q1, q2⟩ := List.mem_map.mp q
                obtain ⟨k, q3⟩ := List.getElem?_of_mem q1
                exact lo k nd' (by have := (List.getElem?_eq_some_iff.mp q3).1; omega) q3 q2.symm
            | succ r ihj =>
              intro j hj lo
              obtain ⟨nd', e3⟩ : ∃ nd', B[j]? = some nd' := ⟨_, List.getElem?_eq_getElem (by omega)⟩
              have N2 := rTr.no (s := p') hp6' ht3 hT' T3 (by rw [hB]; exact e3)
              refine VX10_shared_62 _ _ _ _ _ _ _ _ ?_
              simp (disch := omega) only [(rM_k M3), (rM_r501 M3), (rM_k1 M3), (rM_n1 M3), (rM_r502 M3), (rM_k2 M3), (rM_n2 M3), (rM_r503 M3), (rM_k3 M3), (rM_n3 M3), (rM_r504 M3), (rM_k4 M3), (rM_n4 M3), (rM_r505 M3), (rM_k5 M3), (rM_n5 M3), (rM_r506 M3), (rM_k6 M3), (rM_n6 M3), (rM_r507 M3), (rM_k7 M3), (rM_n7 M3), (rM_r508 M3), (rM_k8 M3), (rM_n8 M3), (rM_r509 M3), (rM_k9 M3), (rM_n9 M3), (rM_r510 M3), (rM_k10 M3), (rM_n10 M3), (rM_r511 M3), (rM_k11 M3), (rM_n11 M3), (rM_r512 M3), (rM_k12 M3), (rM_n12 M3), (rM_r515 M3), (rM_k13 M3), (rM_n13 M3), (rM_r516 M3), (rM_k14 M3), (rM_n14 M3), (rM_r517 M3), (rM_k15 M3), (rM_n15 M3), (rM_r518 M3), (rM_k16 M3), (rM_n16 M3), (rM_r524 M3), (rM_k17 M3), (rM_n17 M3), (rM_r525 M3), (rM_k18 M3), (rM_n18 M3), (rM_r526 M3), (rM_k19 M3), (rM_n19 M3), (rM_r528 M3), (rM_k20 M3), (rM_n20 M3), (rM_r529 M3), (rM_k21 M3), (rM_n21 M3), (rM_r531 M3), (rM_k22 M3), (rM_n22 M3), (rM_r532 M3), (rM_k23 M3), (rM_n23 M3), (rM_r533 M3), (rM_k24 M3), (rM_n24 M3), qm_3, qm_4, qm_16, qm_600, qm_200, qm_8, qn_210, qn_3, qa_0, qb_0, qa_1, qb_1, qa_2, qb_2, qa_3, qb_3, qa_4, qb_4, qa_16, qb_16, qa_180, qb_180, qs_1, qs_2, qs_3, qs_4, qs_6, qs_24, nI_add, q_sub, q_pred, q_clamp, q_in, nI_leI, nI_ltI, nI_eq, ql_0, qL_0, qt_0, qT_0, qe_0, qc_0, qi_0, ql_1, qL_1, qt_1, qT_1, qe_1, qc_1, qi_1, ql_2, qL_2, qt_2, qT_2, qe_2, qc_2, qi_2, ql_3, qL_3, qt_3, qT_3, qe_3, qc_3, qi_3, ql_4, qL_4, qt_4, qT_4, qe_4, qc_4, qi_4, ql_6, qL_6, qt_6, qT_6, qe_6, qc_6, qi_6, ql_8, qL_8, qt_8, qT_8, qe_8, qc_8, qi_8, ql_10, qL_10, qt_10, qT_10, qe_10, qc_10, qi_10, ql_24, qL_24, qt_24, qT_24, qe_24, qc_24, qi_24, ql_60, qL_60, qt_60, qT_60, qe_60, qc_60, qi_60, ql_100, qL_100, qt_100, qT_100, qe_100, qc_100, qi_100, ql_200, qL_200, qt_200, qT_200, qe_200, qc_200, qi_200, ql_400, qL_400, qt_400, qT_400, qe_400, qc_400, qi_400, ql_600, qL_600, qt_600, qT_600, qe_600, qc_600, qi_600, ql_900, qL_900, qt_900, qT_900, qe_900, qc_900, qi_900, ql_1200, qL_1200, qt_1200, qT_1200, qe_1200, qc_1200, qi_1200, ql_65536, qL_65536, qt_65536, qT_65536, qe_65536, qc_65536, qi_65536, hc', true_and, and_true, eq_self, forall_eq, forall_eq_apply_imp_iff]
              refine ⟨fun c => by omega, fun _ => ⟨fun c => absurd trivial c, fun _ => s_areSame M3 N1 N2 ?_⟩⟩
              by_cases ek : nk (s.T p t') nd = nk (s.T p' t') nd'
              · rw [if_pos ek]
                rw [if_pos (by rw [enk', ek]; exact List.mem_map.mpr ⟨nd', List.mem_of_getElem? e3, rfl⟩)] at nxt
                refine VX10_shared_62 _ _ _ _ _ _ _ _ ?_
                simp (disch := omega) only [(rM_k M3), (rM_r501 M3), (rM_k1 M3), (rM_n1 M3), (rM_r502 M3), (rM_k2 M3), (rM_n2 M3), (rM_r503 M3), (rM_k3 M3), (rM_n3 M3), (rM_r504 M3), (rM_k4 M3), (rM_n4 M3), (rM_r505 M3), (rM_k5 M3), (rM_n5 M3), (rM_r506 M3), (rM_k6 M3), (rM_n6 M3), (rM_r507 M3), (rM_k7 M3), (rM_n7 M3), (rM_r508 M3), (rM_k8 M3), (rM_n8 M3), (rM_r509 M3), (rM_k9 M3), (rM_n9 M3), (rM_r510 M3), (rM_k10 M3), (rM_n10 M3), (rM_r511 M3), (rM_k11 M3), (rM_n11 M3), (rM_r512 M3), (rM_k12 M3), (rM_n12 M3), (rM_r515 M3), (rM_k13 M3), (rM_n13 M3), (rM_r516 M3), (rM_k14 M3), (rM_n14 M3), (rM_r517 M3), (rM_k15 M3), (rM_n15 M3), (rM_r518 M3), (rM_k16 M3), (rM_n16 M3), (rM_r524 M3), (rM_k17 M3), (rM_n17 M3), (rM_r525 M3), (rM_k18 M3), (rM_n18 M3), (rM_r526 M3), (rM_k19 M3), (rM_n19 M3), (rM_r528 M3), (rM_k20 M3), (rM_n20 M3), (rM_r529 M3), (rM_k21 M3), (rM_n21 M3), (rM_r531 M3), (rM_k22 M3), (rM_n22 M3), (rM_r532 M3), (rM_k23 M3), (rM_n23 M3), (rM_r533 M3), (rM_k24 M3), (rM_n24 M3), qm_3, qm_4, qm_16, qm_600, qm_200, qm_8, qn_210, qn_3, qa_0, qb_0, qa_1, qb_1, qa_2, qb_2, qa_3, qb_3, qa_4, qb_4, qa_16, qb_16, qa_180, qb_180, qs_1, qs_2, qs_3, qs_4, qs_6, qs_24, nI_add, q_sub, q_pred, q_clamp, q_in, nI_leI, nI_ltI, nI_eq, ql_0, qL_0, qt_0, qT_0, qe_0, qc_0, qi_0, ql_1, qL_1, qt_1, qT_1, qe_1, qc_1, qi_1, ql_2, qL_2, qt_2, qT_2, qe_2, qc_2, qi_2, ql_3, qL_3, qt_3, qT_3, qe_3, qc_3, qi_3, ql_4, qL_4, qt_4, qT_4, qe_4, qc_4, qi_4, ql_6, qL_6, qt_6, qT_6, qe_6, qc_6, qi_6, ql_8, qL_8, qt_8, qT_8, qe_8, qc_8, qi_8, ql_10, qL_10, qt_10, qT_10, qe_10, qc_10, qi_10, ql_24, qL_24, qt_24, qT_24, qe_24, qc_24, qi_24, ql_60, qL_60, qt_60, qT_60, qe_60, qc_60, qi_60, ql_100, qL_100, qt_100, qT_100, qe_100, qc_100, qi_100, ql_200, qL_200, qt_200, qT_200, qe_200, qc_200, qi_200, ql_400, qL_400, qt_400, qT_400, qe_400, qc_400, qi_400, ql_600, qL_600, qt_600, qT_600, qe_600, qc_600, qi_600, ql_900, qL_900, qt_900, qT_900, qe_900, qc_900, qi_900, ql_1200, qL_1200, qt_1200, qT_1200, qe_1200, qc_1200, qi_1200, ql_65536, qL_65536, qt_65536, qT_65536, qe_65536, qc_65536, qi_65536, hc', true_and, and_true, eq_self, forall_eq, forall_eq_apply_imp_iff]
                exact ⟨fun _ => ⟨fun c => absurd c (by decide), fun _ => nxt⟩, fun _ => ⟨fun _ => ⟨fun c => absurd c (by decide), fun _ => nxt⟩, fun c => absurd c (by decide)⟩⟩
              · rw [if_neg ek]
                refine ihj (j + 1) (by omega) fun q nd2 hq e5 => ?_
                by_cases qe : q = j
                · rw [qe, e3] at e5; cases e5; exact ek
                · exact lo q nd2 (by omega) e5
          exact inner _ 0 (Nat.zero_add _) (fun q nd' hq => by omega)
      exact loop _ 0 (Nat.zero_add _)
    · have HH := H h2 R2 (F1.trans F2)
      simp only [a_shared, e, trAt_some hp ht] at HH
      exact ⟨fun c => absurd c (neg_nI (by omega)), fun _ => ⟨fun c => absurd c (by decide), fun _ => HH⟩⟩
  · refine ⟨R1.K, s_treeOf R1 hw (fun p' t' hp' ht' h3 R3 F3 T3 hs3 => ?_) (fun e2 => ?_)⟩
    · have HH := H h3 R3 (F1.trans F3)
      simp only [a_shared, e] at HH
      exact ⟨fun _ => HH, fun c => absurd (by decide) c⟩
    · have HH := H h1 R1 F1
      simp only [a_shared, e] at HH
      exact ⟨fun _ => HH, fun c => absurd (by decide) c⟩
end JP3
