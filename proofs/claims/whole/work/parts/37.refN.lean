/-! the reference: nodes found, nodes compared -/
theorem qd_210 {a : Nat} (h : a < 2147483648) : nI a / (210 : Int32) = nI (a / 210) := pk_div (d := 210) h (by decide) (by decide)
theorem qd_3 {a : Nat} (h : a < 2147483648) : nI a / (3 : Int32) = nI (a / 3) := pk_div (d := 3) h (by decide) (by decide)
def fnd : List Nd → Nat → Nat → Nat → Option Nat
  | [], _, _, _ => none
  | nd :: r, lv, i, p => if nd.1 = lv then (if i = 0 then some p else fnd r lv (i - 1) (p + 1)) else fnd r lv i (p + 1)
theorem s_nodeAt {m s t lv i : Nat} {all : List Nd} {h : jj_H} {Q : Value → jj_H → Prop} (M : rM h m) (hs : s < 61) (ht : t < 3) (hlv : lv < 2147483648) (hi : i < 2147483648) (A : rAll h m (3 * s + t) all) (hall : all.length ≤ 210) (hal : ∀ nd ∈ all, nd.1 < 2147483648) (H1 : ∀ p, fnd all lv i 0 = some p → Q (.int (nI ((3 * s + t) * 210 + p))) h) (H0 : fnd all lv i 0 = none → Q (.int (-1)) h) : jj_C mX10_nodeAt 0 0 [.ref m, .int (nI s), .int (nI t), .int (nI lv), .int (nI i)] h Q := by
  refine EX10_nodeAt _ _ _ _ _ fun d => ?_
  have hc := A.1
  simp (disch := omega) only [qm_3, qm_4, qm_16, qm_600, qm_200, qm_8, qn_210, qn_3, qa_0, qb_0, qa_1, qb_1, qa_2, qb_2, qa_3, qb_3, qa_4, qb_4, qa_16, qb_16, qa_180, qb_180, qs_1, qs_2, qs_3, qs_4, qs_6, qs_24, nI_add, q_sub, q_pred]
  have loop : ∀ (r : List Nd) (p j : Nat), j ≤ i → all.drop p = r → p + r.length = all.length → fnd r lv j p = fnd all lv i 0 → jj_WP d mX10_nodeAt 0 0 18 [(0, .ref m), (1, .int (nI s)), (2, .int (nI t)), (3, .int (nI lv)), (5, .int (nI ((3 * s + t) * 210))), (6, .int (nI j)), (7, .int (nI p))] [] h Q := by
    intro r
    induction r with
    | nil =>
      intro p j hj hr hl he
      simp only [List.length_nil] at hl
      refine VX10_nodeAt_18 _ _ _ _ _ _ _ ?_
      simp (disch := omega) only [(rM_k M), (rM_r501 M), (rM_k1 M), (rM_n1 M), (rM_r502 M), (rM_k2 M), (rM_n2 M), (rM_r503 M), (rM_k3 M), (rM_n3 M), (rM_r504 M), (rM_k4 M), (rM_n4 M), (rM_r505 M), (rM_k5 M), (rM_n5 M), (rM_r506 M), (rM_k6 M), (rM_n6 M), (rM_r507 M), (rM_k7 M), (rM_n7 M), (rM_r508 M), (rM_k8 M), (rM_n8 M), (rM_r509 M), (rM_k9 M), (rM_n9 M), (rM_r510 M), (rM_k10 M), (rM_n10 M), (rM_r511 M), (rM_k11 M), (rM_n11 M), (rM_r512 M), (rM_k12 M), (rM_n12 M), (rM_r515 M), (rM_k13 M), (rM_n13 M), (rM_r516 M), (rM_k14 M), (rM_n14 M), (rM_r517 M), (rM_k15 M), (rM_n15 M), (rM_r518 M), (rM_k16 M), (rM_n16 M), (rM_r524 M), (rM_k17 M), (rM_n17 M), (rM_r525 M), (rM_k18 M), (rM_n18 M), (rM_r526 M), (rM_k19 M), (rM_n19 M), (rM_r528 M), (rM_k20 M), (rM_n20 M), (rM_r529 M), (rM_k21 M), (rM_n21 M), (rM_r531 M), (rM_k22 M), (rM_n22 M), (rM_r532 M), (rM_k23 M), (rM_n23 M), (rM_r533 M), (rM_k24 M), (rM_n24 M), qm_3, qm_4, qm_16, qm_600, qm_200, qm_8, qn_210, qn_3, qa_0, qb_0, qa_1, qb_1, qa_2, qb_2, qa_3, qb_3, qa_4, qb_4, qa_16, qb_16, qa_180, qb_180, qs_1, qs_2, qs_3, qs_4, qs_6, qs_24, nI_add, q_sub, q_pred, q_clamp, q_in, nI_leI, nI_ltI, nI_eq, ql_0, qL_0, qt_0, qT_0, qe_0, qc_0, qi_0, ql_1, qL_1, qt_1, qT_1, qe_1, qc_1, qi_1, ql_2, qL_2, qt_2, qT_2, qe_2, qc_2, qi_2, ql_3, qL_3, qt_3, qT_3, qe_3, qc_3, qi_3, ql_4, qL_4, qt_4, qT_4, qe_4, qc_4, qi_4, ql_6, qL_6, qt_6, qT_6, qe_6, qc_6, qi_6, ql_8, qL_8, qt_8, qT_8, qe_8, qc_8, qi_8, ql_10, qL_10, qt_10, qT_10, qe_10, qc_10, qi_10, ql_24, qL_24, qt_24, qT_24, qe_24, qc_24, qi_24, ql_60, qL_60, qt_60, qT_60, qe_60, qc_60, qi_60, ql_100, qL_100, qt_100, qT_100, qe_100, qc_100, qi_100, ql_200, qL_200, qt_200, qT_200, qe_200, qc_200, qi_200, ql_400, qL_400, qt_400, qT_400, qe_400, qc_400, qi_400, ql_600, qL_600, qt_600, qT_600, qe_600, qc_600, qi_600, ql_900, qL_900, qt_900, qT_900, qe_900, qc_900, qi_900, ql_1200, qL_1200, qt_1200, qT_1200, qe_1200, qc_1200, qi_1200, ql_65536, qL_65536, qt_65536, qT_65536, qe_65536, qc_65536, qi_65536, hc, true_and, and_true, eq_self, forall_eq, forall_eq_apply_imp_iff]
      refine ⟨fun _ => H0 (by rw [← he]; rfl), fun c => by omega⟩
    | cons nd r ih =>
      intro p j hj hr hl he
      simp only [List.length_cons] at hl
      have e1 : all[p]? = some nd := by
        have := List.getElem?_drop (xs := all) (i := p) (j := 0)
        rw [hr] at this
        simpa using this.symm
      have hnd : nd.1 < 2147483648 := hal nd (List.mem_of_getElem? e1)
      have hr2 : all.drop (p + 1) = r := by rw [← List.drop_drop, hr]; rfl
      have n1 := (A.2 p nd e1).1
      refine VX10_nodeAt_18 _ _ _ _ _ _ _ ?_
      simp (disch := omega) only [(rM_k M), (rM_r501 M), (rM_k1 M), (rM_n1 M), (rM_r502 M), (rM_k2 M), (rM_n2 M), (rM_r503 M), (rM_k3 M), (rM_n3 M), (rM_r504 M), (rM_k4 M), (rM_n4 M), (rM_r505 M), (rM_k5 M), (rM_n5 M), (rM_r506 M), (rM_k6 M), (rM_n6 M), (rM_r507 M), (rM_k7 M), (rM_n7 M), (rM_r508 M), (rM_k8 M), (rM_n8 M), (rM_r509 M), (rM_k9 M), (rM_n9 M), (rM_r510 M), (rM_k10 M), (rM_n10 M), (rM_r511 M), (rM_k11 M), (rM_n11 M), (rM_r512 M), (rM_k12 M), (rM_n12 M), (rM_r515 M), (rM_k13 M), (rM_n13 M), (rM_r516 M), (rM_k14 M), (rM_n14 M), (rM_r517 M), (rM_k15 M), (rM_n15 M), (rM_r518 M), (rM_k16 M), (rM_n16 M), (rM_r524 M), (rM_k17 M), (rM_n17 M), (rM_r525 M), (rM_k18 M), (rM_n18 M), (rM_r526 M), (rM_k19 M), (rM_n19 M), (rM_r528 M), (rM_k20 M), (rM_n20 M), (rM_r529 M), (rM_k21 M), (rM_n21 M), (rM_r531 M), (rM_k22 M), (rM_n22 M), (rM_r532 M), (rM_k23 M), (rM_n23 M), (rM_r533 M), (rM_k24 M), (rM_n24 M), qm_3, qm_4, qm_16, qm_600, qm_200, qm_8, qn_210, qn_3, qa_0, qb_0, qa_1, qb_1, qa_2, qb_2, qa_3, qb_3, qa_4, qb_4, qa_16, qb_16, qa_180, qb_180, qs_1, qs_2, qs_3, qs_4, qs_6, qs_24, nI_add, q_sub, q_pred, q_clamp, q_in, nI_leI, nI_ltI, nI_eq, ql_0, qL_0, qt_0, qT_0, qe_0, qc_0, qi_0, ql_1, qL_1, qt_1, qT_1, qe_1, qc_1, qi_1, ql_2, qL_2, qt_2, qT_2, qe_2, qc_2, qi_2, ql_3, qL_3, qt_3, qT_3, qe_3, qc_3, qi_3, ql_4, qL_4, qt_4, qT_4, qe_4, qc_4, qi_4, ql_6, qL_6, qt_6, qT_6, qe_6, qc_6, qi_6, ql_8, qL_8, qt_8, qT_8, qe_8, qc_8, qi_8, ql_10, qL_10, qt_10, qT_10, qe_10, qc_10, qi_10, ql_24, qL_24, qt_24, qT_24, qe_24, qc_24, qi_24, ql_60, qL_60, qt_60, qT_60, qe_60, qc_60, qi_60, ql_100, qL_100, qt_100, qT_100, qe_100, qc_100, qi_100, ql_200, qL_200, qt_200, qT_200, qe_200, qc_200, qi_200, ql_400, qL_400, qt_400, qT_400, qe_400, qc_400, qi_400, ql_600, qL_600, qt_600, qT_600, qe_600, qc_600, qi_600, ql_900, qL_900, qt_900, qT_900, qe_900, qc_900, qi_900, ql_1200, qL_1200, qt_1200, qT_1200, qe_1200, qc_1200, qi_1200, ql_65536, qL_65536, qt_65536, qT_65536, qe_65536, qc_65536, qi_65536, hc, n1, true_and, and_true, eq_self, forall_eq, forall_eq_apply_imp_iff]
      refine ⟨fun c => by omega, fun _ => ⟨fun c => ih (p + 1) j hj hr2 (by omega) (by rw [← he, fnd, if_neg c]), fun c => ⟨fun c2 => ?_, fun c2 => H1 p (by rw [← he, fnd, if_pos c, if_pos c2])⟩⟩⟩
      rw [q_pred (by omega)]
      exact ih (p + 1) (j - 1) (by omega) hr2 (by omega) (by rw [← he, fnd, if_pos c, if_neg c2])
  exact loop all 0 i (Nat.le_refl _) rfl (by omega) rfl
/-- what a node is known by -/
abbrev NK : Type := Nat × Int64 × List Row
def nk (l : List Row) (nd : Nd) : NK := (nd.1, nd.2.2.2.2, (l.drop nd.2.2.1).take nd.2.2.2.1)
/-- a node of the reference, its rows -/
def rNo (h : jj_H) (m g : Nat) (l : List Row) (nd : Nd) : Prop := g / 210 < 183 ∧ rNd h m g nd ∧ rTb h m (g / 210 / 3) (g / 210 % 3) l ∧ nd.2.2.1 + nd.2.2.2.1 ≤ l.length ∧ nd.1 < 1000
theorem s_lastRow {m g : Nat} {l : List Row} {nd : Nd} {h : jj_H} {Q : Value → jj_H → Prop} (M : rM h m) (N : rNo h m g l nd) (H : Q (.int (nI (600 * (g / 210 / 3) + 200 * (g / 210 % 3) + nd.2.2.1 + nd.2.2.2.1) - 1)) h) : jj_C mX10_lastRow 0 0 [.ref m, .int (nI g)] h Q := by
  refine EX10_lastRow _ _ fun d => ?_
  obtain ⟨a, ⟨n1, n2, n3, n4, n5⟩, T, c, _⟩ := N
  have hn := T.2.1
  have hg : g < 38430 := by omega
  simp (disch := omega) only [(rM_k M), (rM_r501 M), (rM_k1 M), (rM_n1 M), (rM_r502 M), (rM_k2 M), (rM_n2 M), (rM_r503 M), (rM_k3 M), (rM_n3 M), (rM_r504 M), (rM_k4 M), (rM_n4 M), (rM_r505 M), (rM_k5 M), (rM_n5 M), (rM_r506 M), (rM_k6 M), (rM_n6 M), (rM_r507 M), (rM_k7 M), (rM_n7 M), (rM_r508 M), (rM_k8 M), (rM_n8 M), (rM_r509 M), (rM_k9 M), (rM_n9 M), (rM_r510 M), (rM_k10 M), (rM_n10 M), (rM_r511 M), (rM_k11 M), (rM_n11 M), (rM_r512 M), (rM_k12 M), (rM_n12 M), (rM_r515 M), (rM_k13 M), (rM_n13 M), (rM_r516 M), (rM_k14 M), (rM_n14 M), (rM_r517 M), (rM_k15 M), (rM_n15 M), (rM_r518 M), (rM_k16 M), (rM_n16 M), (rM_r524 M), (rM_k17 M), (rM_n17 M), (rM_r525 M), (rM_k18 M), (rM_n18 M), (rM_r526 M), (rM_k19 M), (rM_n19 M), (rM_r528 M), (rM_k20 M), (rM_n20 M), (rM_r529 M), (rM_k21 M), (rM_n21 M), (rM_r531 M), (rM_k22 M), (rM_n22 M), (rM_r532 M), (rM_k23 M), (rM_n23 M), (rM_r533 M), (rM_k24 M), (rM_n24 M), qd_210, qd_3, qm_3, qm_4, qm_16, qm_600, qm_200, qm_8, qn_210, qn_3, qa_0, qb_0, qa_1, qb_1, qa_2, qb_2, qa_3, qb_3, qa_4, qb_4, qa_16, qb_16, qa_180, qb_180, qs_1, qs_2, qs_3, qs_4, qs_6, qs_24, nI_add, q_sub, q_pred, q_clamp, q_in, nI_leI, nI_ltI, nI_eq, ql_0, qL_0, qt_0, qT_0, qe_0, qc_0, qi_0, ql_1, qL_1, qt_1, qT_1, qe_1, qc_1, qi_1, ql_2, qL_2, qt_2, qT_2, qe_2, qc_2, qi_2, ql_3, qL_3, qt_3, qT_3, qe_3, qc_3, qi_3, ql_4, qL_4, qt_4, qT_4, qe_4, qc_4, qi_4, ql_6, qL_6, qt_6, qT_6, qe_6, qc_6, qi_6, ql_8, qL_8, qt_8, qT_8, qe_8, qc_8, qi_8, ql_10, qL_10, qt_10, qT_10, qe_10, qc_10, qi_10, ql_24, qL_24, qt_24, qT_24, qe_24, qc_24, qi_24, ql_60, qL_60, qt_60, qT_60, qe_60, qc_60, qi_60, ql_100, qL_100, qt_100, qT_100, qe_100, qc_100, qi_100, ql_200, qL_200, qt_200, qT_200, qe_200, qc_200, qi_200, ql_400, qL_400, qt_400, qT_400, qe_400, qc_400, qi_400, ql_600, qL_600, qt_600, qT_600, qe_600, qc_600, qi_600, ql_900, qL_900, qt_900, qT_900, qe_900, qc_900, qi_900, ql_1200, qL_1200, qt_1200, qT_1200, qe_1200, qc_1200, qi_1200, ql_65536, qL_65536, qt_65536, qT_65536, qe_65536, qc_65536, qi_65536, n3, n4, true_and, and_true, eq_self, forall_eq, forall_eq_apply_imp_iff]
  rw [show g / 210 - g / 210 / 3 * 3 = g / 210 % 3 by omega]
  exact H
theorem s_areSame {m g g' : Nat} {l l' : List Row} {nd nd' : Nd} {h : jj_H} {Q : Value → jj_H → Prop} (M : rM h m) (N : rNo h m g l nd) (N' : rNo h m g' l' nd') (H : Q (.int (if nk l nd = nk l' nd' then 1 else 0)) h) : jj_C mX10_areSame 0 0 [.ref m, .int (nI g), .int (nI g')] h Q := by
  refine EX10_areSame _ _ _ fun d => ?_
  obtain ⟨a, ⟨n1, n2, n3, n4, n5⟩, T, c, v⟩ := id N
  obtain ⟨a', ⟨n1', n2', n3', n4', n5'⟩, T', c', v'⟩ := id N'
  have hn := T.2.1
  have hn' := T'.2.1
  have hg : g < 38430 := by omega
  have hg' : g' < 38430 := by omega
  have no : nk l nd ≠ nk l' nd' → Q (.int 0) h := fun q => by rw [if_neg q] at H; exact H
  have z : ∀ (x y : Int32), nk l nd ≠ nk l' nd' → jj_WP d mX10_areSame 0 0 69 [(0, .ref m), (1, .int (nI g)), (3, .int 0), (4, .int x), (5, .int y), (6, .int 0)] [] h Q := fun x y q => VX10_areSame_69 _ _ _ _ _ _ ⟨fun _ => ⟨Or.inl rfl, no q⟩, fun c => absurd rfl c⟩
  have hlen : (nk l nd).2.2.length = nd.2.2.2.1 := by simp [nk]; omega
  have hlen' : (nk l' nd').2.2.length = nd'.2.2.2.1 := by simp [nk]; omega
  have hge : ∀ j, j < nd.2.2.2.1 → (nk l nd).2.2[j]? = l[nd.2.2.1 + j]? := fun j hj => by simp [nk, List.getElem?_take, hj, List.getElem?_drop]
  have hge' : ∀ j, j < nd'.2.2.2.1 → (nk l' nd').2.2[j]? = l'[nd'.2.2.1 + j]? := fun j hj => by simp [nk, List.getElem?_take, hj, List.getElem?_drop]
  simp (disch := omega) only [(rM_k M), (rM_r501 M), (rM_k1 M), (rM_n1 M), (rM_r502 M), (rM_k2 M), (rM_n2 M), (rM_r503 M), (rM_k3 M), (rM_n3 M), (rM_r504 M), (rM_k4 M), (rM_n4 M), (rM_r505 M), (rM_k5 M), (rM_n5 M), (rM_r506 M), (rM_k6 M), (rM_n6 M), (rM_r507 M), (rM_k7 M), (rM_n7 M), (rM_r508 M), (rM_k8 M), (rM_n8 M), (rM_r509 M), (rM_k9 M), (rM_n9 M), (rM_r510 M), (rM_k10 M), (rM_n10 M), (rM_r511 M), (rM_k11 M), (rM_n11 M), (rM_r512 M), (rM_k12 M), (rM_n12 M), (rM_r515 M), (rM_k13 M), (rM_n13 M), (rM_r516 M), (rM_k14 M), (rM_n14 M), (rM_r517 M), (rM_k15 M), (rM_n15 M), (rM_r518 M), (rM_k16 M), (rM_n16 M), (rM_r524 M), (rM_k17 M), (rM_n17 M), (rM_r525 M), (rM_k18 M), (rM_n18 M), (rM_r526 M), (rM_k19 M), (rM_n19 M), (rM_r528 M), (rM_k20 M), (rM_n20 M), (rM_r529 M), (rM_k21 M), (rM_n21 M), (rM_r531 M), (rM_k22 M), (rM_n22 M), (rM_r532 M), (rM_k23 M), (rM_n23 M), (rM_r533 M), (rM_k24 M), (rM_n24 M), qm_3, qm_4, qm_16, qm_600, qm_200, qm_8, qn_210, qn_3, qa_0, qb_0, qa_1, qb_1, qa_2, qb_2, qa_3, qb_3, qa_4, qb_4, qa_16, qb_16, qa_180, qb_180, qs_1, qs_2, qs_3, qs_4, qs_6, qs_24, nI_add, q_sub, q_pred, q_clamp, q_in, nI_leI, nI_ltI, nI_eq, ql_0, qL_0, qt_0, qT_0, qe_0, qc_0, qi_0, ql_1, qL_1, qt_1, qT_1, qe_1, qc_1, qi_1, ql_2, qL_2, qt_2, qT_2, qe_2, qc_2, qi_2, ql_3, qL_3, qt_3, qT_3, qe_3, qc_3, qi_3, ql_4, qL_4, qt_4, qT_4, qe_4, qc_4, qi_4, ql_6, qL_6, qt_6, qT_6, qe_6, qc_6, qi_6, ql_8, qL_8, qt_8, qT_8, qe_8, qc_8, qi_8, ql_10, qL_10, qt_10, qT_10, qe_10, qc_10, qi_10, ql_24, qL_24, qt_24, qT_24, qe_24, qc_24, qi_24, ql_60, qL_60, qt_60, qT_60, qe_60, qc_60, qi_60, ql_100, qL_100, qt_100, qT_100, qe_100, qc_100, qi_100, ql_200, qL_200, qt_200, qT_200, qe_200, qc_200, qi_200, ql_400, qL_400, qt_400, qT_400, qe_400, qc_400, qi_400, ql_600, qL_600, qt_600, qT_600, qe_600, qc_600, qi_600, ql_900, qL_900, qt_900, qT_900, qe_900, qc_900, qi_900, ql_1200, qL_1200, qt_1200, qT_1200, qe_1200, qc_1200, qi_1200, ql_65536, qL_65536, qt_65536, qT_65536, qe_65536, qc_65536, qi_65536, n1, n1', n4, n4', n5, n5', true_and, and_true, eq_self, forall_eq, forall_eq_apply_imp_iff]
  refine ⟨fun q => s_lastRow M N ?_, fun q1 => ⟨fun q => s_lastRow M N ?_, fun q2 => ⟨fun q => s_lastRow M N ?_, fun q3 => s_lastRow M N ?_⟩⟩⟩
  · simp (disch := omega) only [jj_vi, (rM_k M), (rM_r501 M), (rM_k1 M), (rM_n1 M), (rM_r502 M), (rM_k2 M), (rM_n2 M), (rM_r503 M), (rM_k3 M), (rM_n3 M), (rM_r504 M), (rM_k4 M), (rM_n4 M), (rM_r505 M), (rM_k5 M), (rM_n5 M), (rM_r506 M), (rM_k6 M), (rM_n6 M), (rM_r507 M), (rM_k7 M), (rM_n7 M), (rM_r508 M), (rM_k8 M), (rM_n8 M), (rM_r509 M), (rM_k9 M), (rM_n9 M), (rM_r510 M), (rM_k10 M), (rM_n10 M), (rM_r511 M), (rM_k11 M), (rM_n11 M), (rM_r512 M), (rM_k12 M), (rM_n12 M), (rM_r515 M), (rM_k13 M), (rM_n13 M), (rM_r516 M), (rM_k14 M), (rM_n14 M), (rM_r517 M), (rM_k15 M), (rM_n15 M), (rM_r518 M), (rM_k16 M), (rM_n16 M), (rM_r524 M), (rM_k17 M), (rM_n17 M), (rM_r525 M), (rM_k18 M), (rM_n18 M), (rM_r526 M), (rM_k19 M), (rM_n19 M), (rM_r528 M), (rM_k20 M), (rM_n20 M), (rM_r529 M), (rM_k21 M), (rM_n21 M), (rM_r531 M), (rM_k22 M), (rM_n22 M), (rM_r532 M), (rM_k23 M), (rM_n23 M), (rM_r533 M), (rM_k24 M), (rM_n24 M), true_and, and_true, eq_self, forall_eq, forall_eq_apply_imp_iff]
    exact s_lastRow M N' (z _ _ fun e => q (congrArg (fun x : NK => x.1) e))
  · simp (disch := omega) only [jj_vi, (rM_k M), (rM_r501 M), (rM_k1 M), (rM_n1 M), (rM_r502 M), (rM_k2 M), (rM_n2 M), (rM_r503 M), (rM_k3 M), (rM_n3 M), (rM_r504 M), (rM_k4 M), (rM_n4 M), (rM_r505 M), (rM_k5 M), (rM_n5 M), (rM_r506 M), (rM_k6 M), (rM_n6 M), (rM_r507 M), (rM_k7 M), (rM_n7 M), (rM_r508 M), (rM_k8 M), (rM_n8 M), (rM_r509 M), (rM_k9 M), (rM_n9 M), (rM_r510 M), (rM_k10 M), (rM_n10 M), (rM_r511 M), (rM_k11 M), (rM_n11 M), (rM_r512 M), (rM_k12 M), (rM_n12 M), (rM_r515 M), (rM_k13 M), (rM_n13 M), (rM_r516 M), (rM_k14 M), (rM_n14 M), (rM_r517 M), (rM_k15 M), (rM_n15 M), (rM_r518 M), (rM_k16 M), (rM_n16 M), (rM_r524 M), (rM_k17 M), (rM_n17 M), (rM_r525 M), (rM_k18 M), (rM_n18 M), (rM_r526 M), (rM_k19 M), (rM_n19 M), (rM_r528 M), (rM_k20 M), (rM_n20 M), (rM_r529 M), (rM_k21 M), (rM_n21 M), (rM_r531 M), (rM_k22 M), (rM_n22 M), (rM_r532 M), (rM_k23 M), (rM_n23 M), (rM_r533 M), (rM_k24 M), (rM_n24 M), true_and, and_true, eq_self, forall_eq, forall_eq_apply_imp_iff]
    exact s_lastRow M N' (z _ _ fun e => q (by rw [← hlen, ← hlen', e]))
  · simp (disch := omega) only [jj_vi, (rM_k M), (rM_r501 M), (rM_k1 M), (rM_n1 M), (rM_r502 M), (rM_k2 M), (rM_n2 M), (rM_r503 M), (rM_k3 M), (rM_n3 M), (rM_r504 M), (rM_k4 M), (rM_n4 M), (rM_r505 M), (rM_k5 M), (rM_n5 M), (rM_r506 M), (rM_k6 M), (rM_n6 M), (rM_r507 M), (rM_k7 M), (rM_n7 M), (rM_r508 M), (rM_k8 M), (rM_n8 M), (rM_r509 M), (rM_k9 M), (rM_n9 M), (rM_r510 M), (rM_k10 M), (rM_n10 M), (rM_r511 M), (rM_k11 M), (rM_n11 M), (rM_r512 M), (rM_k12 M), (rM_n12 M), (rM_r515 M), (rM_k13 M), (rM_n13 M), (rM_r516 M), (rM_k14 M), (rM_n14 M), (rM_r517 M), (rM_k15 M), (rM_n15 M), (rM_r518 M), (rM_k16 M), (rM_n16 M), (rM_r524 M), (rM_k17 M), (rM_n17 M), (rM_r525 M), (rM_k18 M), (rM_n18 M), (rM_r526 M), (rM_k19 M), (rM_n19 M), (rM_r528 M), (rM_k20 M), (rM_n20 M), (rM_r529 M), (rM_k21 M), (rM_n21 M), (rM_r531 M), (rM_k22 M), (rM_n22 M), (rM_r532 M), (rM_k23 M), (rM_n23 M), (rM_r533 M), (rM_k24 M), (rM_n24 M), true_and, and_true, eq_self, forall_eq, forall_eq_apply_imp_iff]
    exact s_lastRow M N' (z _ _ fun e => q (congrArg (fun x : NK => x.2.1) e))
  · simp (disch := omega) only [jj_vi, (rM_k M), (rM_r501 M), (rM_k1 M), (rM_n1 M), (rM_r502 M), (rM_k2 M), (rM_n2 M), (rM_r503 M), (rM_k3 M), (rM_n3 M), (rM_r504 M), (rM_k4 M), (rM_n4 M), (rM_r505 M), (rM_k5 M), (rM_n5 M), (rM_r506 M), (rM_k6 M), (rM_n6 M), (rM_r507 M), (rM_k7 M), (rM_n7 M), (rM_r508 M), (rM_k8 M), (rM_n8 M), (rM_r509 M), (rM_k9 M), (rM_n9 M), (rM_r510 M), (rM_k10 M), (rM_n10 M), (rM_r511 M), (rM_k11 M), (rM_n11 M), (rM_r512 M), (rM_k12 M), (rM_n12 M), (rM_r515 M), (rM_k13 M), (rM_n13 M), (rM_r516 M), (rM_k14 M), (rM_n14 M), (rM_r517 M), (rM_k15 M), (rM_n15 M), (rM_r518 M), (rM_k16 M), (rM_n16 M), (rM_r524 M), (rM_k17 M), (rM_n17 M), (rM_r525 M), (rM_k18 M), (rM_n18 M), (rM_r526 M), (rM_k19 M), (rM_n19 M), (rM_r528 M), (rM_k20 M), (rM_n20 M), (rM_r529 M), (rM_k21 M), (rM_n21 M), (rM_r531 M), (rM_k22 M), (rM_n22 M), (rM_r532 M), (rM_k23 M), (rM_n23 M), (rM_r533 M), (rM_k24 M), (rM_n24 M), true_and, and_true, eq_self, forall_eq, forall_eq_apply_imp_iff]
    refine s_lastRow M N' ?_
    generalize hX : 600 * (g / 210 / 3) + 200 * (g / 210 % 3) + nd.2.2.1 = X
    generalize hY : 600 * (g' / 210 / 3) + 200 * (g' / 210 % 3) + nd'.2.2.1 = Y
    have loop : ∀ r k, k + r = nd.2.2.2.1 → (∀ j, j < k → (nk l nd).2.2[nd.2.2.2.1 - 1 - j]? = (nk l' nd').2.2[nd.2.2.2.1 - 1 - j]?) → jj_WP d mX10_areSame 0 0 69 [(0, .ref m), (1, .int (nI g)), (3, .int 1), (4, .int (nI (X + nd.2.2.2.1) - 1)), (5, .int (nI (Y + nd'.2.2.2.1) - 1)), (6, .int (nI k))] [] h Q := by
      intro r
      induction r with
      | zero =>
        intro k hk he
        refine VX10_areSame_69 _ _ _ _ _ _ ⟨fun c => absurd c (by decide), fun _ => ?_⟩
        simp (disch := omega) only [(rM_k M), (rM_r501 M), (rM_k1 M), (rM_n1 M), (rM_r502 M), (rM_k2 M), (rM_n2 M), (rM_r503 M), (rM_k3 M), (rM_n3 M), (rM_r504 M), (rM_k4 M), (rM_n4 M), (rM_r505 M), (rM_k5 M), (rM_n5 M), (rM_r506 M), (rM_k6 M), (rM_n6 M), (rM_r507 M), (rM_k7 M), (rM_n7 M), (rM_r508 M), (rM_k8 M), (rM_n8 M), (rM_r509 M), (rM_k9 M), (rM_n9 M), (rM_r510 M), (rM_k10 M), (rM_n10 M), (rM_r511 M), (rM_k11 M), (rM_n11 M), (rM_r512 M), (rM_k12 M), (rM_n12 M), (rM_r515 M), (rM_k13 M), (rM_n13 M), (rM_r516 M), (rM_k14 M), (rM_n14 M), (rM_r517 M), (rM_k15 M), (rM_n15 M), (rM_r518 M), (rM_k16 M), (rM_n16 M), (rM_r524 M), (rM_k17 M), (rM_n17 M), (rM_r525 M), (rM_k18 M), (rM_n18 M), (rM_r526 M), (rM_k19 M), (rM_n19 M), (rM_r528 M), (rM_k20 M), (rM_n20 M), (rM_r529 M), (rM_k21 M), (rM_n21 M), (rM_r531 M), (rM_k22 M), (rM_n22 M), (rM_r532 M), (rM_k23 M), (rM_n23 M), (rM_r533 M), (rM_k24 M), (rM_n24 M), q_clamp, q_in, nI_leI, nI_ltI, nI_eq, ql_0, qL_0, qt_0, qT_0, qe_0, qc_0, qi_0, ql_1, qL_1, qt_1, qT_1, qe_1, qc_1, qi_1, ql_2, qL_2, qt_2, qT_2, qe_2, qc_2, qi_2, ql_3, qL_3, qt_3, qT_3, qe_3, qc_3, qi_3, ql_4, qL_4, qt_4, qT_4, qe_4, qc_4, qi_4, ql_6, qL_6, qt_6, qT_6, qe_6, qc_6, qi_6, ql_8, qL_8, qt_8, qT_8, qe_8, qc_8, qi_8, ql_10, qL_10, qt_10, qT_10, qe_10, qc_10, qi_10, ql_24, qL_24, qt_24, qT_24, qe_24, qc_24, qi_24, ql_60, qL_60, qt_60, qT_60, qe_60, qc_60, qi_60, ql_100, qL_100, qt_100, qT_100, qe_100, qc_100, qi_100, ql_200, qL_200, qt_200, qT_200, qe_200, qc_200, qi_200, ql_400, qL_400, qt_400, qT_400, qe_400, qc_400, qi_400, ql_600, qL_600, qt_600, qT_600, qe_600, qc_600, qi_600, ql_900, qL_900, qt_900, qT_900, qe_900, qc_900, qi_900, ql_1200, qL_1200, qt_1200, qT_1200, qe_1200, qc_1200, qi_1200, ql_65536, qL_65536, qt_65536, qT_65536, qe_65536, qc_65536, qi_65536, n4, true_and, and_true, eq_self, forall_eq, forall_eq_apply_imp_iff]
        refine ⟨fun _ => ⟨Or.inr trivial, ?_⟩, fun c => by omega⟩
        rw [if_pos] at H
        · exact H
        · have e3 : (nk l nd).2.2 = (nk l' nd').2.2 := by
            apply List.ext_getElem?
            intro x
            by_cases hx : x < nd.2.2.2.1
            · have := he (nd.2.2.2.1 - 1 - x) (by omega)
              rw [show nd.2.2.2.1 - 1 - (nd.2.2.2.1 - 1 - x) = x by omega] at this
              exact this
            · rw [List.getElem?_eq_none (by omega), List.getElem?_eq_none (by omega)]
          show (nd.1, nd.2.2.2.2, (nk l nd).2.2) = (nd'.1, nd'.2.2.2.2, (nk l' nd').2.2)
          rw [q1, q3, e3]
      | succ r ih =>
        intro k hk he
        refine VX10_areSame_69 _ _ _ _ _ _ ⟨fun c => absurd c (by decide), fun _ => ?_⟩
        simp (disch := omega) only [(rM_k M), (rM_r501 M), (rM_k1 M), (rM_n1 M), (rM_r502 M), (rM_k2 M), (rM_n2 M), (rM_r503 M), (rM_k3 M), (rM_n3 M), (rM_r504 M), (rM_k4 M), (rM_n4 M), (rM_r505 M), (rM_k5 M), (rM_n5 M), (rM_r506 M), (rM_k6 M), (rM_n6 M), (rM_r507 M), (rM_k7 M), (rM_n7 M), (rM_r508 M), (rM_k8 M), (rM_n8 M), (rM_r509 M), (rM_k9 M), (rM_n9 M), (rM_r510 M), (rM_k10 M), (rM_n10 M), (rM_r511 M), (rM_k11 M), (rM_n11 M), (rM_r512 M), (rM_k12 M), (rM_n12 M), (rM_r515 M), (rM_k13 M), (rM_n13 M), (rM_r516 M), (rM_k14 M), (rM_n14 M), (rM_r517 M), (rM_k15 M), (rM_n15 M), (rM_r518 M), (rM_k16 M), (rM_n16 M), (rM_r524 M), (rM_k17 M), (rM_n17 M), (rM_r525 M), (rM_k18 M), (rM_n18 M), (rM_r526 M), (rM_k19 M), (rM_n19 M), (rM_r528 M), (rM_k20 M), (rM_n20 M), (rM_r529 M), (rM_k21 M), (rM_n21 M), (rM_r531 M), (rM_k22 M), (rM_n22 M), (rM_r532 M), (rM_k23 M), (rM_n23 M), (rM_r533 M), (rM_k24 M), (rM_n24 M), qm_3, qm_4, qm_16, qm_600, qm_200, qm_8, qn_210, qn_3, qa_0, qb_0, qa_1, qb_1, qa_2, qb_2, qa_3, qb_3, qa_4, qb_4, qa_16, qb_16, qa_180, qb_180, qs_1, qs_2, qs_3, qs_4, qs_6, qs_24, nI_add, q_sub, q_pred, q_clamp, q_in, nI_leI, nI_ltI, nI_eq, ql_0, qL_0, qt_0, qT_0, qe_0, qc_0, qi_0, ql_1, qL_1, qt_1, qT_1, qe_1, qc_1, qi_1, ql_2, qL_2, qt_2, qT_2, qe_2, qc_2, qi_2, ql_3, qL_3, qt_3, qT_3, qe_3, qc_3, qi_3, ql_4, qL_4, qt_4, qT_4, qe_4, qc_4, qi_4, ql_6, qL_6, qt_6, qT_6, qe_6, qc_6, qi_6, ql_8, qL_8, qt_8, qT_8, qe_8, qc_8, qi_8, ql_10, qL_10, qt_10, qT_10, qe_10, qc_10, qi_10, ql_24, qL_24, qt_24, qT_24, qe_24, qc_24, qi_24, ql_60, qL_60, qt_60, qT_60, qe_60, qc_60, qi_60, ql_100, qL_100, qt_100, qT_100, qe_100, qc_100, qi_100, ql_200, qL_200, qt_200, qT_200, qe_200, qc_200, qi_200, ql_400, qL_400, qt_400, qT_400, qe_400, qc_400, qi_400, ql_600, qL_600, qt_600, qT_600, qe_600, qc_600, qi_600, ql_900, qL_900, qt_900, qT_900, qe_900, qc_900, qi_900, ql_1200, qL_1200, qt_1200, qT_1200, qe_1200, qc_1200, qi_1200, ql_65536, qL_65536, qt_65536, qT_65536, qe_65536, qc_65536, qi_65536, n4, true_and, and_true, eq_self, forall_eq, forall_eq_apply_imp_iff]
        refine ⟨fun c => by omega, fun _ => ?_⟩
        refine s_isRowAlike M (by omega) (by omega) ?_
        obtain ⟨x1, e1⟩ : ∃ x, l[nd.2.2.1 + (nd.2.2.2.1 - 1 - k)]? = some x := ⟨_, List.getElem?_eq_getElem (by omega)⟩
        obtain ⟨x2, e2⟩ : ∃ x, l'[nd'.2.2.1 + (nd'.2.2.2.1 - 1 - k)]? = some x := ⟨_, List.getElem?_eq_getElem (by omega)⟩
        have r1 := T.2.2 _ _ e1
        have r2 := T'.2.2 _ _ e2
        rw [show X + nd.2.2.2.1 - 1 - k = 600 * (g / 210 / 3) + 200 * (g / 210 % 3) + (nd.2.2.1 + (nd.2.2.2.1 - 1 - k)) by omega, r1, show Y + nd'.2.2.2.1 - 1 - k = 600 * (g' / 210 / 3) + 200 * (g' / 210 % 3) + (nd'.2.2.1 + (nd'.2.2.2.1 - 1 - k)) by omega, r2]
        have g1 := hge (nd.2.2.2.1 - 1 - k) (by omega)
        have g2 := hge' (nd'.2.2.2.1 - 1 - k) (by omega)
        rw [e1] at g1
        rw [e2] at g2
        rw [← q2] at g2
        by_cases hr : x1 = x2
        · rw [if_pos hr]
          have hih : ∀ j, j < k + 1 → (nk l nd).2.2[nd.2.2.2.1 - 1 - j]? = (nk l' nd').2.2[nd.2.2.2.1 - 1 - j]? := fun j hj => by
            by_cases hjk : j = k
            · subst hjk
              rw [g1, g2, hr]
            · exact he j (by omega)
          have := ih (k + 1) (by omega) hih
          rw [qs_1 (by omega), qs_1 (by omega)] at this
          exact this
        · rw [if_neg hr]
          refine VX10_areSame_69 _ _ _ _ _ _ ⟨fun _ => ⟨Or.inl rfl, no fun e => hr ?_⟩, fun c => absurd rfl c⟩
          rw [e, g2] at g1
          exact (Option.some.inj g1).symm
    exact loop nd.2.2.2.1 0 (by omega) (fun j hj => by omega)
