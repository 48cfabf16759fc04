/-! the reference: distinct, its loops -/
def cS (cm : Int64) (w : Bool) (s : Nat) : Bool := if s = 60 then w else bt cm s
/-- the tables and trees that are wanted are there -/
def dP (h : jj_H) (m : Nat) (tb : Nat → Nat → List Row) (c : Nat → Bool) : Prop := rM h m ∧ ∀ s t, s < 61 → t < 3 → c s = true → rTb h m s t (tb s t) ∧ rTr h m (3 * s + t) (tree (tb s t))
theorem tF.dP {h h' : jj_H} {m : Nat} {tb : Nat → Nat → List Row} {c : Nat → Bool} (F : tF h h' m) (P : dP h m tb c) : dP h' m tb c := ⟨F.M P.1, fun s t h1 h2 h3 => ⟨F.tb (P.2 s t h1 h2 h3).1, F.tr (P.2 s t h1 h2 h3).2⟩⟩
def seen (tb : Nat → Nat → List Row) (S : List Nat) (x : NK) : Prop := ∃ g ∈ S, nk (gnf tb g).1 (gnf tb g).2 = x
def dI (h1 h : jj_H) (m : Nat) (tb : Nat → Nat → List Row) (c : Nat → Bool) (tot : Nat) (S : List Nat) (n : Nat) (rest : List NK) : Prop :=
  dP h m tb c ∧ tF h1 h m ∧ tbI (jI h 1000 (m + 23)) S (fun g => nk (gnf tb g).1 (gnf tb g).2) ∧ (∀ g ∈ S, ∃ s t i nd, s < 61 ∧ t < 3 ∧ c s = true ∧ (flat (tree (tb s t)))[i]? = some nd ∧ g = (3 * s + t) * 210 + i) ∧ S.length = n ∧ n + dct (seen tb S) rest = tot ∧ n + rest.length ≤ 40000
theorem dI.no {h1 h : jj_H} {m : Nat} {tb : Nat → Nat → List Row} {c : Nat → Bool} (P : dP h m tb c) {s t i : Nat} {nd : Nd} (hs : s < 61) (ht : t < 3) (hc : c s = true) (hi : (flat (tree (tb s t)))[i]? = some nd) : rNo h m ((3 * s + t) * 210 + i) (gnf tb ((3 * s + t) * 210 + i)).1 (gnf tb ((3 * s + t) * 210 + i)).2 := by
  have T := P.2 s t hs ht hc
  have hil := (List.getElem?_eq_some_iff.mp hi).1
  have := (tree_len _ T.1.2.1).1
  rw [gnf_at ht hi (by omega)]
  exact rTr.no hs ht T.1 T.2 hi
section JDIS
variable {d : jj_D} {m : Nat} {tb : Nat → Nat → List Row} {cm : Int64} {w : Bool} {tot : Nat} {h1 : jj_H} {Q : Value → jj_H → Prop}
theorem s_d82 {s t : Nat} {rest : List NK} {xw : Int32} (hs : s < 61) (ht : t < 3) (hc : cS cm w s = true) (K : ∀ h S n, dI h1 h m tb (cS cm w) tot S n rest → jj_WP d mX10_distinct 0 0 73 [(0, .ref m), (1, .long cm), (3, .int xw), (4, .int (nI n)), (5, .int (nI s)), (6, .int (nI (t + 1)))] [] h Q) :
    ∀ r i h S n, i + r = (flat (tree (tb s t))).length → dI h1 h m tb (cS cm w) tot S n ((nks (tb s t)).drop i ++ rest) → jj_WP d mX10_distinct 0 0 82 [(0, .ref m), (1, .long cm), (3, .int xw), (4, .int (nI n)), (5, .int (nI s)), (6, .int (nI t)), (7, .int (nI i))] [] h Q := by
  intro r
  induction r with
  | zero =>
    intro i h S n hi I
    have T := I.1.2 s t hs ht hc
    have hl := (tree_len _ T.1.2.1).1
    have M := I.1.1
    have hcnt := T.2.1.1
    refine VX10_distinct_82 _ _ _ _ _ _ _ ?_
    simp (disch := omega) only [(rM_k M), (rM_r501 M), (rM_k1 M), (rM_n1 M), (rM_r502 M), (rM_k2 M), (rM_n2 M), (rM_r503 M), (rM_k3 M), (rM_n3 M), (rM_r504 M), (rM_k4 M), (rM_n4 M), (rM_r505 M), (rM_k5 M), (rM_n5 M), (rM_r506 M), (rM_k6 M), (rM_n6 M), (rM_r507 M), (rM_k7 M), (rM_n7 M), (rM_r508 M), (rM_k8 M), (rM_n8 M), (rM_r509 M), (rM_k9 M), (rM_n9 M), (rM_r510 M), (rM_k10 M), (rM_n10 M), (rM_r511 M), (rM_k11 M), (rM_n11 M), (rM_r512 M), (rM_k12 M), (rM_n12 M), (rM_r515 M), (rM_k13 M), (rM_n13 M), (rM_r516 M), (rM_k14 M), (rM_n14 M), (rM_r517 M), (rM_k15 M), (rM_n15 M), (rM_r518 M), (rM_k16 M), (rM_n16 M), (rM_r524 M), (rM_k17 M), (rM_n17 M), (rM_r525 M), (rM_k18 M), (rM_n18 M), (rM_r526 M), (rM_k19 M), (rM_n19 M), (rM_r528 M), (rM_k20 M), (rM_n20 M), (rM_r529 M), (rM_k21 M), (rM_n21 M), (rM_r531 M), (rM_k22 M), (rM_n22 M), (rM_r532 M), (rM_k23 M), (rM_n23 M), (rM_r533 M), (rM_k24 M), (rM_n24 M), qm_3, qm_4, qm_16, qm_600, qm_200, qm_8, qn_210, qn_3, qa_0, qb_0, qa_1, qb_1, qa_2, qb_2, qa_3, qb_3, qa_4, qb_4, qa_16, qb_16, qa_180, qb_180, qs_1, qs_2, qs_3, qs_4, qs_6, qs_24, nI_add, q_sub, q_pred, q_clamp, q_in, nI_leI, nI_ltI, nI_eq, ql_0, qL_0, qt_0, qT_0, qe_0, qc_0, qi_0, ql_1, qL_1, qt_1, qT_1, qe_1, qc_1, qi_1, ql_2, qL_2, qt_2, qT_2, qe_2, qc_2, qi_2, ql_3, qL_3, qt_3, qT_3, qe_3, qc_3, qi_3, ql_4, qL_4, qt_4, qT_4, qe_4, qc_4, qi_4, ql_6, qL_6, qt_6, qT_6, qe_6, qc_6, qi_6, ql_8, qL_8, qt_8, qT_8, qe_8, qc_8, qi_8, ql_10, qL_10, qt_10, qT_10, qe_10, qc_10, qi_10, ql_24, qL_24, qt_24, qT_24, qe_24, qc_24, qi_24, ql_60, qL_60, qt_60, qT_60, qe_60, qc_60, qi_60, ql_100, qL_100, qt_100, qT_100, qe_100, qc_100, qi_100, ql_200, qL_200, qt_200, qT_200, qe_200, qc_200, qi_200, ql_400, qL_400, qt_400, qT_400, qe_400, qc_400, qi_400, ql_600, qL_600, qt_600, qT_600, qe_600, qc_600, qi_600, ql_900, qL_900, qt_900, qT_900, qe_900, qc_900, qi_900, ql_1200, qL_1200, qt_1200, qT_1200, qe_1200, qc_1200, qi_1200, ql_65536, qL_65536, qt_65536, qT_65536, qe_65536, qc_65536, qi_65536, hcnt, true_and, and_true, eq_self, forall_eq, forall_eq_apply_imp_iff]
    refine ⟨fun _ => K h S n ?_, fun c => by omega⟩
    rw [List.drop_eq_nil_of_le (by unfold nks; rw [List.length_map]; omega), List.nil_append] at I
    exact I
  | succ r ih =>
    intro i h S n hi I
    have T := I.1.2 s t hs ht hc
    have hl := (tree_len _ T.1.2.1).1
    have M := I.1.1
    have hcnt := T.2.1.1
    refine VX10_distinct_82 _ _ _ _ _ _ _ ?_
    simp (disch := omega) only [(rM_k M), (rM_r501 M), (rM_k1 M), (rM_n1 M), (rM_r502 M), (rM_k2 M), (rM_n2 M), (rM_r503 M), (rM_k3 M), (rM_n3 M), (rM_r504 M), (rM_k4 M), (rM_n4 M), (rM_r505 M), (rM_k5 M), (rM_n5 M), (rM_r506 M), (rM_k6 M), (rM_n6 M), (rM_r507 M), (rM_k7 M), (rM_n7 M), (rM_r508 M), (rM_k8 M), (rM_n8 M), (rM_r509 M), (rM_k9 M), (rM_n9 M), (rM_r510 M), (rM_k10 M), (rM_n10 M), (rM_r511 M), (rM_k11 M), (rM_n11 M), (rM_r512 M), (rM_k12 M), (rM_n12 M), (rM_r515 M), (rM_k13 M), (rM_n13 M), (rM_r516 M), (rM_k14 M), (rM_n14 M), (rM_r517 M), (rM_k15 M), (rM_n15 M), (rM_r518 M), (rM_k16 M), (rM_n16 M), (rM_r524 M), (rM_k17 M), (rM_n17 M), (rM_r525 M), (rM_k18 M), (rM_n18 M), (rM_r526 M), (rM_k19 M), (rM_n19 M), (rM_r528 M), (rM_k20 M), (rM_n20 M), (rM_r529 M), (rM_k21 M), (rM_n21 M), (rM_r531 M), (rM_k22 M), (rM_n22 M), (rM_r532 M), (rM_k23 M), (rM_n23 M), (rM_r533 M), (rM_k24 M), (rM_n24 M), qm_3, qm_4, qm_16, qm_600, qm_200, qm_8, qn_210, qn_3, qa_0, qb_0, qa_1, qb_1, qa_2, qb_2, qa_3, qb_3, qa_4, qb_4, qa_16, qb_16, qa_180, qb_180, qs_1, qs_2, qs_3, qs_4, qs_6, qs_24, nI_add, q_sub, q_pred, q_clamp, q_in, nI_leI, nI_ltI, nI_eq, ql_0, qL_0, qt_0, qT_0, qe_0, qc_0, qi_0, ql_1, qL_1, qt_1, qT_1, qe_1, qc_1, qi_1, ql_2, qL_2, qt_2, qT_2, qe_2, qc_2, qi_2, ql_3, qL_3, qt_3, qT_3, qe_3, qc_3, qi_3, ql_4, qL_4, qt_4, qT_4, qe_4, qc_4, qi_4, ql_6, qL_6, qt_6, qT_6, qe_6, qc_6, qi_6, ql_8, qL_8, qt_8, qT_8, qe_8, qc_8, qi_8, ql_10, qL_10, qt_10, qT_10, qe_10, qc_10, qi_10, ql_24, qL_24, qt_24, qT_24, qe_24, qc_24, qi_24, ql_60, qL_60, qt_60, qT_60, qe_60, qc_60, qi_60, ql_100, qL_100, qt_100, qT_100, qe_100, qc_100, qi_100, ql_200, qL_200, qt_200, qT_200, qe_200, qc_200, qi_200, ql_400, qL_400, qt_400, qT_400, qe_400, qc_400, qi_400, ql_600, qL_600, qt_600, qT_600, qe_600, qc_600, qi_600, ql_900, qL_900, qt_900, qT_900, qe_900, qc_900, qi_900, ql_1200, qL_1200, qt_1200, qT_1200, qe_1200, qc_1200, qi_1200, ql_65536, qL_65536, qt_65536, qT_65536, qe_65536, qc_65536, qi_65536, hcnt, true_and, and_true, eq_self, forall_eq, forall_eq_apply_imp_iff]
    refine ⟨fun c => by omega, fun _ => ?_⟩
    obtain ⟨nd, e1⟩ : ∃ x, (flat (tree (tb s t)))[i]? = some x := ⟨_, List.getElem?_eq_getElem (by omega)⟩
    have eg := gnf_at (tb := tb) ht e1 (by omega)
    obtain ⟨P, F, TI, V, hn, htot, hlen⟩ := I
    have e2 : (nks (tb s t))[i]? = some (nk (tb s t) nd) := by unfold nks; rw [List.getElem?_map, e1]; rfl
    have ed : (nks (tb s t)).drop i = nk (tb s t) nd :: (nks (tb s t)).drop (i + 1) := by
      have hlt := (List.getElem?_eq_some_iff.mp e2).1
      rw [List.drop_eq_getElem_cons hlt]
      congr 1
      exact (List.getElem?_eq_some_iff.mp e2).2
    rw [ed, List.cons_append] at htot hlen
    simp only [List.length_cons] at hlen
    refine s_isNew (S := S) (gn := gnf tb) M (fun g' hg' => ?_) TI (by omega) (fun hno q TI' => ?_) (fun hyes => ?_)
    · rcases hg' with e | e
      · rw [e]
        exact dI.no (h1 := h1) P hs ht hc e1
      · obtain ⟨s', t', i', nd', p1, p2, p3, p4, p5⟩ := V g' e
        rw [p5]
        exact dI.no (h1 := h1) P p1 p2 p3 p4
    · refine ⟨fun c => absurd c (by decide), fun _ => ?_⟩
      refine ih (i + 1) _ (((3 * s + t) * 210 + i) :: S) (n + 1) (by omega) ⟨tF.wr.dP P, F.trans tF.wr, TI', fun g' hg' => ?_, by simp [hn], ?_, by omega⟩
      · rcases List.mem_cons.mp hg' with e | e
        · exact ⟨s, t, i, nd, hs, ht, hc, e1, e⟩
        · exact V g' e
      · rw [dct_new (fun ⟨g', q1, q2⟩ => hno g' q1 (by rw [q2, eg]))] at htot
        rw [← htot, show (seen tb (((3 * s + t) * 210 + i) :: S)) = (fun y => y = nk (tb s t) nd ∨ seen tb S y) from set_ext fun y => ?_]
        · omega
        · unfold seen
          constructor
          · rintro ⟨g', q1, q2⟩
            rcases List.mem_cons.mp q1 with e | e
            · rw [e, eg] at q2; exact Or.inl q2.symm
            · exact Or.inr ⟨g', e, q2⟩
          · rintro (e | ⟨g', q1, q2⟩)
            · exact ⟨_, List.mem_cons_self, by rw [eg, e]⟩
            · exact ⟨g', List.mem_cons_of_mem _ q1, q2⟩
    · refine ⟨fun _ => ?_, fun c => absurd rfl c⟩
      obtain ⟨g', q1, q2⟩ := hyes
      rw [eg] at q2
      refine ih (i + 1) _ S n (by omega) ⟨P, F, TI, V, hn, ?_, by omega⟩
      rw [dct_in ⟨g', q1, q2⟩] at htot
      exact htot
theorem s_d73 {s : Nat} {rest : List NK} {xw : Int32} (hs : s < 61) (hc : cS cm w s = true) (K : ∀ h S n, dI h1 h m tb (cS cm w) tot S n rest → jj_WP d mX10_distinct 0 0 38 [(0, .ref m), (1, .long cm), (3, .int xw), (4, .int (nI n)), (5, .int (nI (s + 1)))] [] h Q) :
    ∀ r t h S n, t + r = 3 → dI h1 h m tb (cS cm w) tot S n (n3 (tb s) r ++ rest) → jj_WP d mX10_distinct 0 0 73 [(0, .ref m), (1, .long cm), (3, .int xw), (4, .int (nI n)), (5, .int (nI s)), (6, .int (nI t))] [] h Q := by
  intro r
  induction r with
  | zero =>
    intro t h S n ht I
    refine VX10_distinct_73 _ _ _ _ _ _ ?_
    simp (disch := omega) only [qm_3, qm_4, qm_16, qm_600, qm_200, qm_8, qn_210, qn_3, qa_0, qb_0, qa_1, qb_1, qa_2, qb_2, qa_3, qb_3, qa_4, qb_4, qa_16, qb_16, qa_180, qb_180, qs_1, qs_2, qs_3, qs_4, qs_6, qs_24, nI_add, q_sub, q_pred, q_clamp, q_in, nI_leI, nI_ltI, nI_eq, ql_0, qL_0, qt_0, qT_0, qe_0, qc_0, qi_0, ql_1, qL_1, qt_1, qT_1, qe_1, qc_1, qi_1, ql_2, qL_2, qt_2, qT_2, qe_2, qc_2, qi_2, ql_3, qL_3, qt_3, qT_3, qe_3, qc_3, qi_3, ql_4, qL_4, qt_4, qT_4, qe_4, qc_4, qi_4, ql_6, qL_6, qt_6, qT_6, qe_6, qc_6, qi_6, ql_8, qL_8, qt_8, qT_8, qe_8, qc_8, qi_8, ql_10, qL_10, qt_10, qT_10, qe_10, qc_10, qi_10, ql_24, qL_24, qt_24, qT_24, qe_24, qc_24, qi_24, ql_60, qL_60, qt_60, qT_60, qe_60, qc_60, qi_60, ql_100, qL_100, qt_100, qT_100, qe_100, qc_100, qi_100, ql_200, qL_200, qt_200, qT_200, qe_200, qc_200, qi_200, ql_400, qL_400, qt_400, qT_400, qe_400, qc_400, qi_400, ql_600, qL_600, qt_600, qT_600, qe_600, qc_600, qi_600, ql_900, qL_900, qt_900, qT_900, qe_900, qc_900, qi_900, ql_1200, qL_1200, qt_1200, qT_1200, qe_1200, qc_1200, qi_1200, ql_65536, qL_65536, qt_65536, qT_65536, qe_65536, qc_65536, qi_65536]
    exact ⟨fun _ => K h S n I, fun c => by omega⟩
  | succ r ih =>
    intro t h S n ht I
    refine VX10_distinct_73 _ _ _ _ _ _ ?_
    simp (disch := omega) only [qm_3, qm_4, qm_16, qm_600, qm_200, qm_8, qn_210, qn_3, qa_0, qb_0, qa_1, qb_1, qa_2, qb_2, qa_3, qb_3, qa_4, qb_4, qa_16, qb_16, qa_180, qb_180, qs_1, qs_2, qs_3, qs_4, qs_6, qs_24, nI_add, q_sub, q_pred, q_clamp, q_in, nI_leI, nI_ltI, nI_eq, ql_0, qL_0, qt_0, qT_0, qe_0, qc_0, qi_0, ql_1, qL_1, qt_1, qT_1, qe_1, qc_1, qi_1, ql_2, qL_2, qt_2, qT_2, qe_2, qc_2, qi_2, ql_3, qL_3, qt_3, qT_3, qe_3, qc_3, qi_3, ql_4, qL_4, qt_4, qT_4, qe_4, qc_4, qi_4, ql_6, qL_6, qt_6, qT_6, qe_6, qc_6, qi_6, ql_8, qL_8, qt_8, qT_8, qe_8, qc_8, qi_8, ql_10, qL_10, qt_10, qT_10, qe_10, qc_10, qi_10, ql_24, qL_24, qt_24, qT_24, qe_24, qc_24, qi_24, ql_60, qL_60, qt_60, qT_60, qe_60, qc_60, qi_60, ql_100, qL_100, qt_100, qT_100, qe_100, qc_100, qi_100, ql_200, qL_200, qt_200, qT_200, qe_200, qc_200, qi_200, ql_400, qL_400, qt_400, qT_400, qe_400, qc_400, qi_400, ql_600, qL_600, qt_600, qT_600, qe_600, qc_600, qi_600, ql_900, qL_900, qt_900, qT_900, qe_900, qc_900, qi_900, ql_1200, qL_1200, qt_1200, qT_1200, qe_1200, qc_1200, qi_1200, ql_65536, qL_65536, qt_65536, qT_65536, qe_65536, qc_65536, qi_65536]
    refine ⟨fun c => by omega, fun _ => ?_⟩
    refine s_d82 (t := t) (rest := n3 (tb s) r ++ rest) hs (by omega) hc (fun h S n I => ih (t + 1) h S n (by omega) I) _ 0 h S n (Nat.zero_add _) ?_
    rw [n3, show 2 - r = t by omega, List.append_assoc] at I
    exact I
theorem s_d38 {xw : Int32} (hw : xw = if w then 1 else 0) (H : ∀ h, tF h1 h m → Q (.int (nI tot)) h) :
    ∀ r s h S n, s + r = 61 → dI h1 h m tb (cS cm w) tot S n (sq (cS cm w) (fun s => nk3 (tb s)) r s) → jj_WP d mX10_distinct 0 0 38 [(0, .ref m), (1, .long cm), (3, .int xw), (4, .int (nI n)), (5, .int (nI s))] [] h Q := by
  intro r
  induction r with
  | zero =>
    intro s h S n hs I
    refine VX10_distinct_38 _ _ _ _ _ ?_
    simp (disch := omega) only [qm_3, qm_4, qm_16, qm_600, qm_200, qm_8, qn_210, qn_3, qa_0, qb_0, qa_1, qb_1, qa_2, qb_2, qa_3, qb_3, qa_4, qb_4, qa_16, qb_16, qa_180, qb_180, qs_1, qs_2, qs_3, qs_4, qs_6, qs_24, nI_add, q_sub, q_pred, q_clamp, q_in, nI_leI, nI_ltI, nI_eq, ql_0, qL_0, qt_0, qT_0, qe_0, qc_0, qi_0, ql_1, qL_1, qt_1, qT_1, qe_1, qc_1, qi_1, ql_2, qL_2, qt_2, qT_2, qe_2, qc_2, qi_2, ql_3, qL_3, qt_3, qT_3, qe_3, qc_3, qi_3, ql_4, qL_4, qt_4, qT_4, qe_4, qc_4, qi_4, ql_6, qL_6, qt_6, qT_6, qe_6, qc_6, qi_6, ql_8, qL_8, qt_8, qT_8, qe_8, qc_8, qi_8, ql_10, qL_10, qt_10, qT_10, qe_10, qc_10, qi_10, ql_24, qL_24, qt_24, qT_24, qe_24, qc_24, qi_24, ql_60, qL_60, qt_60, qT_60, qe_60, qc_60, qi_60, ql_100, qL_100, qt_100, qT_100, qe_100, qc_100, qi_100, ql_200, qL_200, qt_200, qT_200, qe_200, qc_200, qi_200, ql_400, qL_400, qt_400, qT_400, qe_400, qc_400, qi_400, ql_600, qL_600, qt_600, qT_600, qe_600, qc_600, qi_600, ql_900, qL_900, qt_900, qT_900, qe_900, qc_900, qi_900, ql_1200, qL_1200, qt_1200, qT_1200, qe_1200, qc_1200, qi_1200, ql_65536, qL_65536, qt_65536, qT_65536, qe_65536, qc_65536, qi_65536]
    refine ⟨fun _ => ?_, fun c => by omega⟩
    have := I.2.2.2.2.2.1
    simp only [sq, dct, Nat.add_zero] at this
    rw [this]
    exact H h I.2.1
  | succ r ih =>
    intro s h S n hs I
    refine VX10_distinct_38 _ _ _ _ _ ?_
    have skip : ¬ cS cm w s = true → jj_WP d mX10_distinct 0 0 38 [(0, .ref m), (1, .long cm), (3, .int xw), (4, .int (nI n)), (5, .int (nI (s + 1)))] [] h Q := fun c => by
      rw [sq, if_neg c, List.nil_append] at I
      exact ih (s + 1) h S n (by omega) I
    have go : cS cm w s = true → jj_WP d mX10_distinct 0 0 73 [(0, .ref m), (1, .long cm), (3, .int xw), (4, .int (nI n)), (5, .int (nI s)), (6, .int 0)] [] h Q := fun c => by
      rw [sq, if_pos c, ← n3_3] at I
      exact s_d73 (by omega) c (fun h S n I => ih (s + 1) h S n (by omega) I) 3 0 h S n (by omega) I
    have hbt : s ≠ 60 → ((cm >>> (Int32.toInt64 (nI s) &&& 63)) &&& 1 = 0) = (bt cm s = false) := fun _ => bt_sar (by omega)
    simp (disch := omega) only [qm_3, qm_4, qm_16, qm_600, qm_200, qm_8, qn_210, qn_3, qa_0, qb_0, qa_1, qb_1, qa_2, qb_2, qa_3, qb_3, qa_4, qb_4, qa_16, qb_16, qa_180, qb_180, qs_1, qs_2, qs_3, qs_4, qs_6, qs_24, nI_add, q_sub, q_pred, q_clamp, q_in, nI_leI, nI_ltI, nI_eq, ql_0, qL_0, qt_0, qT_0, qe_0, qc_0, qi_0, ql_1, qL_1, qt_1, qT_1, qe_1, qc_1, qi_1, ql_2, qL_2, qt_2, qT_2, qe_2, qc_2, qi_2, ql_3, qL_3, qt_3, qT_3, qe_3, qc_3, qi_3, ql_4, qL_4, qt_4, qT_4, qe_4, qc_4, qi_4, ql_6, qL_6, qt_6, qT_6, qe_6, qc_6, qi_6, ql_8, qL_8, qt_8, qT_8, qe_8, qc_8, qi_8, ql_10, qL_10, qt_10, qT_10, qe_10, qc_10, qi_10, ql_24, qL_24, qt_24, qT_24, qe_24, qc_24, qi_24, ql_60, qL_60, qt_60, qT_60, qe_60, qc_60, qi_60, ql_100, qL_100, qt_100, qT_100, qe_100, qc_100, qi_100, ql_200, qL_200, qt_200, qT_200, qe_200, qc_200, qi_200, ql_400, qL_400, qt_400, qT_400, qe_400, qc_400, qi_400, ql_600, qL_600, qt_600, qT_600, qe_600, qc_600, qi_600, ql_900, qL_900, qt_900, qT_900, qe_900, qc_900, qi_900, ql_1200, qL_1200, qt_1200, qT_1200, qe_1200, qc_1200, qi_1200, ql_65536, qL_65536, qt_65536, qT_65536, qe_65536, qc_65536, qi_65536]
    refine ⟨fun c => by omega, fun _ => ⟨fun c => ?_, fun c => ?_⟩⟩
    · rw [hbt c]
      exact ⟨fun q => skip (by unfold cS; rw [if_neg c, q]; decide), fun q => go (by unfold cS; rw [if_neg c]; simpa using q)⟩
    · refine ⟨fun q => skip ?_, fun q => go ?_⟩
      · unfold cS; rw [if_pos c]; intro e; rw [hw, e] at q; exact absurd q (by decide)
      · unfold cS; rw [if_pos c]
        cases e : w with
        | true => rfl
        | false => rw [hw, e] at q; exact absurd rfl q
end JDIS
theorem sq_len {c : Nat → Bool} {f : Nat → List NK} {N : Nat} : ∀ {k s : Nat}, (∀ i, s ≤ i → i < s + k → c i = true → (f i).length ≤ N) → (sq c f k s).length ≤ k * N := by
  intro k
  induction k with
  | zero => intro s _; simp [sq]
  | succ k ih =>
    intro s h
    have := ih (s := s + 1) fun i h1 h2 h3 => h i (by omega) (by omega) h3
    rw [sq, List.length_append, Nat.succ_mul]
    by_cases hc : c s = true
    · rw [if_pos hc]
      have := h s (by omega) (by omega) hc
      omega
    · rw [if_neg hc]
      simp
      omega
theorem s_distinct {m : Nat} {tb : Nat → Nat → List Row} {cm : Int64} {w : Bool} {h : jj_H} {Q : Value → jj_H → Prop} (M : rM h m) (A : ∀ s t, s < 60 → t < 3 → bt cm s = true → rTb h m s t (tb s t) ∧ rTr h m (3 * s + t) (tree (tb s t))) (W : rT3 h m 60 (tb 60))
    (H : ∀ h', dFr h h' m → Q (.int (nI (dct (fun _ => False) (sq (cS cm w) (fun s => nk3 (tb s)) 61 0)))) h') : jj_C mX10_distinct 0 0 [.ref m, .long cm, .int (if w then 1 else 0)] h Q := by
  refine EX10_distinct _ _ _ fun d => ?_
  have fin : ∀ h1, dFr h h1 m → dP h1 m tb (cS cm w) → (∀ p, p < 65536 → jI h1 1000 (m + 23) p = -1) → jj_WP d mX10_distinct 0 0 38 [(0, .ref m), (1, .long cm), (3, .int (if w then 1 else 0)), (4, .int 0), (5, .int 0)] [] h1 Q := by
    intro h1 F P E
    have hlen : (sq (cS cm w) (fun s => nk3 (tb s)) 61 0).length ≤ 61 * 606 := sq_len fun i _ h2 h3 => by
      have := fun t ht => (tree_len _ (P.2 i t (by omega) ht h3).1.2.1).1
      have a0 := this 0 (by omega)
      have a1 := this 1 (by omega)
      have a2 := this 2 (by omega)
      simp only [nk3, nks, List.length_append, List.length_map]
      omega
    refine s_d38 (h1 := h1) (tb := tb) (w := w) rfl (fun h2 F2 => H h2 (F.t F2)) 61 0 h1 [] 0 (by omega) ⟨P, tF.rf, ⟨fun p hp => Or.inl (E p hp), fun g hg => by simp at hg, ?_⟩, fun g hg => by simp at hg, rfl, ?_, by omega⟩
    · have : ∀ n, n ≤ 65536 → occ (jI h1 1000 (m + 23)) n = 0 := by
        intro n
        induction n with
        | zero => intro _; rfl
        | succ n ih => intro hn; rw [occ, ih (by omega), if_pos (E n (by omega))]
      rw [this 65536 (Nat.le_refl _)]
      exact Nat.zero_le _
    · rw [Nat.zero_add, show seen tb [] = (fun _ => False) from set_ext fun x => by simp [seen]]
  have loop : ∀ r i (h1 : jj_H), i + r = 65536 → tF h h1 m → (∀ p, p < i → jI h1 1000 (m + 23) p = -1) → jj_WP d mX10_distinct 0 0 3 [(0, .ref m), (1, .long cm), (3, .int (if w then 1 else 0)), (4, .int (nI i))] [] h1 Q := by
    intro r
    induction r with
    | zero =>
      intro i h1 hi F E
      refine VX10_distinct_3 _ _ _ _ ?_
      have M1 := F.M M
      simp (disch := omega) only [(rM_k M1), (rM_r501 M1), (rM_k1 M1), (rM_n1 M1), (rM_r502 M1), (rM_k2 M1), (rM_n2 M1), (rM_r503 M1), (rM_k3 M1), (rM_n3 M1), (rM_r504 M1), (rM_k4 M1), (rM_n4 M1), (rM_r505 M1), (rM_k5 M1), (rM_n5 M1), (rM_r506 M1), (rM_k6 M1), (rM_n6 M1), (rM_r507 M1), (rM_k7 M1), (rM_n7 M1), (rM_r508 M1), (rM_k8 M1), (rM_n8 M1), (rM_r509 M1), (rM_k9 M1), (rM_n9 M1), (rM_r510 M1), (rM_k10 M1), (rM_n10 M1), (rM_r511 M1), (rM_k11 M1), (rM_n11 M1), (rM_r512 M1), (rM_k12 M1), (rM_n12 M1), (rM_r515 M1), (rM_k13 M1), (rM_n13 M1), (rM_r516 M1), (rM_k14 M1), (rM_n14 M1), (rM_r517 M1), (rM_k15 M1), (rM_n15 M1), (rM_r518 M1), (rM_k16 M1), (rM_n16 M1), (rM_r524 M1), (rM_k17 M1), (rM_n17 M1), (rM_r525 M1), (rM_k18 M1), (rM_n18 M1), (rM_r526 M1), (rM_k19 M1), (rM_n19 M1), (rM_r528 M1), (rM_k20 M1), (rM_n20 M1), (rM_r529 M1), (rM_k21 M1), (rM_n21 M1), (rM_r531 M1), (rM_k22 M1), (rM_n22 M1), (rM_r532 M1), (rM_k23 M1), (rM_n23 M1), (rM_r533 M1), (rM_k24 M1), (rM_n24 M1), qm_3, qm_4, qm_16, qm_600, qm_200, qm_8, qn_210, qn_3, qa_0, qb_0, qa_1, qb_1, qa_2, qb_2, qa_3, qb_3, qa_4, qb_4, qa_16, qb_16, qa_180, qb_180, qs_1, qs_2, qs_3, qs_4, qs_6, qs_24, nI_add, q_sub, q_pred, q_clamp, q_in, nI_leI, nI_ltI, nI_eq, ql_0, qL_0, qt_0, qT_0, qe_0, qc_0, qi_0, ql_1, qL_1, qt_1, qT_1, qe_1, qc_1, qi_1, ql_2, qL_2, qt_2, qT_2, qe_2, qc_2, qi_2, ql_3, qL_3, qt_3, qT_3, qe_3, qc_3, qi_3, ql_4, qL_4, qt_4, qT_4, qe_4, qc_4, qi_4, ql_6, qL_6, qt_6, qT_6, qe_6, qc_6, qi_6, ql_8, qL_8, qt_8, qT_8, qe_8, qc_8, qi_8, ql_10, qL_10, qt_10, qT_10, qe_10, qc_10, qi_10, ql_24, qL_24, qt_24, qT_24, qe_24, qc_24, qi_24, ql_60, qL_60, qt_60, qT_60, qe_60, qc_60, qi_60, ql_100, qL_100, qt_100, qT_100, qe_100, qc_100, qi_100, ql_200, qL_200, qt_200, qT_200, qe_200, qc_200, qi_200, ql_400, qL_400, qt_400, qT_400, qe_400, qc_400, qi_400, ql_600, qL_600, qt_600, qT_600, qe_600, qc_600, qi_600, ql_900, qL_900, qt_900, qT_900, qe_900, qc_900, qi_900, ql_1200, qL_1200, qt_1200, qT_1200, qe_1200, qc_1200, qi_1200, ql_65536, qL_65536, qt_65536, qT_65536, qe_65536, qc_65536, qi_65536, true_and, and_true, eq_self, forall_eq, forall_eq_apply_imp_iff]
      refine ⟨fun _ => ⟨fun q => ?_, fun q => ?_⟩, fun c => by omega⟩
      · have hw : w = false := by
          cases e : w with
          | false => rfl
          | true => rw [e] at q; exact absurd q (by decide)
        refine fin h1 (dFr.mk rFw.rf F) ⟨M1, fun s t hs ht hc => ?_⟩ (fun p hp => E p (by omega))
        have hs6 : s ≠ 60 := fun e => by unfold cS at hc; rw [if_pos e, hw] at hc; cases hc
        unfold cS at hc
        rw [if_neg hs6] at hc
        have := A s t (by omega) ht hc
        exact ⟨F.tb this.1, F.tr this.2⟩
      · refine s_cutWork M1 (fun t ht => F.tb (W t ht)) fun h2 T2 F2 => ?_
        refine fin h2 (tFw F F2) ⟨M1.of F2.1, fun s t hs ht hc => ?_⟩ (fun p hp => by rw [F2.2.1 _ _ _ (by omega)]; exact E p (by omega))
        by_cases hs6 : s = 60
        · subst hs6
          exact ⟨F2.tb (F.tb (W t ht)), T2 t ht⟩
        · unfold cS at hc
          rw [if_neg hs6] at hc
          have := A s t (by omega) ht hc
          have hl := (tree_len _ this.1.2.1).1
          exact ⟨F2.tb (F.tb this.1), F2.2.2.1 _ _ (by omega) (by omega) (F.tr this.2)⟩
    | succ r ih =>
      intro i h1 hi F E
      refine VX10_distinct_3 _ _ _ _ ?_
      have M1 := F.M M
      simp (disch := omega) only [(rM_k M1), (rM_r501 M1), (rM_k1 M1), (rM_n1 M1), (rM_r502 M1), (rM_k2 M1), (rM_n2 M1), (rM_r503 M1), (rM_k3 M1), (rM_n3 M1), (rM_r504 M1), (rM_k4 M1), (rM_n4 M1), (rM_r505 M1), (rM_k5 M1), (rM_n5 M1), (rM_r506 M1), (rM_k6 M1), (rM_n6 M1), (rM_r507 M1), (rM_k7 M1), (rM_n7 M1), (rM_r508 M1), (rM_k8 M1), (rM_n8 M1), (rM_r509 M1), (rM_k9 M1), (rM_n9 M1), (rM_r510 M1), (rM_k10 M1), (rM_n10 M1), (rM_r511 M1), (rM_k11 M1), (rM_n11 M1), (rM_r512 M1), (rM_k12 M1), (rM_n12 M1), (rM_r515 M1), (rM_k13 M1), (rM_n13 M1), (rM_r516 M1), (rM_k14 M1), (rM_n14 M1), (rM_r517 M1), (rM_k15 M1), (rM_n15 M1), (rM_r518 M1), (rM_k16 M1), (rM_n16 M1), (rM_r524 M1), (rM_k17 M1), (rM_n17 M1), (rM_r525 M1), (rM_k18 M1), (rM_n18 M1), (rM_r526 M1), (rM_k19 M1), (rM_n19 M1), (rM_r528 M1), (rM_k20 M1), (rM_n20 M1), (rM_r529 M1), (rM_k21 M1), (rM_n21 M1), (rM_r531 M1), (rM_k22 M1), (rM_n22 M1), (rM_r532 M1), (rM_k23 M1), (rM_n23 M1), (rM_r533 M1), (rM_k24 M1), (rM_n24 M1), qm_3, qm_4, qm_16, qm_600, qm_200, qm_8, qn_210, qn_3, qa_0, qb_0, qa_1, qb_1, qa_2, qb_2, qa_3, qb_3, qa_4, qb_4, qa_16, qb_16, qa_180, qb_180, qs_1, qs_2, qs_3, qs_4, qs_6, qs_24, nI_add, q_sub, q_pred, q_clamp, q_in, nI_leI, nI_ltI, nI_eq, ql_0, qL_0, qt_0, qT_0, qe_0, qc_0, qi_0, ql_1, qL_1, qt_1, qT_1, qe_1, qc_1, qi_1, ql_2, qL_2, qt_2, qT_2, qe_2, qc_2, qi_2, ql_3, qL_3, qt_3, qT_3, qe_3, qc_3, qi_3, ql_4, qL_4, qt_4, qT_4, qe_4, qc_4, qi_4, ql_6, qL_6, qt_6, qT_6, qe_6, qc_6, qi_6, ql_8, qL_8, qt_8, qT_8, qe_8, qc_8, qi_8, ql_10, qL_10, qt_10, qT_10, qe_10, qc_10, qi_10, ql_24, qL_24, qt_24, qT_24, qe_24, qc_24, qi_24, ql_60, qL_60, qt_60, qT_60, qe_60, qc_60, qi_60, ql_100, qL_100, qt_100, qT_100, qe_100, qc_100, qi_100, ql_200, qL_200, qt_200, qT_200, qe_200, qc_200, qi_200, ql_400, qL_400, qt_400, qT_400, qe_400, qc_400, qi_400, ql_600, qL_600, qt_600, qT_600, qe_600, qc_600, qi_600, ql_900, qL_900, qt_900, qT_900, qe_900, qc_900, qi_900, ql_1200, qL_1200, qt_1200, qT_1200, qe_1200, qc_1200, qi_1200, ql_65536, qL_65536, qt_65536, qT_65536, qe_65536, qc_65536, qi_65536, true_and, and_true, eq_self, forall_eq, forall_eq_apply_imp_iff]
      refine ⟨fun c => by omega, fun _ => ?_⟩
      refine ih (i + 1) _ (by omega) (F.trans tF.wr) fun p hp => ?_
      rw [jI_wI]
      by_cases e : p = i
      · rw [if_pos ⟨rfl, rfl, e⟩]
      · rw [if_neg (by omega)]; exact E p (by omega)
  exact loop 65536 0 h (by omega) tF.rf (fun p hp => by omega)
