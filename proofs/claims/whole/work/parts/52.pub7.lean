/-! what differs -/
def kb (k : Nat) (x y : Int32) : Int32 := if x = y then 0 else 1 <<< (nI k &&& 31)
def kd (x y : Row) : Int32 := ((8 + kb 0 x.2.1 y.2.1) + kb 1 x.2.2.1 y.2.2.1) + kb 2 x.2.2.2 y.2.2.2
theorem kd_8 (x y : Row) : kd x y = 8 ↔ x.2 = y.2 := by
  unfold kd kb
  constructor
  · intro h
    by_cases a : x.2.1 = y.2.1 <;> by_cases b : x.2.2.1 = y.2.2.1 <;> by_cases c : x.2.2.2 = y.2.2.2
    · exact Prod.ext a (Prod.ext b c)
    all_goals (simp only [a, b, c, if_true, if_false] at h; exact absurd h (by decide))
  · intro h
    rw [h]
    simp
def dif : Nat → List Row → List Row → List (Int32 × Int32)
  | 0, _, _ => []
  | _ + 1, [], [] => []
  | k + 1, x :: a, [] => (x.1, 2) :: dif k a []
  | k + 1, [], y :: b => (y.1, 1) :: dif k [] b
  | k + 1, x :: a, y :: b => if x.1 < y.1 then (x.1, 2) :: dif k a (y :: b) else if y.1 < x.1 then (y.1, 1) :: dif k (x :: a) b else (if kd x y = 8 then [] else [(x.1, kd x y)]) ++ dif k a b
theorem dif_len : ∀ (k : Nat) (a b : List Row), (dif k a b).length ≤ a.length + b.length := by
  intro k
  induction k with
  | zero => intro a b; simp [dif]
  | succ k ih =>
    intro a b
    cases a with
    | nil =>
      cases b with
      | nil => simp [dif]
      | cons y b => have := ih [] b; simp [dif] at this ⊢; omega
    | cons x a =>
      cases b with
      | nil => have := ih a []; simp [dif] at this ⊢; omega
      | cons y b =>
        rw [dif]
        split
        · have := ih a (y :: b); simp at this ⊢; omega
        · split
          · have := ih (x :: a) b; simp at this ⊢; omega
          · have := ih a b
            split <;> simp <;> omega
def difT (a b : List Row) : List (Int32 × Int32) := dif (a.length + b.length) a b
def a_diff (s : St) (x y z : Int32) : Int32 × St := match trAt s x z, trAt s y z with
  | some a, some b => (nI (difT a b).length, s.set5 (difT a b))
  | _, _ => (-5, s)
def a_diffKey (s : St) (x : Int32) : Int64 := match lim s.dl.length x with
  | none => nth
  | some i => Int32.toInt64 (s.dl.getD i (0, 0)).1
def a_diffKind (s : St) (x : Int32) : Int32 := match lim s.dl.length x with
  | none => 0
  | some i => (s.dl.getD i (0, 0)).2
theorem Rr.dadd {h : jj_H} {m : Nat} {s : St} {acc : List (Int32 × Int32)} {k v : Int32} (R : Rr h m (s.set5 acc)) : Rr (wI (wI (wI h 1000 (m + 20) acc.length k) 1000 (m + 21) acc.length v) 527 m 0 (nI (acc.length + 1))) m (s.set5 (acc ++ [(k, v)])) := by
  refine Rr.mk (((R.t.wI (s := s) (Or.inr (by omega))).wI (Or.inr (by omega))).wI (Or.inl rfl)) ⟨((R.g.1.wI (by omega)).wI (by omega)).wI (by omega), ((R.g.2.1.wI (by omega)).wI (by omega)).wI (by omega), ((R.g.2.2.1.wI (by omega)).wI (by omega)).wI (by omega), ⟨?_, fun i c hc => ?_⟩, ((R.g.2.2.2.2.wI (by omega)).wI (by omega)).wI (by omega)⟩
  · rw [jI_wI, if_pos ⟨rfl, rfl, rfl⟩]
    show _ = nI (acc ++ [(k, v)]).length
    rw [List.length_append]
    rfl
  · have hc' : (acc ++ [(k, v)])[i]? = some c := hc
    have q1 : jI (wI (wI (wI h 1000 (m + 20) acc.length k) 1000 (m + 21) acc.length v) 527 m 0 (nI (acc.length + 1))) 1000 (m + 20) i = if i = acc.length then k else jI h 1000 (m + 20) i := by
      rw [jI_wI, if_neg (by omega), jI_wI, if_neg (by omega), jI_wI]
      by_cases e : i = acc.length
      · rw [if_pos ⟨rfl, rfl, e⟩, if_pos e]
      · rw [if_neg (by omega), if_neg e]
    have q2 : jI (wI (wI (wI h 1000 (m + 20) acc.length k) 1000 (m + 21) acc.length v) 527 m 0 (nI (acc.length + 1))) 1000 (m + 21) i = if i = acc.length then v else jI h 1000 (m + 21) i := by
      rw [jI_wI, if_neg (by omega), jI_wI]
      by_cases e : i = acc.length
      · rw [if_pos ⟨rfl, rfl, e⟩, if_pos e]
      · rw [if_neg (by omega), if_neg e, jI_wI, if_neg (by omega)]
    rw [q1, q2]
    by_cases hi : i < acc.length
    · rw [List.getElem?_append_left hi] at hc'
      rw [if_neg (by omega), if_neg (by omega)]
      exact R.g.2.2.2.1.2 i c hc'
    · rw [List.getElem?_append_right (by omega)] at hc'
      have hz : i - acc.length < 1 := (List.getElem?_eq_some_iff.mp hc').1
      have hi2 : i = acc.length := by omega
      rw [hi2, Nat.sub_self] at hc'
      cases hc'
      rw [if_pos hi2, if_pos hi2]
      exact ⟨rfl, rfl⟩
theorem Rr.dzero {h : jj_H} {m : Nat} {s : St} (R : Rr h m s) : Rr (wI h 527 m 0 0) m (s.set5 []) :=
  Rr.mk (R.t.wI (s := s) (by omega)) ⟨R.g.1.wI (by omega), R.g.2.1.wI (by omega), R.g.2.2.1.wI (by omega), ⟨by rw [jI_wI, if_pos ⟨rfl, rfl, rfl⟩]; rfl, fun i c hc => by simp [St.set5] at hc⟩, R.g.2.2.2.2.wI (by omega)⟩
section JP7
variable {m : Nat} {s : St} {h : jj_H} {Q : Value → jj_H → Prop}
/-- one entry more -/
theorem s_dadd {d : jj_D} {p p' t i j : Nat} {acc : List (Int32 × Int32)} {x8 x9 : Nat} {one oth kind key : Int32} (R : Rr h m (s.set5 acc)) (hl : acc.length < 400) (h8 : one ≠ 0 → x8 < 37200 ∧ jI h 1000 (m + 1) x8 = key) (h9 : one = 0 → x9 < 37200 ∧ jI h 1000 (m + 1) x9 = key) (hk : kind ≠ 8)
    (K : ∀ h', Rr h' m (s.set5 (acc ++ [(key, kind)])) → rfr h h' m → jj_WP d mX10_diff 0 0 366 [(0, .ref m), (3, .int (nI t)), (4, .int (nI p)), (5, .int (nI p')), (6, .int (nI i)), (7, .int (nI j)), (10, .int one), (11, .int oth)] [] h' Q) :
    jj_WP d mX10_diff 0 0 307 [(0, .ref m), (3, .int (nI t)), (4, .int (nI p)), (5, .int (nI p')), (6, .int (nI i)), (7, .int (nI j)), (8, .int (nI x8)), (9, .int (nI x9)), (10, .int one), (11, .int oth), (12, .int kind)] [] h Q := by
  have M := R.1
  have hc : jI h 527 m 0 = nI acc.length := R.g.2.2.2.1.1
  refine VX10_diff_307 _ _ _ _ _ _ _ _ _ _ _ ⟨fun c => absurd c hk, fun _ => ⟨R.K, fun c => ?_, fun c => ?_⟩⟩
  · obtain ⟨b9, v9⟩ := h9 c
    have e1 : jI (wI h 1000 (m + 20) acc.length key) 527 m 0 = nI acc.length := by rw [jI_wI, if_neg (by omega)]; exact hc
    have e2 : jI (wI (wI h 1000 (m + 20) acc.length key) 1000 (m + 21) acc.length kind) 527 m 0 = nI acc.length := by rw [jI_wI, if_neg (by omega)]; exact e1
    simp (disch := omega) only [(rM_k M), (rM_r501 M), (rM_k1 M), (rM_n1 M), (rM_r502 M), (rM_k2 M), (rM_n2 M), (rM_r503 M), (rM_k3 M), (rM_n3 M), (rM_r504 M), (rM_k4 M), (rM_n4 M), (rM_r505 M), (rM_k5 M), (rM_n5 M), (rM_r506 M), (rM_k6 M), (rM_n6 M), (rM_r507 M), (rM_k7 M), (rM_n7 M), (rM_r508 M), (rM_k8 M), (rM_n8 M), (rM_r509 M), (rM_k9 M), (rM_n9 M), (rM_r510 M), (rM_k10 M), (rM_n10 M), (rM_r511 M), (rM_k11 M), (rM_n11 M), (rM_r512 M), (rM_k12 M), (rM_n12 M), (rM_r515 M), (rM_k13 M), (rM_n13 M), (rM_r516 M), (rM_k14 M), (rM_n14 M), (rM_r517 M), (rM_k15 M), (rM_n15 M), (rM_r518 M), (rM_k16 M), (rM_n16 M), (rM_r524 M), (rM_k17 M), (rM_n17 M), (rM_r525 M), (rM_k18 M), (rM_n18 M), (rM_r526 M), (rM_k19 M), (rM_n19 M), (rM_r528 M), (rM_k20 M), (rM_n20 M), (rM_r529 M), (rM_k21 M), (rM_n21 M), (rM_r531 M), (rM_k22 M), (rM_n22 M), (rM_r532 M), (rM_k23 M), (rM_n23 M), (rM_r533 M), (rM_k24 M), (rM_n24 M), qm_3, qm_4, qm_16, qm_600, qm_200, qm_8, qn_210, qn_3, qa_0, qb_0, qa_1, qb_1, qa_2, qb_2, qa_3, qb_3, qa_4, qb_4, qa_16, qb_16, qa_180, qb_180, qs_1, qs_2, qs_3, qs_4, qs_6, qs_24, nI_add, q_sub, q_pred, q_clamp, q_in, nI_leI, nI_ltI, nI_eq, ql_0, qL_0, qt_0, qT_0, qe_0, qc_0, qi_0, ql_1, qL_1, qt_1, qT_1, qe_1, qc_1, qi_1, ql_2, qL_2, qt_2, qT_2, qe_2, qc_2, qi_2, ql_3, qL_3, qt_3, qT_3, qe_3, qc_3, qi_3, ql_4, qL_4, qt_4, qT_4, qe_4, qc_4, qi_4, ql_6, qL_6, qt_6, qT_6, qe_6, qc_6, qi_6, ql_8, qL_8, qt_8, qT_8, qe_8, qc_8, qi_8, ql_10, qL_10, qt_10, qT_10, qe_10, qc_10, qi_10, ql_24, qL_24, qt_24, qT_24, qe_24, qc_24, qi_24, ql_60, qL_60, qt_60, qT_60, qe_60, qc_60, qi_60, ql_100, qL_100, qt_100, qT_100, qe_100, qc_100, qi_100, ql_200, qL_200, qt_200, qT_200, qe_200, qc_200, qi_200, ql_400, qL_400, qt_400, qT_400, qe_400, qc_400, qi_400, ql_600, qL_600, qt_600, qT_600, qe_600, qc_600, qi_600, ql_900, qL_900, qt_900, qT_900, qe_900, qc_900, qi_900, ql_1200, qL_1200, qt_1200, qT_1200, qe_1200, qc_1200, qi_1200, ql_65536, qL_65536, qt_65536, qT_65536, qe_65536, qc_65536, qi_65536, hc, v9, true_and, and_true, eq_self, forall_eq, forall_eq_apply_imp_iff, jR_wI, e1, e2]
    exact K _ R.dadd (((rfr.wI (by omega) (by omega)).trans (rfr.wI (by omega) (by omega))).trans (rfr.wI (by omega) (by omega)))
  · obtain ⟨b8, v8⟩ := h8 c
    have e1 : jI (wI h 1000 (m + 20) acc.length key) 527 m 0 = nI acc.length := by rw [jI_wI, if_neg (by omega)]; exact hc
    have e2 : jI (wI (wI h 1000 (m + 20) acc.length key) 1000 (m + 21) acc.length kind) 527 m 0 = nI acc.length := by rw [jI_wI, if_neg (by omega)]; exact e1
    simp (disch := omega) only [(rM_k M), (rM_r501 M), (rM_k1 M), (rM_n1 M), (rM_r502 M), (rM_k2 M), (rM_n2 M), (rM_r503 M), (rM_k3 M), (rM_n3 M), (rM_r504 M), (rM_k4 M), (rM_n4 M), (rM_r505 M), (rM_k5 M), (rM_n5 M), (rM_r506 M), (rM_k6 M), (rM_n6 M), (rM_r507 M), (rM_k7 M), (rM_n7 M), (rM_r508 M), (rM_k8 M), (rM_n8 M), (rM_r509 M), (rM_k9 M), (rM_n9 M), (rM_r510 M), (rM_k10 M), (rM_n10 M), (rM_r511 M), (rM_k11 M), (rM_n11 M), (rM_r512 M), (rM_k12 M), (rM_n12 M), (rM_r515 M), (rM_k13 M), (rM_n13 M), (rM_r516 M), (rM_k14 M), (rM_n14 M), (rM_r517 M), (rM_k15 M), (rM_n15 M), (rM_r518 M), (rM_k16 M), (rM_n16 M), (rM_r524 M), (rM_k17 M), (rM_n17 M), (rM_r525 M), (rM_k18 M), (rM_n18 M), (rM_r526 M), (rM_k19 M), (rM_n19 M), (rM_r528 M), (rM_k20 M), (rM_n20 M), (rM_r529 M), (rM_k21 M), (rM_n21 M), (rM_r531 M), (rM_k22 M), (rM_n22 M), (rM_r532 M), (rM_k23 M), (rM_n23 M), (rM_r533 M), (rM_k24 M), (rM_n24 M), qm_3, qm_4, qm_16, qm_600, qm_200, qm_8, qn_210, qn_3, qa_0, qb_0, qa_1, qb_1, qa_2, qb_2, qa_3, qb_3, qa_4, qb_4, qa_16, qb_16, qa_180, qb_180, qs_1, qs_2, qs_3, qs_4, qs_6, qs_24, nI_add, q_sub, q_pred, q_clamp, q_in, nI_leI, nI_ltI, nI_eq, ql_0, qL_0, qt_0, qT_0, qe_0, qc_0, qi_0, ql_1, qL_1, qt_1, qT_1, qe_1, qc_1, qi_1, ql_2, qL_2, qt_2, qT_2, qe_2, qc_2, qi_2, ql_3, qL_3, qt_3, qT_3, qe_3, qc_3, qi_3, ql_4, qL_4, qt_4, qT_4, qe_4, qc_4, qi_4, ql_6, qL_6, qt_6, qT_6, qe_6, qc_6, qi_6, ql_8, qL_8, qt_8, qT_8, qe_8, qc_8, qi_8, ql_10, qL_10, qt_10, qT_10, qe_10, qc_10, qi_10, ql_24, qL_24, qt_24, qT_24, qe_24, qc_24, qi_24, ql_60, qL_60, qt_60, qT_60, qe_60, qc_60, qi_60, ql_100, qL_100, qt_100, qT_100, qe_100, qc_100, qi_100, ql_200, qL_200, qt_200, qT_200, qe_200, qc_200, qi_200, ql_400, qL_400, qt_400, qT_400, qe_400, qc_400, qi_400, ql_600, qL_600, qt_600, qT_600, qe_600, qc_600, qi_600, ql_900, qL_900, qt_900, qT_900, qe_900, qc_900, qi_900, ql_1200, qL_1200, qt_1200, qT_1200, qe_1200, qc_1200, qi_1200, ql_65536, qL_65536, qt_65536, qT_65536, qe_65536, qc_65536, qi_65536, hc, v8, true_and, and_true, eq_self, forall_eq, forall_eq_apply_imp_iff, jR_wI, e1, e2]
    exact K _ R.dadd (((rfr.wI (by omega) (by omega)).trans (rfr.wI (by omega) (by omega))).trans (rfr.wI (by omega) (by omega)))
theorem set5_T {x : List (Int32 × Int32)} {p : Nat} (R : Rr h m (s.set5 x)) (hp : p < s.made ∨ p = 60) {t : Nat} (ht : t < 3) : rTb h m p t (s.T p t) := R.2.1 p hp t ht
theorem s_diff54 {d : jj_D} {p p' t : Nat} (hp : p < s.made ∨ p = 60) (hp' : p' < s.made ∨ p' = 60) (hp6 : p < 61) (hp6' : p' < 61) (ht : t < 3) (H : ∀ h', Rr h' m (s.set5 (difT (s.T p t) (s.T p' t))) → rfr h h' m → Q (.int (nI (difT (s.T p t) (s.T p' t)).length)) h') :
    ∀ k i j (h1 : jj_H) acc, (s.T p t).length - i + ((s.T p' t).length - j) ≤ k → i ≤ (s.T p t).length → j ≤ (s.T p' t).length → Rr h1 m (s.set5 acc) → rfr h h1 m → acc ++ dif k ((s.T p t).drop i) ((s.T p' t).drop j) = difT (s.T p t) (s.T p' t) → jj_WP d mX10_diff 0 0 54 [(0, .ref m), (3, .int (nI t)), (4, .int (nI p)), (5, .int (nI p')), (6, .int (nI i)), (7, .int (nI j))] [] h1 Q := by
  have htl : (difT (s.T p t) (s.T p' t)).length ≤ (s.T p t).length + (s.T p' t).length := dif_len _ _ _
  intro k
  induction k with
  | zero =>
    intro i j h1 acc hk hi hj R F hE
    have M := R.1
    have T := set5_T R hp ht
    have T' := set5_T R hp' ht
    have hz := T.1
    have hz' := T'.1
    have hn := T.2.1
    have hn' := T'.2.1
    have hc : jI h1 527 m 0 = nI acc.length := R.g.2.2.2.1.1
    refine VX10_diff_54 _ _ _ _ _ _ ?_
    simp (disch := omega) only [(rM_k M), (rM_r501 M), (rM_k1 M), (rM_n1 M), (rM_r502 M), (rM_k2 M), (rM_n2 M), (rM_r503 M), (rM_k3 M), (rM_n3 M), (rM_r504 M), (rM_k4 M), (rM_n4 M), (rM_r505 M), (rM_k5 M), (rM_n5 M), (rM_r506 M), (rM_k6 M), (rM_n6 M), (rM_r507 M), (rM_k7 M), (rM_n7 M), (rM_r508 M), (rM_k8 M), (rM_n8 M), (rM_r509 M), (rM_k9 M), (rM_n9 M), (rM_r510 M), (rM_k10 M), (rM_n10 M), (rM_r511 M), (rM_k11 M), (rM_n11 M), (rM_r512 M), (rM_k12 M), (rM_n12 M), (rM_r515 M), (rM_k13 M), (rM_n13 M), (rM_r516 M), (rM_k14 M), (rM_n14 M), (rM_r517 M), (rM_k15 M), (rM_n15 M), (rM_r518 M), (rM_k16 M), (rM_n16 M), (rM_r524 M), (rM_k17 M), (rM_n17 M), (rM_r525 M), (rM_k18 M), (rM_n18 M), (rM_r526 M), (rM_k19 M), (rM_n19 M), (rM_r528 M), (rM_k20 M), (rM_n20 M), (rM_r529 M), (rM_k21 M), (rM_n21 M), (rM_r531 M), (rM_k22 M), (rM_n22 M), (rM_r532 M), (rM_k23 M), (rM_n23 M), (rM_r533 M), (rM_k24 M), (rM_n24 M), qm_3, qm_4, qm_16, qm_600, qm_200, qm_8, qn_210, qn_3, qa_0, qb_0, qa_1, qb_1, qa_2, qb_2, qa_3, qb_3, qa_4, qb_4, qa_16, qb_16, qa_180, qb_180, qs_1, qs_2, qs_3, qs_4, qs_6, qs_24, nI_add, q_sub, q_pred, q_clamp, q_in, nI_leI, nI_ltI, nI_eq, ql_0, qL_0, qt_0, qT_0, qe_0, qc_0, qi_0, ql_1, qL_1, qt_1, qT_1, qe_1, qc_1, qi_1, ql_2, qL_2, qt_2, qT_2, qe_2, qc_2, qi_2, ql_3, qL_3, qt_3, qT_3, qe_3, qc_3, qi_3, ql_4, qL_4, qt_4, qT_4, qe_4, qc_4, qi_4, ql_6, qL_6, qt_6, qT_6, qe_6, qc_6, qi_6, ql_8, qL_8, qt_8, qT_8, qe_8, qc_8, qi_8, ql_10, qL_10, qt_10, qT_10, qe_10, qc_10, qi_10, ql_24, qL_24, qt_24, qT_24, qe_24, qc_24, qi_24, ql_60, qL_60, qt_60, qT_60, qe_60, qc_60, qi_60, ql_100, qL_100, qt_100, qT_100, qe_100, qc_100, qi_100, ql_200, qL_200, qt_200, qT_200, qe_200, qc_200, qi_200, ql_400, qL_400, qt_400, qT_400, qe_400, qc_400, qi_400, ql_600, qL_600, qt_600, qT_600, qe_600, qc_600, qi_600, ql_900, qL_900, qt_900, qT_900, qe_900, qc_900, qi_900, ql_1200, qL_1200, qt_1200, qT_1200, qe_1200, qc_1200, qi_1200, ql_65536, qL_65536, qt_65536, qT_65536, qe_65536, qc_65536, qi_65536, hz, hz', hc, true_and, and_true, eq_self, forall_eq, forall_eq_apply_imp_iff]
    refine ⟨fun c => by omega, fun _ => ⟨fun _ => ?_, fun c => by omega⟩⟩
    have e : acc = difT (s.T p t) (s.T p' t) := by rw [← hE]; simp [dif]
    rw [e] at R ⊢
    exact H h1 R F
  | succ k ih =>
    intro i j h1 acc hk hi hj R F hE
    have M := R.1
    have T := set5_T R hp ht
    have T' := set5_T R hp' ht
    have hz := T.1
    have hz' := T'.1
    have hn := T.2.1
    have hn' := T'.2.1
    have hc : jI h1 527 m 0 = nI acc.length := R.g.2.2.2.1.1
    generalize hA : s.T p t = A at *
    generalize hB : s.T p' t = B at *
    have hlen := congrArg List.length hE
    rw [List.length_append] at hlen
    have d1 : ∀ (h2 : jj_H) (acc' : List (Int32 × Int32)), Rr h2 m (s.set5 acc') → rfr h1 h2 m → i < A.length → acc' ++ dif k (A.drop (i + 1)) (B.drop j) = difT A B → jj_WP d mX10_diff 0 0 366 [(0, .ref m), (3, .int (nI t)), (4, .int (nI p)), (5, .int (nI p')), (6, .int (nI i)), (7, .int (nI j)), (10, .int 1), (11, .int 0)] [] h2 Q := by
      intro h2 acc' R2 F2 hi2 hE2
      refine VX10_diff_366 _ _ _ _ _ _ _ _ ⟨fun c => absurd c (by decide), fun _ => ⟨fun _ => ?_, fun c => absurd rfl c⟩⟩
      rw [qa_1, qa_0]
      exact ih (i + 1) j h2 acc' (by omega) (by omega) hj R2 (F.trans F2) hE2
    have d2 : ∀ (h2 : jj_H) (acc' : List (Int32 × Int32)), Rr h2 m (s.set5 acc') → rfr h1 h2 m → j < B.length → acc' ++ dif k (A.drop i) (B.drop (j + 1)) = difT A B → jj_WP d mX10_diff 0 0 366 [(0, .ref m), (3, .int (nI t)), (4, .int (nI p)), (5, .int (nI p')), (6, .int (nI i)), (7, .int (nI j)), (10, .int 0), (11, .int 1)] [] h2 Q := by
      intro h2 acc' R2 F2 hj2 hE2
      refine VX10_diff_366 _ _ _ _ _ _ _ _ ⟨fun _ => ⟨fun c => absurd c (by decide), fun _ => ?_⟩, fun c => absurd rfl c⟩
      rw [qa_1, qa_0]
      exact ih i (j + 1) h2 acc' (by omega) hi (by omega) R2 (F.trans F2) hE2
    have d3 : ∀ (h2 : jj_H) (acc' : List (Int32 × Int32)), Rr h2 m (s.set5 acc') → rfr h1 h2 m → i < A.length → j < B.length → acc' ++ dif k (A.drop (i + 1)) (B.drop (j + 1)) = difT A B → jj_WP d mX10_diff 0 0 366 [(0, .ref m), (3, .int (nI t)), (4, .int (nI p)), (5, .int (nI p')), (6, .int (nI i)), (7, .int (nI j)), (10, .int 1), (11, .int 1)] [] h2 Q := by
      intro h2 acc' R2 F2 hi2 hj2 hE2
      refine VX10_diff_366 _ _ _ _ _ _ _ _ ⟨fun c => absurd c (by decide), fun _ => ⟨fun c => absurd c (by decide), fun _ => ?_⟩⟩
      rw [qa_1, qa_1]
      exact ih (i + 1) (j + 1) h2 acc' (by omega) (by omega) (by omega) R2 (F.trans F2) hE2
    -- the head of one list alone
    have f1 : ∀ x, A[i]? = some x → acc ++ (x.1, 2) :: dif k (A.drop (i + 1)) (B.drop j) = difT A B → jj_WP d mX10_diff 0 0 218 [(0, .ref m), (3, .int (nI t)), (4, .int (nI p)), (5, .int (nI p')), (6, .int (nI i)), (7, .int (nI j)), (8, .int (nI (600 * p + 200 * t + i))), (9, .int (nI (600 * p' + 200 * t + j))), (10, .int 1)] [.int 0] h1 Q := by
      intro x hx hE2
      have hil := (List.getElem?_eq_some_iff.mp hx).1
      have l1 := congrArg List.length hE2
      simp only [List.length_append, List.length_cons] at l1
      refine VX10_diff_218 _ _ _ _ _ _ _ _ _ _ ⟨fun _ => ⟨fun c => absurd rfl c, fun _ => ⟨fun c => absurd c (by decide), fun _ => ⟨fun _ => ?_, fun c => absurd rfl c⟩⟩⟩, fun c => absurd c (by decide)⟩
      refine s_dadd (key := x.1) R (by omega) (fun _ => ⟨by omega, congrArg Prod.fst (T.2.2 i x hx)⟩) (fun c => absurd c (by decide)) (by decide) fun h2 R2 F2 => d1 h2 _ R2 F2 hil ?_
      rw [List.append_assoc]
      exact hE2
    have f2 : ∀ y, B[j]? = some y → acc ++ (y.1, 1) :: dif k (A.drop i) (B.drop (j + 1)) = difT A B → jj_WP d mX10_diff 0 0 218 [(0, .ref m), (3, .int (nI t)), (4, .int (nI p)), (5, .int (nI p')), (6, .int (nI i)), (7, .int (nI j)), (8, .int (nI (600 * p + 200 * t + i))), (9, .int (nI (600 * p' + 200 * t + j))), (10, .int 0)] [.int 1] h1 Q := by
      intro y hy hE2
      have hjl := (List.getElem?_eq_some_iff.mp hy).1
      have l1 := congrArg List.length hE2
      simp only [List.length_append, List.length_cons] at l1
      refine VX10_diff_218 _ _ _ _ _ _ _ _ _ _ ⟨fun c => absurd rfl c, fun _ => ⟨fun _ => ?_, fun c => absurd rfl c⟩⟩
      refine s_dadd (key := y.1) R (by omega) (fun c => absurd rfl c) (fun _ => ⟨by omega, congrArg Prod.fst (T'.2.2 j y hy)⟩) (by decide) fun h2 R2 F2 => d2 h2 _ R2 F2 hjl ?_
      rw [List.append_assoc]
      exact hE2
    have dropA : ∀ x, A[i]? = some x → A.drop i = x :: A.drop (i + 1) := fun x hx => by
      have hil := (List.getElem?_eq_some_iff.mp hx)
      rw [List.drop_eq_getElem_cons hil.1]
      congr 1
      exact hil.2
    have dropB : ∀ x, B[j]? = some x → B.drop j = x :: B.drop (j + 1) := fun x hx => by
      have hil := (List.getElem?_eq_some_iff.mp hx)
      rw [List.drop_eq_getElem_cons hil.1]
      congr 1
      exact hil.2
    have step : (i < A.length ∨ j < B.length) → jj_WP d mX10_diff 0 0 86 [(0, .ref m), (3, .int (nI t)), (4, .int (nI p)), (5, .int (nI p')), (6, .int (nI i)), (7, .int (nI j))] [] h1 Q := by
      intro hij
      refine VX10_diff_86 _ _ _ _ _ _ ⟨R.K, s_rowAt ⟨R.K, s_rowAt ?_⟩⟩
      by_cases h1i : i < A.length
      · obtain ⟨x, hx⟩ : ∃ x, A[i]? = some x := ⟨_, List.getElem?_eq_getElem h1i⟩
        have kx : jI h1 1000 (m + 1) (600 * p + 200 * t + i) = x.1 := congrArg Prod.fst (T.2.2 i x hx)
        by_cases h1j : j < B.length
        · obtain ⟨y, hy⟩ : ∃ x, B[j]? = some x := ⟨_, List.getElem?_eq_getElem h1j⟩
          have ky : jI h1 1000 (m + 1) (600 * p' + 200 * t + j) = y.1 := congrArg Prod.fst (T'.2.2 j y hy)
          rw [dropA x hx, dropB y hy, dif] at hE
          simp (disch := omega) only [jj_vi, (rM_k M), (rM_r501 M), (rM_k1 M), (rM_n1 M), (rM_r502 M), (rM_k2 M), (rM_n2 M), (rM_r503 M), (rM_k3 M), (rM_n3 M), (rM_r504 M), (rM_k4 M), (rM_n4 M), (rM_r505 M), (rM_k5 M), (rM_n5 M), (rM_r506 M), (rM_k6 M), (rM_n6 M), (rM_r507 M), (rM_k7 M), (rM_n7 M), (rM_r508 M), (rM_k8 M), (rM_n8 M), (rM_r509 M), (rM_k9 M), (rM_n9 M), (rM_r510 M), (rM_k10 M), (rM_n10 M), (rM_r511 M), (rM_k11 M), (rM_n11 M), (rM_r512 M), (rM_k12 M), (rM_n12 M), (rM_r515 M), (rM_k13 M), (rM_n13 M), (rM_r516 M), (rM_k14 M), (rM_n14 M), (rM_r517 M), (rM_k15 M), (rM_n15 M), (rM_r518 M), (rM_k16 M), (rM_n16 M), (rM_r524 M), (rM_k17 M), (rM_n17 M), (rM_r525 M), (rM_k18 M), (rM_n18 M), (rM_r526 M), (rM_k19 M), (rM_n19 M), (rM_r528 M), (rM_k20 M), (rM_n20 M), (rM_r529 M), (rM_k21 M), (rM_n21 M), (rM_r531 M), (rM_k22 M), (rM_n22 M), (rM_r532 M), (rM_k23 M), (rM_n23 M), (rM_r533 M), (rM_k24 M), (rM_n24 M), qm_3, qm_4, qm_16, qm_600, qm_200, qm_8, qn_210, qn_3, qa_0, qb_0, qa_1, qb_1, qa_2, qb_2, qa_3, qb_3, qa_4, qb_4, qa_16, qb_16, qa_180, qb_180, qs_1, qs_2, qs_3, qs_4, qs_6, qs_24, nI_add, q_sub, q_pred, q_clamp, q_in, nI_leI, nI_ltI, nI_eq, ql_0, qL_0, qt_0, qT_0, qe_0, qc_0, qi_0, ql_1, qL_1, qt_1, qT_1, qe_1, qc_1, qi_1, ql_2, qL_2, qt_2, qT_2, qe_2, qc_2, qi_2, ql_3, qL_3, qt_3, qT_3, qe_3, qc_3, qi_3, ql_4, qL_4, qt_4, qT_4, qe_4, qc_4, qi_4, ql_6, qL_6, qt_6, qT_6, qe_6, qc_6, qi_6, ql_8, qL_8, qt_8, qT_8, qe_8, qc_8, qi_8, ql_10, qL_10, qt_10, qT_10, qe_10, qc_10, qi_10, ql_24, qL_24, qt_24, qT_24, qe_24, qc_24, qi_24, ql_60, qL_60, qt_60, qT_60, qe_60, qc_60, qi_60, ql_100, qL_100, qt_100, qT_100, qe_100, qc_100, qi_100, ql_200, qL_200, qt_200, qT_200, qe_200, qc_200, qi_200, ql_400, qL_400, qt_400, qT_400, qe_400, qc_400, qi_400, ql_600, qL_600, qt_600, qT_600, qe_600, qc_600, qi_600, ql_900, qL_900, qt_900, qT_900, qe_900, qc_900, qi_900, ql_1200, qL_1200, qt_1200, qT_1200, qe_1200, qc_1200, qi_1200, ql_65536, qL_65536, qt_65536, qT_65536, qe_65536, qc_65536, qi_65536, hz, hz', kx, ky, true_and, and_true, eq_self, forall_eq, forall_eq_apply_imp_iff]
          refine ⟨fun c => by omega, fun _ => ⟨fun c => by omega, fun _ => ⟨fun c => ?_, fun c => ?_⟩⟩⟩
          · -- y first
            refine VX10_diff_162 _ _ _ _ _ _ _ _ _ ?_
            simp (disch := omega) only [(rM_k M), (rM_r501 M), (rM_k1 M), (rM_n1 M), (rM_r502 M), (rM_k2 M), (rM_n2 M), (rM_r503 M), (rM_k3 M), (rM_n3 M), (rM_r504 M), (rM_k4 M), (rM_n4 M), (rM_r505 M), (rM_k5 M), (rM_n5 M), (rM_r506 M), (rM_k6 M), (rM_n6 M), (rM_r507 M), (rM_k7 M), (rM_n7 M), (rM_r508 M), (rM_k8 M), (rM_n8 M), (rM_r509 M), (rM_k9 M), (rM_n9 M), (rM_r510 M), (rM_k10 M), (rM_n10 M), (rM_r511 M), (rM_k11 M), (rM_n11 M), (rM_r512 M), (rM_k12 M), (rM_n12 M), (rM_r515 M), (rM_k13 M), (rM_n13 M), (rM_r516 M), (rM_k14 M), (rM_n14 M), (rM_r517 M), (rM_k15 M), (rM_n15 M), (rM_r518 M), (rM_k16 M), (rM_n16 M), (rM_r524 M), (rM_k17 M), (rM_n17 M), (rM_r525 M), (rM_k18 M), (rM_n18 M), (rM_r526 M), (rM_k19 M), (rM_n19 M), (rM_r528 M), (rM_k20 M), (rM_n20 M), (rM_r529 M), (rM_k21 M), (rM_n21 M), (rM_r531 M), (rM_k22 M), (rM_n22 M), (rM_r532 M), (rM_k23 M), (rM_n23 M), (rM_r533 M), (rM_k24 M), (rM_n24 M), qm_3, qm_4, qm_16, qm_600, qm_200, qm_8, qn_210, qn_3, qa_0, qb_0, qa_1, qb_1, qa_2, qb_2, qa_3, qb_3, qa_4, qb_4, qa_16, qb_16, qa_180, qb_180, qs_1, qs_2, qs_3, qs_4, qs_6, qs_24, nI_add, q_sub, q_pred, q_clamp, q_in, nI_leI, nI_ltI, nI_eq, ql_0, qL_0, qt_0, qT_0, qe_0, qc_0, qi_0, ql_1, qL_1, qt_1, qT_1, qe_1, qc_1, qi_1, ql_2, qL_2, qt_2, qT_2, qe_2, qc_2, qi_2, ql_3, qL_3, qt_3, qT_3, qe_3, qc_3, qi_3, ql_4, qL_4, qt_4, qT_4, qe_4, qc_4, qi_4, ql_6, qL_6, qt_6, qT_6, qe_6, qc_6, qi_6, ql_8, qL_8, qt_8, qT_8, qe_8, qc_8, qi_8, ql_10, qL_10, qt_10, qT_10, qe_10, qc_10, qi_10, ql_24, qL_24, qt_24, qT_24, qe_24, qc_24, qi_24, ql_60, qL_60, qt_60, qT_60, qe_60, qc_60, qi_60, ql_100, qL_100, qt_100, qT_100, qe_100, qc_100, qi_100, ql_200, qL_200, qt_200, qT_200, qe_200, qc_200, qi_200, ql_400, qL_400, qt_400, qT_400, qe_400, qc_400, qi_400, ql_600, qL_600, qt_600, qT_600, qe_600, qc_600, qi_600, ql_900, qL_900, qt_900, qT_900, qe_900, qc_900, qi_900, ql_1200, qL_1200, qt_1200, qT_1200, qe_1200, qc_1200, qi_1200, ql_65536, qL_65536, qt_65536, qT_65536, qe_65536, qc_65536, qi_65536, hz, hz', kx, ky, true_and, and_true, eq_self, forall_eq, forall_eq_apply_imp_iff]
            have nx : ¬ x.1 < y.1 := fun q => i32_irr _ (Int32.lt_trans q c)
            refine ⟨fun c => by omega, fun _ => ⟨fun c => by omega, fun _ => ⟨fun q => absurd q nx, fun _ => ?_⟩⟩⟩
            rw [if_neg nx, if_pos c, ← dropA x hx] at hE
            exact f2 y hy hE
          · refine VX10_diff_162 _ _ _ _ _ _ _ _ _ ?_
            simp (disch := omega) only [(rM_k M), (rM_r501 M), (rM_k1 M), (rM_n1 M), (rM_r502 M), (rM_k2 M), (rM_n2 M), (rM_r503 M), (rM_k3 M), (rM_n3 M), (rM_r504 M), (rM_k4 M), (rM_n4 M), (rM_r505 M), (rM_k5 M), (rM_n5 M), (rM_r506 M), (rM_k6 M), (rM_n6 M), (rM_r507 M), (rM_k7 M), (rM_n7 M), (rM_r508 M), (rM_k8 M), (rM_n8 M), (rM_r509 M), (rM_k9 M), (rM_n9 M), (rM_r510 M), (rM_k10 M), (rM_n10 M), (rM_r511 M), (rM_k11 M), (rM_n11 M), (rM_r512 M), (rM_k12 M), (rM_n12 M), (rM_r515 M), (rM_k13 M), (rM_n13 M), (rM_r516 M), (rM_k14 M), (rM_n14 M), (rM_r517 M), (rM_k15 M), (rM_n15 M), (rM_r518 M), (rM_k16 M), (rM_n16 M), (rM_r524 M), (rM_k17 M), (rM_n17 M), (rM_r525 M), (rM_k18 M), (rM_n18 M), (rM_r526 M), (rM_k19 M), (rM_n19 M), (rM_r528 M), (rM_k20 M), (rM_n20 M), (rM_r529 M), (rM_k21 M), (rM_n21 M), (rM_r531 M), (rM_k22 M), (rM_n22 M), (rM_r532 M), (rM_k23 M), (rM_n23 M), (rM_r533 M), (rM_k24 M), (rM_n24 M), qm_3, qm_4, qm_16, qm_600, qm_200, qm_8, qn_210, qn_3, qa_0, qb_0, qa_1, qb_1, qa_2, qb_2, qa_3, qb_3, qa_4, qb_4, qa_16, qb_16, qa_180, qb_180, qs_1, qs_2, qs_3, qs_4, qs_6, qs_24, nI_add, q_sub, q_pred, q_clamp, q_in, nI_leI, nI_ltI, nI_eq, ql_0, qL_0, qt_0, qT_0, qe_0, qc_0, qi_0, ql_1, qL_1, qt_1, qT_1, qe_1, qc_1, qi_1, ql_2, qL_2, qt_2, qT_2, qe_2, qc_2, qi_2, ql_3, qL_3, qt_3, qT_3, qe_3, qc_3, qi_3, ql_4, qL_4, qt_4, qT_4, qe_4, qc_4, qi_4, ql_6, qL_6, qt_6, qT_6, qe_6, qc_6, qi_6, ql_8, qL_8, qt_8, qT_8, qe_8, qc_8, qi_8, ql_10, qL_10, qt_10, qT_10, qe_10, qc_10, qi_10, ql_24, qL_24, qt_24, qT_24, qe_24, qc_24, qi_24, ql_60, qL_60, qt_60, qT_60, qe_60, qc_60, qi_60, ql_100, qL_100, qt_100, qT_100, qe_100, qc_100, qi_100, ql_200, qL_200, qt_200, qT_200, qe_200, qc_200, qi_200, ql_400, qL_400, qt_400, qT_400, qe_400, qc_400, qi_400, ql_600, qL_600, qt_600, qT_600, qe_600, qc_600, qi_600, ql_900, qL_900, qt_900, qT_900, qe_900, qc_900, qi_900, ql_1200, qL_1200, qt_1200, qT_1200, qe_1200, qc_1200, qi_1200, ql_65536, qL_65536, qt_65536, qT_65536, qe_65536, qc_65536, qi_65536, hz, hz', kx, ky, true_and, and_true, eq_self, forall_eq, forall_eq_apply_imp_iff]
            refine ⟨fun c => by omega, fun _ => ⟨fun c => by omega, fun _ => ⟨fun q => ?_, fun q => ?_⟩⟩⟩
            · rw [if_pos q, ← dropB y hy] at hE
              exact f1 x hx hE
            · rw [if_neg q, if_neg c] at hE
              refine VX10_diff_218 _ _ _ _ _ _ _ _ _ _ ⟨fun _ => ⟨fun _ => ⟨fun c => absurd c (by decide), fun _ => ⟨fun c => absurd c (by decide), fun _ => ?_⟩⟩, fun c => absurd c (by decide)⟩, fun c => absurd c (by decide)⟩
              have ex := T.2.2 i x hx
              have ey := T'.2.2 j y hy
              have c0 : jI h1 1000 (m + 2) (3 * (600 * p + 200 * t + i) + 0) = x.2.1 := congrArg (fun r : Row => r.2.1) ex
              have c1 : jI h1 1000 (m + 2) (3 * (600 * p + 200 * t + i) + 1) = x.2.2.1 := congrArg (fun r : Row => r.2.2.1) ex
              have c2 : jI h1 1000 (m + 2) (3 * (600 * p + 200 * t + i) + 2) = x.2.2.2 := congrArg (fun r : Row => r.2.2.2) ex
              have e0 : jI h1 1000 (m + 2) (3 * (600 * p' + 200 * t + j) + 0) = y.2.1 := congrArg (fun r : Row => r.2.1) ey
              have e1 : jI h1 1000 (m + 2) (3 * (600 * p' + 200 * t + j) + 1) = y.2.2.1 := congrArg (fun r : Row => r.2.2.1) ey
              have e2 : jI h1 1000 (m + 2) (3 * (600 * p' + 200 * t + j) + 2) = y.2.2.2 := congrArg (fun r : Row => r.2.2.2) ey
              have fin : jj_WP d mX10_diff 0 0 307 [(0, .ref m), (3, .int (nI t)), (4, .int (nI p)), (5, .int (nI p')), (6, .int (nI i)), (7, .int (nI j)), (8, .int (nI (600 * p + 200 * t + i))), (9, .int (nI (600 * p' + 200 * t + j))), (10, .int 1), (11, .int 1), (12, .int (kd x y))] [] h1 Q := by
                by_cases q8 : kd x y = 8
                · rw [if_pos q8, List.nil_append] at hE
                  exact VX10_diff_307 _ _ _ _ _ _ _ _ _ _ _ ⟨fun _ => d3 h1 acc R rfr.rf h1i h1j hE, fun c => absurd q8 c⟩
                · rw [if_neg q8] at hE
                  have l1 := congrArg List.length hE
                  simp only [List.length_append, List.length_singleton] at l1
                  refine s_dadd (key := x.1) R (by omega) (fun _ => ⟨by omega, kx⟩) (fun c => absurd c (by decide)) q8 fun h2 R2 F2 => d3 h2 _ R2 F2 h1i h1j ?_
                  rw [List.append_assoc]
                  exact hE
              have k3 : jj_WP d mX10_diff 0 0 255 [(0, .ref m), (3, .int (nI t)), (4, .int (nI p)), (5, .int (nI p')), (6, .int (nI i)), (7, .int (nI j)), (8, .int (nI (600 * p + 200 * t + i))), (9, .int (nI (600 * p' + 200 * t + j))), (10, .int 1), (11, .int 1), (12, .int (kd x y)), (13, .int (nI 3))] [] h1 Q := VX10_diff_255 _ _ _ _ _ _ _ _ _ _ _ _ ⟨fun _ => fin, fun c => absurd (by decide) c⟩
              have st : ∀ (n : Nat) (v u w : Int32), n < 3 → jI h1 1000 (m + 2) (3 * (600 * p + 200 * t + i) + n) = u → jI h1 1000 (m + 2) (3 * (600 * p' + 200 * t + j) + n) = w → jj_WP d mX10_diff 0 0 255 [(0, .ref m), (3, .int (nI t)), (4, .int (nI p)), (5, .int (nI p')), (6, .int (nI i)), (7, .int (nI j)), (8, .int (nI (600 * p + 200 * t + i))), (9, .int (nI (600 * p' + 200 * t + j))), (10, .int 1), (11, .int 1), (12, .int (v + kb n u w)), (13, .int (nI (n + 1)))] [] h1 Q → jj_WP d mX10_diff 0 0 255 [(0, .ref m), (3, .int (nI t)), (4, .int (nI p)), (5, .int (nI p')), (6, .int (nI i)), (7, .int (nI j)), (8, .int (nI (600 * p + 200 * t + i))), (9, .int (nI (600 * p' + 200 * t + j))), (10, .int 1), (11, .int 1), (12, .int v), (13, .int (nI n))] [] h1 Q := by
                intro n v u w hn3 eu ew nxt
                refine VX10_diff_255 _ _ _ _ _ _ _ _ _ _ _ _ ?_
                simp (disch := omega) only [(rM_k M), (rM_r501 M), (rM_k1 M), (rM_n1 M), (rM_r502 M), (rM_k2 M), (rM_n2 M), (rM_r503 M), (rM_k3 M), (rM_n3 M), (rM_r504 M), (rM_k4 M), (rM_n4 M), (rM_r505 M), (rM_k5 M), (rM_n5 M), (rM_r506 M), (rM_k6 M), (rM_n6 M), (rM_r507 M), (rM_k7 M), (rM_n7 M), (rM_r508 M), (rM_k8 M), (rM_n8 M), (rM_r509 M), (rM_k9 M), (rM_n9 M), (rM_r510 M), (rM_k10 M), (rM_n10 M), (rM_r511 M), (rM_k11 M), (rM_n11 M), (rM_r512 M), (rM_k12 M), (rM_n12 M), (rM_r515 M), (rM_k13 M), (rM_n13 M), (rM_r516 M), (rM_k14 M), (rM_n14 M), (rM_r517 M), (rM_k15 M), (rM_n15 M), (rM_r518 M), (rM_k16 M), (rM_n16 M), (rM_r524 M), (rM_k17 M), (rM_n17 M), (rM_r525 M), (rM_k18 M), (rM_n18 M), (rM_r526 M), (rM_k19 M), (rM_n19 M), (rM_r528 M), (rM_k20 M), (rM_n20 M), (rM_r529 M), (rM_k21 M), (rM_n21 M), (rM_r531 M), (rM_k22 M), (rM_n22 M), (rM_r532 M), (rM_k23 M), (rM_n23 M), (rM_r533 M), (rM_k24 M), (rM_n24 M), qm_3, qm_4, qm_16, qm_600, qm_200, qm_8, qn_210, qn_3, qa_0, qb_0, qa_1, qb_1, qa_2, qb_2, qa_3, qb_3, qa_4, qb_4, qa_16, qb_16, qa_180, qb_180, qs_1, qs_2, qs_3, qs_4, qs_6, qs_24, nI_add, q_sub, q_pred, q_clamp, q_in, nI_leI, nI_ltI, nI_eq, ql_0, qL_0, qt_0, qT_0, qe_0, qc_0, qi_0, ql_1, qL_1, qt_1, qT_1, qe_1, qc_1, qi_1, ql_2, qL_2, qt_2, qT_2, qe_2, qc_2, qi_2, ql_3, qL_3, qt_3, qT_3, qe_3, qc_3, qi_3, ql_4, qL_4, qt_4, qT_4, qe_4, qc_4, qi_4, ql_6, qL_6, qt_6, qT_6, qe_6, qc_6, qi_6, ql_8, qL_8, qt_8, qT_8, qe_8, qc_8, qi_8, ql_10, qL_10, qt_10, qT_10, qe_10, qc_10, qi_10, ql_24, qL_24, qt_24, qT_24, qe_24, qc_24, qi_24, ql_60, qL_60, qt_60, qT_60, qe_60, qc_60, qi_60, ql_100, qL_100, qt_100, qT_100, qe_100, qc_100, qi_100, ql_200, qL_200, qt_200, qT_200, qe_200, qc_200, qi_200, ql_400, qL_400, qt_400, qT_400, qe_400, qc_400, qi_400, ql_600, qL_600, qt_600, qT_600, qe_600, qc_600, qi_600, ql_900, qL_900, qt_900, qT_900, qe_900, qc_900, qi_900, ql_1200, qL_1200, qt_1200, qT_1200, qe_1200, qc_1200, qi_1200, ql_65536, qL_65536, qt_65536, qT_65536, qe_65536, qc_65536, qi_65536, eu, ew, true_and, and_true, eq_self, forall_eq, forall_eq_apply_imp_iff]
                unfold kb at nxt
                refine ⟨fun c => by omega, fun _ => ⟨fun z => ?_, fun z => ?_⟩⟩
                · rw [if_pos z] at nxt; exact nxt
                · rw [if_neg z] at nxt; exact nxt
              exact st 0 8 _ _ (by omega) c0 e0 (st 1 _ _ _ (by omega) c1 e1 (st 2 _ _ _ (by omega) c2 e2 k3))
        · have hBn : B.drop j = [] := List.drop_eq_nil_of_le (by omega)
          rw [dropA x hx, hBn, dif, ← hBn] at hE
          simp (disch := omega) only [jj_vi, (rM_k M), (rM_r501 M), (rM_k1 M), (rM_n1 M), (rM_r502 M), (rM_k2 M), (rM_n2 M), (rM_r503 M), (rM_k3 M), (rM_n3 M), (rM_r504 M), (rM_k4 M), (rM_n4 M), (rM_r505 M), (rM_k5 M), (rM_n5 M), (rM_r506 M), (rM_k6 M), (rM_n6 M), (rM_r507 M), (rM_k7 M), (rM_n7 M), (rM_r508 M), (rM_k8 M), (rM_n8 M), (rM_r509 M), (rM_k9 M), (rM_n9 M), (rM_r510 M), (rM_k10 M), (rM_n10 M), (rM_r511 M), (rM_k11 M), (rM_n11 M), (rM_r512 M), (rM_k12 M), (rM_n12 M), (rM_r515 M), (rM_k13 M), (rM_n13 M), (rM_r516 M), (rM_k14 M), (rM_n14 M), (rM_r517 M), (rM_k15 M), (rM_n15 M), (rM_r518 M), (rM_k16 M), (rM_n16 M), (rM_r524 M), (rM_k17 M), (rM_n17 M), (rM_r525 M), (rM_k18 M), (rM_n18 M), (rM_r526 M), (rM_k19 M), (rM_n19 M), (rM_r528 M), (rM_k20 M), (rM_n20 M), (rM_r529 M), (rM_k21 M), (rM_n21 M), (rM_r531 M), (rM_k22 M), (rM_n22 M), (rM_r532 M), (rM_k23 M), (rM_n23 M), (rM_r533 M), (rM_k24 M), (rM_n24 M), qm_3, qm_4, qm_16, qm_600, qm_200, qm_8, qn_210, qn_3, qa_0, qb_0, qa_1, qb_1, qa_2, qb_2, qa_3, qb_3, qa_4, qb_4, qa_16, qb_16, qa_180, qb_180, qs_1, qs_2, qs_3, qs_4, qs_6, qs_24, nI_add, q_sub, q_pred, q_clamp, q_in, nI_leI, nI_ltI, nI_eq, ql_0, qL_0, qt_0, qT_0, qe_0, qc_0, qi_0, ql_1, qL_1, qt_1, qT_1, qe_1, qc_1, qi_1, ql_2, qL_2, qt_2, qT_2, qe_2, qc_2, qi_2, ql_3, qL_3, qt_3, qT_3, qe_3, qc_3, qi_3, ql_4, qL_4, qt_4, qT_4, qe_4, qc_4, qi_4, ql_6, qL_6, qt_6, qT_6, qe_6, qc_6, qi_6, ql_8, qL_8, qt_8, qT_8, qe_8, qc_8, qi_8, ql_10, qL_10, qt_10, qT_10, qe_10, qc_10, qi_10, ql_24, qL_24, qt_24, qT_24, qe_24, qc_24, qi_24, ql_60, qL_60, qt_60, qT_60, qe_60, qc_60, qi_60, ql_100, qL_100, qt_100, qT_100, qe_100, qc_100, qi_100, ql_200, qL_200, qt_200, qT_200, qe_200, qc_200, qi_200, ql_400, qL_400, qt_400, qT_400, qe_400, qc_400, qi_400, ql_600, qL_600, qt_600, qT_600, qe_600, qc_600, qi_600, ql_900, qL_900, qt_900, qT_900, qe_900, qc_900, qi_900, ql_1200, qL_1200, qt_1200, qT_1200, qe_1200, qc_1200, qi_1200, ql_65536, qL_65536, qt_65536, qT_65536, qe_65536, qc_65536, qi_65536, hz, hz', true_and, and_true, eq_self, forall_eq, forall_eq_apply_imp_iff]
          refine ⟨fun c => by omega, fun _ => ⟨fun _ => ?_, fun c => by omega⟩⟩
          refine VX10_diff_162 _ _ _ _ _ _ _ _ _ ?_
          simp (disch := omega) only [(rM_k M), (rM_r501 M), (rM_k1 M), (rM_n1 M), (rM_r502 M), (rM_k2 M), (rM_n2 M), (rM_r503 M), (rM_k3 M), (rM_n3 M), (rM_r504 M), (rM_k4 M), (rM_n4 M), (rM_r505 M), (rM_k5 M), (rM_n5 M), (rM_r506 M), (rM_k6 M), (rM_n6 M), (rM_r507 M), (rM_k7 M), (rM_n7 M), (rM_r508 M), (rM_k8 M), (rM_n8 M), (rM_r509 M), (rM_k9 M), (rM_n9 M), (rM_r510 M), (rM_k10 M), (rM_n10 M), (rM_r511 M), (rM_k11 M), (rM_n11 M), (rM_r512 M), (rM_k12 M), (rM_n12 M), (rM_r515 M), (rM_k13 M), (rM_n13 M), (rM_r516 M), (rM_k14 M), (rM_n14 M), (rM_r517 M), (rM_k15 M), (rM_n15 M), (rM_r518 M), (rM_k16 M), (rM_n16 M), (rM_r524 M), (rM_k17 M), (rM_n17 M), (rM_r525 M), (rM_k18 M), (rM_n18 M), (rM_r526 M), (rM_k19 M), (rM_n19 M), (rM_r528 M), (rM_k20 M), (rM_n20 M), (rM_r529 M), (rM_k21 M), (rM_n21 M), (rM_r531 M), (rM_k22 M), (rM_n22 M), (rM_r532 M), (rM_k23 M), (rM_n23 M), (rM_r533 M), (rM_k24 M), (rM_n24 M), qm_3, qm_4, qm_16, qm_600, qm_200, qm_8, qn_210, qn_3, qa_0, qb_0, qa_1, qb_1, qa_2, qb_2, qa_3, qb_3, qa_4, qb_4, qa_16, qb_16, qa_180, qb_180, qs_1, qs_2, qs_3, qs_4, qs_6, qs_24, nI_add, q_sub, q_pred, q_clamp, q_in, nI_leI, nI_ltI, nI_eq, ql_0, qL_0, qt_0, qT_0, qe_0, qc_0, qi_0, ql_1, qL_1, qt_1, qT_1, qe_1, qc_1, qi_1, ql_2, qL_2, qt_2, qT_2, qe_2, qc_2, qi_2, ql_3, qL_3, qt_3, qT_3, qe_3, qc_3, qi_3, ql_4, qL_4, qt_4, qT_4, qe_4, qc_4, qi_4, ql_6, qL_6, qt_6, qT_6, qe_6, qc_6, qi_6, ql_8, qL_8, qt_8, qT_8, qe_8, qc_8, qi_8, ql_10, qL_10, qt_10, qT_10, qe_10, qc_10, qi_10, ql_24, qL_24, qt_24, qT_24, qe_24, qc_24, qi_24, ql_60, qL_60, qt_60, qT_60, qe_60, qc_60, qi_60, ql_100, qL_100, qt_100, qT_100, qe_100, qc_100, qi_100, ql_200, qL_200, qt_200, qT_200, qe_200, qc_200, qi_200, ql_400, qL_400, qt_400, qT_400, qe_400, qc_400, qi_400, ql_600, qL_600, qt_600, qT_600, qe_600, qc_600, qi_600, ql_900, qL_900, qt_900, qT_900, qe_900, qc_900, qi_900, ql_1200, qL_1200, qt_1200, qT_1200, qe_1200, qc_1200, qi_1200, ql_65536, qL_65536, qt_65536, qT_65536, qe_65536, qc_65536, qi_65536, hz, hz', true_and, and_true, eq_self, forall_eq, forall_eq_apply_imp_iff]
          exact ⟨fun _ => f1 x hx hE, fun c => by omega⟩
      · have h1j : j < B.length := by omega
        obtain ⟨y, hy⟩ : ∃ x, B[j]? = some x := ⟨_, List.getElem?_eq_getElem h1j⟩
        have hAn : A.drop i = [] := List.drop_eq_nil_of_le (by omega)
        rw [hAn, dropB y hy, dif, ← hAn] at hE
        simp (disch := omega) only [jj_vi, (rM_k M), (rM_r501 M), (rM_k1 M), (rM_n1 M), (rM_r502 M), (rM_k2 M), (rM_n2 M), (rM_r503 M), (rM_k3 M), (rM_n3 M), (rM_r504 M), (rM_k4 M), (rM_n4 M), (rM_r505 M), (rM_k5 M), (rM_n5 M), (rM_r506 M), (rM_k6 M), (rM_n6 M), (rM_r507 M), (rM_k7 M), (rM_n7 M), (rM_r508 M), (rM_k8 M), (rM_n8 M), (rM_r509 M), (rM_k9 M), (rM_n9 M), (rM_r510 M), (rM_k10 M), (rM_n10 M), (rM_r511 M), (rM_k11 M), (rM_n11 M), (rM_r512 M), (rM_k12 M), (rM_n12 M), (rM_r515 M), (rM_k13 M), (rM_n13 M), (rM_r516 M), (rM_k14 M), (rM_n14 M), (rM_r517 M), (rM_k15 M), (rM_n15 M), (rM_r518 M), (rM_k16 M), (rM_n16 M), (rM_r524 M), (rM_k17 M), (rM_n17 M), (rM_r525 M), (rM_k18 M), (rM_n18 M), (rM_r526 M), (rM_k19 M), (rM_n19 M), (rM_r528 M), (rM_k20 M), (rM_n20 M), (rM_r529 M), (rM_k21 M), (rM_n21 M), (rM_r531 M), (rM_k22 M), (rM_n22 M), (rM_r532 M), (rM_k23 M), (rM_n23 M), (rM_r533 M), (rM_k24 M), (rM_n24 M), qm_3, qm_4, qm_16, qm_600, qm_200, qm_8, qn_210, qn_3, qa_0, qb_0, qa_1, qb_1, qa_2, qb_2, qa_3, qb_3, qa_4, qb_4, qa_16, qb_16, qa_180, qb_180, qs_1, qs_2, qs_3, qs_4, qs_6, qs_24, nI_add, q_sub, q_pred, q_clamp, q_in, nI_leI, nI_ltI, nI_eq, ql_0, qL_0, qt_0, qT_0, qe_0, qc_0, qi_0, ql_1, qL_1, qt_1, qT_1, qe_1, qc_1, qi_1, ql_2, qL_2, qt_2, qT_2, qe_2, qc_2, qi_2, ql_3, qL_3, qt_3, qT_3, qe_3, qc_3, qi_3, ql_4, qL_4, qt_4, qT_4, qe_4, qc_4, qi_4, ql_6, qL_6, qt_6, qT_6, qe_6, qc_6, qi_6, ql_8, qL_8, qt_8, qT_8, qe_8, qc_8, qi_8, ql_10, qL_10, qt_10, qT_10, qe_10, qc_10, qi_10, ql_24, qL_24, qt_24, qT_24, qe_24, qc_24, qi_24, ql_60, qL_60, qt_60, qT_60, qe_60, qc_60, qi_60, ql_100, qL_100, qt_100, qT_100, qe_100, qc_100, qi_100, ql_200, qL_200, qt_200, qT_200, qe_200, qc_200, qi_200, ql_400, qL_400, qt_400, qT_400, qe_400, qc_400, qi_400, ql_600, qL_600, qt_600, qT_600, qe_600, qc_600, qi_600, ql_900, qL_900, qt_900, qT_900, qe_900, qc_900, qi_900, ql_1200, qL_1200, qt_1200, qT_1200, qe_1200, qc_1200, qi_1200, ql_65536, qL_65536, qt_65536, qT_65536, qe_65536, qc_65536, qi_65536, hz, hz', true_and, and_true, eq_self, forall_eq, forall_eq_apply_imp_iff]
        refine ⟨fun _ => ?_, fun c => by omega⟩
        refine VX10_diff_162 _ _ _ _ _ _ _ _ _ ?_
        simp (disch := omega) only [(rM_k M), (rM_r501 M), (rM_k1 M), (rM_n1 M), (rM_r502 M), (rM_k2 M), (rM_n2 M), (rM_r503 M), (rM_k3 M), (rM_n3 M), (rM_r504 M), (rM_k4 M), (rM_n4 M), (rM_r505 M), (rM_k5 M), (rM_n5 M), (rM_r506 M), (rM_k6 M), (rM_n6 M), (rM_r507 M), (rM_k7 M), (rM_n7 M), (rM_r508 M), (rM_k8 M), (rM_n8 M), (rM_r509 M), (rM_k9 M), (rM_n9 M), (rM_r510 M), (rM_k10 M), (rM_n10 M), (rM_r511 M), (rM_k11 M), (rM_n11 M), (rM_r512 M), (rM_k12 M), (rM_n12 M), (rM_r515 M), (rM_k13 M), (rM_n13 M), (rM_r516 M), (rM_k14 M), (rM_n14 M), (rM_r517 M), (rM_k15 M), (rM_n15 M), (rM_r518 M), (rM_k16 M), (rM_n16 M), (rM_r524 M), (rM_k17 M), (rM_n17 M), (rM_r525 M), (rM_k18 M), (rM_n18 M), (rM_r526 M), (rM_k19 M), (rM_n19 M), (rM_r528 M), (rM_k20 M), (rM_n20 M), (rM_r529 M), (rM_k21 M), (rM_n21 M), (rM_r531 M), (rM_k22 M), (rM_n22 M), (rM_r532 M), (rM_k23 M), (rM_n23 M), (rM_r533 M), (rM_k24 M), (rM_n24 M), qm_3, qm_4, qm_16, qm_600, qm_200, qm_8, qn_210, qn_3, qa_0, qb_0, qa_1, qb_1, qa_2, qb_2, qa_3, qb_3, qa_4, qb_4, qa_16, qb_16, qa_180, qb_180, qs_1, qs_2, qs_3, qs_4, qs_6, qs_24, nI_add, q_sub, q_pred, q_clamp, q_in, nI_leI, nI_ltI, nI_eq, ql_0, qL_0, qt_0, qT_0, qe_0, qc_0, qi_0, ql_1, qL_1, qt_1, qT_1, qe_1, qc_1, qi_1, ql_2, qL_2, qt_2, qT_2, qe_2, qc_2, qi_2, ql_3, qL_3, qt_3, qT_3, qe_3, qc_3, qi_3, ql_4, qL_4, qt_4, qT_4, qe_4, qc_4, qi_4, ql_6, qL_6, qt_6, qT_6, qe_6, qc_6, qi_6, ql_8, qL_8, qt_8, qT_8, qe_8, qc_8, qi_8, ql_10, qL_10, qt_10, qT_10, qe_10, qc_10, qi_10, ql_24, qL_24, qt_24, qT_24, qe_24, qc_24, qi_24, ql_60, qL_60, qt_60, qT_60, qe_60, qc_60, qi_60, ql_100, qL_100, qt_100, qT_100, qe_100, qc_100, qi_100, ql_200, qL_200, qt_200, qT_200, qe_200, qc_200, qi_200, ql_400, qL_400, qt_400, qT_400, qe_400, qc_400, qi_400, ql_600, qL_600, qt_600, qT_600, qe_600, qc_600, qi_600, ql_900, qL_900, qt_900, qT_900, qe_900, qc_900, qi_900, ql_1200, qL_1200, qt_1200, qT_1200, qe_1200, qc_1200, qi_1200, ql_65536, qL_65536, qt_65536, qT_65536, qe_65536, qc_65536, qi_65536, hz, hz', true_and, and_true, eq_self, forall_eq, forall_eq_apply_imp_iff]
        exact ⟨fun c => by omega, fun _ => ⟨fun _ => f2 y hy hE, fun c => by omega⟩⟩
    refine VX10_diff_54 _ _ _ _ _ _ ?_
    simp (disch := omega) only [(rM_k M), (rM_r501 M), (rM_k1 M), (rM_n1 M), (rM_r502 M), (rM_k2 M), (rM_n2 M), (rM_r503 M), (rM_k3 M), (rM_n3 M), (rM_r504 M), (rM_k4 M), (rM_n4 M), (rM_r505 M), (rM_k5 M), (rM_n5 M), (rM_r506 M), (rM_k6 M), (rM_n6 M), (rM_r507 M), (rM_k7 M), (rM_n7 M), (rM_r508 M), (rM_k8 M), (rM_n8 M), (rM_r509 M), (rM_k9 M), (rM_n9 M), (rM_r510 M), (rM_k10 M), (rM_n10 M), (rM_r511 M), (rM_k11 M), (rM_n11 M), (rM_r512 M), (rM_k12 M), (rM_n12 M), (rM_r515 M), (rM_k13 M), (rM_n13 M), (rM_r516 M), (rM_k14 M), (rM_n14 M), (rM_r517 M), (rM_k15 M), (rM_n15 M), (rM_r518 M), (rM_k16 M), (rM_n16 M), (rM_r524 M), (rM_k17 M), (rM_n17 M), (rM_r525 M), (rM_k18 M), (rM_n18 M), (rM_r526 M), (rM_k19 M), (rM_n19 M), (rM_r528 M), (rM_k20 M), (rM_n20 M), (rM_r529 M), (rM_k21 M), (rM_n21 M), (rM_r531 M), (rM_k22 M), (rM_n22 M), (rM_r532 M), (rM_k23 M), (rM_n23 M), (rM_r533 M), (rM_k24 M), (rM_n24 M), qm_3, qm_4, qm_16, qm_600, qm_200, qm_8, qn_210, qn_3, qa_0, qb_0, qa_1, qb_1, qa_2, qb_2, qa_3, qb_3, qa_4, qb_4, qa_16, qb_16, qa_180, qb_180, qs_1, qs_2, qs_3, qs_4, qs_6, qs_24, nI_add, q_sub, q_pred, q_clamp, q_in, nI_leI, nI_ltI, nI_eq, ql_0, qL_0, qt_0, qT_0, qe_0, qc_0, qi_0, ql_1, qL_1, qt_1, qT_1, qe_1, qc_1, qi_1, ql_2, qL_2, qt_2, qT_2, qe_2, qc_2, qi_2, ql_3, qL_3, qt_3, qT_3, qe_3, qc_3, qi_3, ql_4, qL_4, qt_4, qT_4, qe_4, qc_4, qi_4, ql_6, qL_6, qt_6, qT_6, qe_6, qc_6, qi_6, ql_8, qL_8, qt_8, qT_8, qe_8, qc_8, qi_8, ql_10, qL_10, qt_10, qT_10, qe_10, qc_10, qi_10, ql_24, qL_24, qt_24, qT_24, qe_24, qc_24, qi_24, ql_60, qL_60, qt_60, qT_60, qe_60, qc_60, qi_60, ql_100, qL_100, qt_100, qT_100, qe_100, qc_100, qi_100, ql_200, qL_200, qt_200, qT_200, qe_200, qc_200, qi_200, ql_400, qL_400, qt_400, qT_400, qe_400, qc_400, qi_400, ql_600, qL_600, qt_600, qT_600, qe_600, qc_600, qi_600, ql_900, qL_900, qt_900, qT_900, qe_900, qc_900, qi_900, ql_1200, qL_1200, qt_1200, qT_1200, qe_1200, qc_1200, qi_1200, ql_65536, qL_65536, qt_65536, qT_65536, qe_65536, qc_65536, qi_65536, hz, hz', hc, true_and, and_true, eq_self, forall_eq, forall_eq_apply_imp_iff]
    refine ⟨fun c => step (Or.inl c), fun c => ⟨fun c2 => ?_, fun c2 => step (Or.inr (by omega))⟩⟩
    have hAn : A.drop i = [] := List.drop_eq_nil_of_le (by omega)
    have hBn : B.drop j = [] := List.drop_eq_nil_of_le (by omega)
    rw [hAn, hBn, dif, List.append_nil] at hE
    rw [hE] at R ⊢
    exact H h1 R F
theorem r_diff {x y z : Int32} (R : Rr h m s) (hw : s.wf) (H : ∀ h', Rr h' m (a_diff s x y z).2 → rfr h h' m → Q (.int (a_diff s x y z).1) h') : jj_C mX10_diff 0 0 [.ref m, .int x, .int y, .int z] h Q := by
  refine EX10_diff _ _ _ _ fun d => r_start R fun h1 R1 F1 => ?_
  have bad : ∀ v', a_diff s x y z = (v', s) → Q (.int v') h1 := fun v' e => by
    have := H h1 (by rw [e]; exact R1) F1
    rw [e] at this
    exact this
  refine s_placeOf R1 hw (fun p hp => ⟨R1.K, ?_⟩) (fun hp => ⟨R1.K, ?_⟩)
  · obtain ⟨hpl, hp6⟩ := pAt_lt hw hp
    refine s_placeOf R1 hw (fun p' hp' => ?_) (fun hp' => ?_)
    · obtain ⟨hpl', hp6'⟩ := pAt_lt hw hp'
      refine ⟨fun c => absurd c (nI_neg (by omega) (by decide)), fun _ => ⟨fun c => absurd c (nI_neg (by omega) (by decide)), fun _ => s_isTable (fun t ht => ?_) (fun ht => ?_)⟩⟩
      · obtain ⟨e0, ht3⟩ := lim_some (by decide) ht
        refine ⟨fun _ => ⟨R1.K, fun h2 e2 => ?_⟩, fun c => absurd c (by decide)⟩
        have R2 : Rr h2 m (s.set5 []) := by rw [e2]; exact R1.dzero
        have F2 : rfr h1 h2 m := by rw [e2]; exact rfr.wI (by omega) (by omega)
        have e : a_diff s x y z = (nI (difT (s.T p t) (s.T p' t)).length, s.set5 (difT (s.T p t) (s.T p' t))) := by simp only [a_diff, trAt_some hp ht, trAt_some hp' ht]
        rw [e] at H
        rw [e0]
        exact s_diff54 (h := h2) hpl hpl' hp6 hp6' ht3 (fun h' a b => H h' a (F1.trans (F2.trans b))) ((s.T p t).length + (s.T p' t).length) 0 0 h2 [] (by omega) (by omega) (by omega) R2 rfr.rf rfl
      · exact ⟨fun c => absurd rfl c, fun _ => bad _ (by simp only [a_diff, trAt, hp, ht])⟩
    · exact ⟨fun c => absurd c (nI_neg (by omega) (by decide)), fun _ => ⟨fun _ => bad _ (by have e1 : trAt s y z = none := (by unfold trAt; rw [hp']); unfold a_diff; rw [e1]; cases trAt s x z <;> rfl), fun c => absurd rfl c⟩⟩
  · refine s_placeOf R1 hw (fun p' hp' => ?_) (fun hp' => ?_)
    · exact ⟨fun _ => bad _ (by simp only [a_diff, trAt, hp]), fun c => absurd rfl c⟩
    · exact ⟨fun _ => bad _ (by simp only [a_diff, trAt, hp]), fun c => absurd rfl c⟩
theorem r_diffKey {x : Int32} (R : Rr h m s) (hw : s.wf) (H : ∀ h', Rr h' m s → rfr h h' m → Q (.long (a_diffKey s x)) h') : jj_C mX10_diffKey 0 0 [.ref m, .int x] h Q := by
  refine EX10_diffKey _ _ fun d => r_start R fun h1 R1 F1 => ?_
  have HH := H h1 R1 F1
  have M := R1.1
  have hl : s.dl.length ≤ 400 := hw.2.2.2.2.2.2.2.2.1
  have hc : jI h1 527 m 0 = nI s.dl.length := R1.g.2.2.2.1.1
  rw [hc]
  refine s_isIn (n := s.dl.length) (by omega) rfl (fun j hj => ?_) (fun hj => ?_)
  · obtain ⟨e1, hj2⟩ := lim_some (by omega) hj
    obtain ⟨c, hc2⟩ : ∃ c, s.dl[j]? = some c := ⟨_, List.getElem?_eq_getElem hj2⟩
    have v := (R1.g.2.2.2.1.2 j c hc2).1
    simp only [a_diffKey, hj, List.getD_eq_getElem?_getD, hc2, Option.getD_some] at HH
    rw [e1]
    refine ⟨fun c => absurd c (by decide), fun _ => ?_⟩
    simp (disch := omega) only [(rM_k M), (rM_r501 M), (rM_k1 M), (rM_n1 M), (rM_r502 M), (rM_k2 M), (rM_n2 M), (rM_r503 M), (rM_k3 M), (rM_n3 M), (rM_r504 M), (rM_k4 M), (rM_n4 M), (rM_r505 M), (rM_k5 M), (rM_n5 M), (rM_r506 M), (rM_k6 M), (rM_n6 M), (rM_r507 M), (rM_k7 M), (rM_n7 M), (rM_r508 M), (rM_k8 M), (rM_n8 M), (rM_r509 M), (rM_k9 M), (rM_n9 M), (rM_r510 M), (rM_k10 M), (rM_n10 M), (rM_r511 M), (rM_k11 M), (rM_n11 M), (rM_r512 M), (rM_k12 M), (rM_n12 M), (rM_r515 M), (rM_k13 M), (rM_n13 M), (rM_r516 M), (rM_k14 M), (rM_n14 M), (rM_r517 M), (rM_k15 M), (rM_n15 M), (rM_r518 M), (rM_k16 M), (rM_n16 M), (rM_r524 M), (rM_k17 M), (rM_n17 M), (rM_r525 M), (rM_k18 M), (rM_n18 M), (rM_r526 M), (rM_k19 M), (rM_n19 M), (rM_r528 M), (rM_k20 M), (rM_n20 M), (rM_r529 M), (rM_k21 M), (rM_n21 M), (rM_r531 M), (rM_k22 M), (rM_n22 M), (rM_r532 M), (rM_k23 M), (rM_n23 M), (rM_r533 M), (rM_k24 M), (rM_n24 M), q_clamp, q_in, nI_leI, nI_ltI, nI_eq, ql_0, qL_0, qt_0, qT_0, qe_0, qc_0, qi_0, ql_1, qL_1, qt_1, qT_1, qe_1, qc_1, qi_1, ql_2, qL_2, qt_2, qT_2, qe_2, qc_2, qi_2, ql_3, qL_3, qt_3, qT_3, qe_3, qc_3, qi_3, ql_4, qL_4, qt_4, qT_4, qe_4, qc_4, qi_4, ql_6, qL_6, qt_6, qT_6, qe_6, qc_6, qi_6, ql_8, qL_8, qt_8, qT_8, qe_8, qc_8, qi_8, ql_10, qL_10, qt_10, qT_10, qe_10, qc_10, qi_10, ql_24, qL_24, qt_24, qT_24, qe_24, qc_24, qi_24, ql_60, qL_60, qt_60, qT_60, qe_60, qc_60, qi_60, ql_100, qL_100, qt_100, qT_100, qe_100, qc_100, qi_100, ql_200, qL_200, qt_200, qT_200, qe_200, qc_200, qi_200, ql_400, qL_400, qt_400, qT_400, qe_400, qc_400, qi_400, ql_600, qL_600, qt_600, qT_600, qe_600, qc_600, qi_600, ql_900, qL_900, qt_900, qT_900, qe_900, qc_900, qi_900, ql_1200, qL_1200, qt_1200, qT_1200, qe_1200, qc_1200, qi_1200, ql_65536, qL_65536, qt_65536, qT_65536, qe_65536, qc_65536, qi_65536, v, true_and, and_true, eq_self, forall_eq, forall_eq_apply_imp_iff]
    exact HH
  · simp only [a_diffKey, hj] at HH
    exact ⟨fun _ => HH, fun c => absurd rfl c⟩
theorem r_diffKind {x : Int32} (R : Rr h m s) (hw : s.wf) (H : ∀ h', Rr h' m s → rfr h h' m → Q (.int (a_diffKind s x)) h') : jj_C mX10_diffKind 0 0 [.ref m, .int x] h Q := by
  refine EX10_diffKind _ _ fun d => r_start R fun h1 R1 F1 => ?_
  have HH := H h1 R1 F1
  have M := R1.1
  have hl : s.dl.length ≤ 400 := hw.2.2.2.2.2.2.2.2.1
  have hc : jI h1 527 m 0 = nI s.dl.length := R1.g.2.2.2.1.1
  rw [hc]
  refine s_isIn (n := s.dl.length) (by omega) rfl (fun j hj => ?_) (fun hj => ?_)
  · obtain ⟨e1, hj2⟩ := lim_some (by omega) hj
    obtain ⟨c, hc2⟩ : ∃ c, s.dl[j]? = some c := ⟨_, List.getElem?_eq_getElem hj2⟩
    have v := (R1.g.2.2.2.1.2 j c hc2).2
    simp only [a_diffKind, hj, List.getD_eq_getElem?_getD, hc2, Option.getD_some] at HH
    rw [e1]
    refine ⟨fun c => absurd c (by decide), fun _ => ?_⟩
    simp (disch := omega) only [(rM_k M), (rM_r501 M), (rM_k1 M), (rM_n1 M), (rM_r502 M), (rM_k2 M), (rM_n2 M), (rM_r503 M), (rM_k3 M), (rM_n3 M), (rM_r504 M), (rM_k4 M), (rM_n4 M), (rM_r505 M), (rM_k5 M), (rM_n5 M), (rM_r506 M), (rM_k6 M), (rM_n6 M), (rM_r507 M), (rM_k7 M), (rM_n7 M), (rM_r508 M), (rM_k8 M), (rM_n8 M), (rM_r509 M), (rM_k9 M), (rM_n9 M), (rM_r510 M), (rM_k10 M), (rM_n10 M), (rM_r511 M), (rM_k11 M), (rM_n11 M), (rM_r512 M), (rM_k12 M), (rM_n12 M), (rM_r515 M), (rM_k13 M), (rM_n13 M), (rM_r516 M), (rM_k14 M), (rM_n14 M), (rM_r517 M), (rM_k15 M), (rM_n15 M), (rM_r518 M), (rM_k16 M), (rM_n16 M), (rM_r524 M), (rM_k17 M), (rM_n17 M), (rM_r525 M), (rM_k18 M), (rM_n18 M), (rM_r526 M), (rM_k19 M), (rM_n19 M), (rM_r528 M), (rM_k20 M), (rM_n20 M), (rM_r529 M), (rM_k21 M), (rM_n21 M), (rM_r531 M), (rM_k22 M), (rM_n22 M), (rM_r532 M), (rM_k23 M), (rM_n23 M), (rM_r533 M), (rM_k24 M), (rM_n24 M), q_clamp, q_in, nI_leI, nI_ltI, nI_eq, ql_0, qL_0, qt_0, qT_0, qe_0, qc_0, qi_0, ql_1, qL_1, qt_1, qT_1, qe_1, qc_1, qi_1, ql_2, qL_2, qt_2, qT_2, qe_2, qc_2, qi_2, ql_3, qL_3, qt_3, qT_3, qe_3, qc_3, qi_3, ql_4, qL_4, qt_4, qT_4, qe_4, qc_4, qi_4, ql_6, qL_6, qt_6, qT_6, qe_6, qc_6, qi_6, ql_8, qL_8, qt_8, qT_8, qe_8, qc_8, qi_8, ql_10, qL_10, qt_10, qT_10, qe_10, qc_10, qi_10, ql_24, qL_24, qt_24, qT_24, qe_24, qc_24, qi_24, ql_60, qL_60, qt_60, qT_60, qe_60, qc_60, qi_60, ql_100, qL_100, qt_100, qT_100, qe_100, qc_100, qi_100, ql_200, qL_200, qt_200, qT_200, qe_200, qc_200, qi_200, ql_400, qL_400, qt_400, qT_400, qe_400, qc_400, qi_400, ql_600, qL_600, qt_600, qT_600, qe_600, qc_600, qi_600, ql_900, qL_900, qt_900, qT_900, qe_900, qc_900, qi_900, ql_1200, qL_1200, qt_1200, qT_1200, qe_1200, qc_1200, qi_1200, ql_65536, qL_65536, qt_65536, qT_65536, qe_65536, qc_65536, qi_65536, v, true_and, and_true, eq_self, forall_eq, forall_eq_apply_imp_iff]
    exact HH
  · simp only [a_diffKind, hj] at HH
    exact ⟨fun _ => HH, fun c => absurd rfl c⟩
end JP7
