/-! the reference: cut -/
def rAll (h : jj_H) (m k : Nat) (all : List Nd) : Prop := jI h 1000 (m + 4) k = nI all.length ∧ ∀ (i : Nat) (nd : Nd), all[i]? = some nd → rNd h m (k * 210 + i) nd
def rTr (h : jj_H) (m k : Nat) (x : List (List Nd)) : Prop := rAll h m k (flat x) ∧ jI h 1000 (m + 5) k = nI x.length
def rFt (h h' : jj_H) (m k : Nat) : Prop := h'.2.2 = h.2.2 ∧ (∀ tg a i, (a < m + 4 ∨ m + 12 < a) → jI h' tg a i = jI h tg a i) ∧ (∀ i, i ≠ k → jI h' 1000 (m + 4) i = jI h 1000 (m + 4) i ∧ jI h' 1000 (m + 5) i = jI h 1000 (m + 5) i) ∧ (∀ a g, m + 6 ≤ a → a ≤ m + 9 → (g < k * 210 ∨ k * 210 + 210 ≤ g) → jI h' 1000 a g = jI h 1000 a g) ∧ (∀ tg a i, ¬ (a = m + 10 ∧ k * 210 ≤ i ∧ i < k * 210 + 210) → jL h' tg a i = jL h tg a i)
theorem rFt.rf {h : jj_H} {m k : Nat} : rFt h h m k := ⟨rfl, fun _ _ _ _ => rfl, fun _ _ => ⟨rfl, rfl⟩, fun _ _ _ _ _ => rfl, fun _ _ _ _ => rfl⟩
theorem rFt.trans {h h1 h2 : jj_H} {m k : Nat} (a : rFt h h1 m k) (b : rFt h1 h2 m k) : rFt h h2 m k := ⟨b.1.trans a.1, fun tg x i p => (b.2.1 tg x i p).trans (a.2.1 tg x i p), fun i p => ⟨(b.2.2.1 i p).1.trans (a.2.2.1 i p).1, (b.2.2.1 i p).2.trans (a.2.2.1 i p).2⟩, fun x g p1 p2 p3 => (b.2.2.2.1 x g p1 p2 p3).trans (a.2.2.2.1 x g p1 p2 p3), fun tg x i p => (b.2.2.2.2 tg x i p).trans (a.2.2.2.2 tg x i p)⟩
theorem rFb.ft {h h' : jj_H} {m k : Nat} (F : rFb h h' m) : rFt h h' m k := ⟨by rw [F.1], fun tg a i p => F.2 tg a i (by omega) (by omega), fun i _ => ⟨F.2 _ _ _ (by omega) (by omega), F.2 _ _ _ (by omega) (by omega)⟩, fun a g p1 p2 _ => F.2 _ _ _ (by omega) (by omega), fun tg a i _ => by unfold jL; rw [F.1]⟩
theorem nFr.ft {h h' : jj_H} {m k c : Nat} (F : nFr h h' m k (k * 210 + c)) (hc : c < 210) : rFt h h' m k := ⟨F.1, fun tg a i p => F.2.1 tg a i (by omega) (by omega), fun i p => ⟨F.2.1 _ _ _ (by omega) (by omega), F.2.1 _ _ _ (by omega) (by omega)⟩, fun a g p1 p2 p3 => F.2.1 _ _ _ (by omega) (by omega), fun tg a i p => F.2.2 tg a i (by omega)⟩
theorem rFt.M {h h' : jj_H} {m k : Nat} (F : rFt h h' m k) (M : rM h m) : rM h' m := M.of F.1
theorem rFt.tb {h h' : jj_H} {m k s t : Nat} {l : List Row} (F : rFt h h' m k) (T : rTb h m s t l) : rTb h' m s t l := by
  refine ⟨by rw [F.2.1 _ _ _ (by omega)]; exact T.1, T.2.1, fun j r hj => ?_⟩
  rw [← T.2.2 j r hj]
  unfold rw4
  rw [F.2.1 _ _ _ (by omega), F.2.1 _ _ _ (by omega), F.2.1 _ _ _ (by omega), F.2.1 _ _ _ (by omega)]
theorem rFb.all {h h' : jj_H} {m k : Nat} {all : List Nd} (F : rFb h h' m) (A : rAll h m k all) : rAll h' m k all := ⟨by rw [F.2 _ _ _ (by omega) (by omega)]; exact A.1, fun i nd hi => F.nd (A.2 i nd hi)⟩
theorem s_turned {x y : Int32} {h : jj_H} {Q : Value → jj_H → Prop} (H : Q (.int (tnd x y)) h) : jj_C mX10_turned 0 0 [.int x, .int y] h Q := EX10_turned _ _ fun _ => H
theorem s_toll {x : Int32} {h : jj_H} {Q : Value → jj_H → Prop} (H : Q (.int (tll x)) h) : jj_C mX10_toll 0 0 [.int x] h Q := EX10_toll _ fun _ => H
theorem nFr.by {h h' : jj_H} {m k g p : Nat} {f : Nat → Int32} (F : nFr h h' m k g) (B : rBy h m p f) : rBy h' m p f := ⟨by rw [F.2.1 _ _ _ (by omega) (by omega)]; exact B.1, fun b hb => by rw [F.2.1 _ _ _ (by omega) (by omega)]; exact B.2 b hb⟩
theorem nFr.all {h h' : jj_H} {m k : Nat} {all : List Nd} {nd : Nd} (F : nFr h h' m k (k * 210 + all.length)) (A : rAll h m k all) (N : rNd h' m (k * 210 + all.length) nd) (hc : jI h' 1000 (m + 4) k = nI (all.length + 1)) : rAll h' m k (all ++ [nd]) := by
  refine ⟨by rw [hc, List.length_append]; rfl, fun i x hi => ?_⟩
  by_cases hl : i < all.length
  · rw [List.getElem?_append_left hl] at hi
    have := A.2 i x hi
    unfold rNd at *
    rw [F.2.1 _ _ _ (by omega) (by omega), F.2.1 _ _ _ (by omega) (by omega), F.2.1 _ _ _ (by omega) (by omega), F.2.1 _ _ _ (by omega) (by omega), F.2.2 _ _ _ (by omega)]
    exact this
  · rw [List.getElem?_append_right (by omega)] at hi
    have hz : i - all.length < 1 := (List.getElem?_eq_some_iff.mp hi).1
    rw [show i - all.length = 0 by omega] at hi
    cases hi
    rw [show i = all.length by omega]
    exact N
/-- what the levels rest on: which entries the nodes ahead of this level make -/
def rFB (h : jj_H) (m k lv from_ n : Nat) (fb : Nat → Nat × Nat) : Prop := (lv = 0 → fb = fun j => (j, 1)) ∧ (lv ≠ 0 → from_ + n ≤ 210 ∧ ∀ j, j < n → jI h 1000 (m + 8) (k * 210 + from_ + j) = nI (fb j).1 ∧ jI h 1000 (m + 9) (k * 210 + from_ + j) = nI (fb j).2)
section JCUT
variable {d : jj_D} {m s t lv from_ to : Nat} {es : List Row} {fb : Nat → Nat × Nat} {Q : Value → jj_H → Prop}
theorem s_cut72 {f i : Nat} {h : jj_H} (M : rM h m) (hl : es.length ≤ 200) (B : rBy h m (16 * es.length) (eB es)) (hfi : f ≤ i) (hi10 : i - f < 10) (hi : i < es.length)
    (KE : ends es f i = true → jj_WP d mX10_cut 0 0 188 [(0, .ref m), (1, .int (nI s)), (2, .int (nI t)), (3, .int (nI (3 * s + t))), (4, .int (nI lv)), (5, .int (nI from_)), (7, .int (nI to)), (8, .int (nI es.length)), (9, .int (nI f)), (11, .int (nI i)), (12, .int (nI (i - f + 1)))] [] h Q)
    (KN : ¬ ends es f i = true → jj_WP d mX10_cut 0 0 58 [(0, .ref m), (1, .int (nI s)), (2, .int (nI t)), (3, .int (nI (3 * s + t))), (4, .int (nI lv)), (5, .int (nI from_)), (7, .int (nI to)), (8, .int (nI es.length)), (9, .int (nI f)), (10, .int (rl es f (16 * (i + 1 - f)))), (11, .int (nI (i + 1)))] [] h Q) :
    ∀ r b, 16 * i ≤ b → b + r = 16 * i + 16 → jj_WP d mX10_cut 0 0 72 [(0, .ref m), (1, .int (nI s)), (2, .int (nI t)), (3, .int (nI (3 * s + t))), (4, .int (nI lv)), (5, .int (nI from_)), (7, .int (nI to)), (8, .int (nI es.length)), (9, .int (nI f)), (10, .int (rl es f (b - 16 * f))), (11, .int (nI i)), (12, .int (nI b))] [] h Q := by
  intro r
  induction r with
  | zero =>
    intro b h1 h2
    refine VX10_cut_72 _ _ _ _ _ _ _ _ _ _ _ _ ?_
    simp (disch := omega) only [qm_3, qm_4, qm_16, qm_600, qm_200, qm_8, qn_210, qn_3, qa_0, qb_0, qa_1, qb_1, qa_2, qb_2, qa_3, qb_3, qa_4, qb_4, qa_16, qb_16, qa_180, qb_180, qs_1, qs_2, qs_3, qs_4, qs_6, qs_24, nI_add, q_sub, q_pred, q_clamp, q_in, nI_leI, nI_ltI, nI_eq, ql_0, qL_0, qt_0, qT_0, qe_0, qc_0, qi_0, ql_1, qL_1, qt_1, qT_1, qe_1, qc_1, qi_1, ql_2, qL_2, qt_2, qT_2, qe_2, qc_2, qi_2, ql_3, qL_3, qt_3, qT_3, qe_3, qc_3, qi_3, ql_4, qL_4, qt_4, qT_4, qe_4, qc_4, qi_4, ql_6, qL_6, qt_6, qT_6, qe_6, qc_6, qi_6, ql_8, qL_8, qt_8, qT_8, qe_8, qc_8, qi_8, ql_10, qL_10, qt_10, qT_10, qe_10, qc_10, qi_10, ql_24, qL_24, qt_24, qT_24, qe_24, qc_24, qi_24, ql_60, qL_60, qt_60, qT_60, qe_60, qc_60, qi_60, ql_100, qL_100, qt_100, qT_100, qe_100, qc_100, qi_100, ql_200, qL_200, qt_200, qT_200, qe_200, qc_200, qi_200, ql_400, qL_400, qt_400, qT_400, qe_400, qc_400, qi_400, ql_600, qL_600, qt_600, qT_600, qe_600, qc_600, qi_600, ql_900, qL_900, qt_900, qT_900, qe_900, qc_900, qi_900, ql_1200, qL_1200, qt_1200, qT_1200, qe_1200, qc_1200, qi_1200, ql_65536, qL_65536, qt_65536, qT_65536, qe_65536, qc_65536, qi_65536]
    have e1 : b - 16 * f = 16 * (i + 1 - f) := by omega
    have e2 : i + 1 - f = i - f + 1 := by omega
    rw [e1]
    have en : ends es f i = true ↔ (i + 1 = es.length ∨ i - f + 1 = 10 ∨ (2 ≤ i - f + 1 ∧ rl es f (16 * (i + 1 - f)) &&& 3 = 0)) := by unfold ends; rw [e2]; simp
    refine ⟨fun _ => ⟨fun c => KE (en.mpr (Or.inl (by omega))), fun c1 => ⟨fun c => KE (en.mpr (Or.inr (Or.inl c))), fun c2 => ⟨fun c => KN fun q => ?_, fun c3 => ⟨fun c => KN fun q => ?_, fun c => KE (en.mpr (Or.inr (Or.inr ⟨by omega, c⟩)))⟩⟩⟩⟩, fun c => by omega⟩
    · rcases en.mp q with q | q | q
      · omega
      · exact c2 q
      · omega
    · rcases en.mp q with q | q | q
      · omega
      · exact c2 q
      · exact c q.2
  | succ r ih =>
    intro b h1 h2
    refine VX10_cut_72 _ _ _ _ _ _ _ _ _ _ _ _ ?_
    simp (disch := omega) only [qm_3, qm_4, qm_16, qm_600, qm_200, qm_8, qn_210, qn_3, qa_0, qb_0, qa_1, qb_1, qa_2, qb_2, qa_3, qb_3, qa_4, qb_4, qa_16, qb_16, qa_180, qb_180, qs_1, qs_2, qs_3, qs_4, qs_6, qs_24, nI_add, q_sub, q_pred, q_clamp, q_in, nI_leI, nI_ltI, nI_eq, ql_0, qL_0, qt_0, qT_0, qe_0, qc_0, qi_0, ql_1, qL_1, qt_1, qT_1, qe_1, qc_1, qi_1, ql_2, qL_2, qt_2, qT_2, qe_2, qc_2, qi_2, ql_3, qL_3, qt_3, qT_3, qe_3, qc_3, qi_3, ql_4, qL_4, qt_4, qT_4, qe_4, qc_4, qi_4, ql_6, qL_6, qt_6, qT_6, qe_6, qc_6, qi_6, ql_8, qL_8, qt_8, qT_8, qe_8, qc_8, qi_8, ql_10, qL_10, qt_10, qT_10, qe_10, qc_10, qi_10, ql_24, qL_24, qt_24, qT_24, qe_24, qc_24, qi_24, ql_60, qL_60, qt_60, qT_60, qe_60, qc_60, qi_60, ql_100, qL_100, qt_100, qT_100, qe_100, qc_100, qi_100, ql_200, qL_200, qt_200, qT_200, qe_200, qc_200, qi_200, ql_400, qL_400, qt_400, qT_400, qe_400, qc_400, qi_400, ql_600, qL_600, qt_600, qT_600, qe_600, qc_600, qi_600, ql_900, qL_900, qt_900, qT_900, qe_900, qc_900, qi_900, ql_1200, qL_1200, qt_1200, qT_1200, qe_1200, qc_1200, qi_1200, ql_65536, qL_65536, qt_65536, qT_65536, qe_65536, qc_65536, qi_65536]
    refine ⟨fun c => by omega, fun _ => s_turned ?_⟩
    have hb := B.2 b (by omega)
    simp (disch := omega) only [jj_vi, (rM_k M), (rM_r501 M), (rM_k1 M), (rM_n1 M), (rM_r502 M), (rM_k2 M), (rM_n2 M), (rM_r503 M), (rM_k3 M), (rM_n3 M), (rM_r504 M), (rM_k4 M), (rM_n4 M), (rM_r505 M), (rM_k5 M), (rM_n5 M), (rM_r506 M), (rM_k6 M), (rM_n6 M), (rM_r507 M), (rM_k7 M), (rM_n7 M), (rM_r508 M), (rM_k8 M), (rM_n8 M), (rM_r509 M), (rM_k9 M), (rM_n9 M), (rM_r510 M), (rM_k10 M), (rM_n10 M), (rM_r511 M), (rM_k11 M), (rM_n11 M), (rM_r512 M), (rM_k12 M), (rM_n12 M), (rM_r515 M), (rM_k13 M), (rM_n13 M), (rM_r516 M), (rM_k14 M), (rM_n14 M), (rM_r517 M), (rM_k15 M), (rM_n15 M), (rM_r518 M), (rM_k16 M), (rM_n16 M), (rM_r524 M), (rM_k17 M), (rM_n17 M), (rM_r525 M), (rM_k18 M), (rM_n18 M), (rM_r526 M), (rM_k19 M), (rM_n19 M), (rM_r528 M), (rM_k20 M), (rM_n20 M), (rM_r529 M), (rM_k21 M), (rM_n21 M), (rM_r531 M), (rM_k22 M), (rM_n22 M), (rM_r532 M), (rM_k23 M), (rM_n23 M), (rM_r533 M), (rM_k24 M), (rM_n24 M), q_clamp, q_in, nI_leI, nI_ltI, nI_eq, ql_0, qL_0, qt_0, qT_0, qe_0, qc_0, qi_0, ql_1, qL_1, qt_1, qT_1, qe_1, qc_1, qi_1, ql_2, qL_2, qt_2, qT_2, qe_2, qc_2, qi_2, ql_3, qL_3, qt_3, qT_3, qe_3, qc_3, qi_3, ql_4, qL_4, qt_4, qT_4, qe_4, qc_4, qi_4, ql_6, qL_6, qt_6, qT_6, qe_6, qc_6, qi_6, ql_8, qL_8, qt_8, qT_8, qe_8, qc_8, qi_8, ql_10, qL_10, qt_10, qT_10, qe_10, qc_10, qi_10, ql_24, qL_24, qt_24, qT_24, qe_24, qc_24, qi_24, ql_60, qL_60, qt_60, qT_60, qe_60, qc_60, qi_60, ql_100, qL_100, qt_100, qT_100, qe_100, qc_100, qi_100, ql_200, qL_200, qt_200, qT_200, qe_200, qc_200, qi_200, ql_400, qL_400, qt_400, qT_400, qe_400, qc_400, qi_400, ql_600, qL_600, qt_600, qT_600, qe_600, qc_600, qi_600, ql_900, qL_900, qt_900, qT_900, qe_900, qc_900, qi_900, ql_1200, qL_1200, qt_1200, qT_1200, qe_1200, qc_1200, qi_1200, ql_65536, qL_65536, qt_65536, qT_65536, qe_65536, qc_65536, qi_65536, hb, true_and, and_true, eq_self, forall_eq, forall_eq_apply_imp_iff]
    refine s_toll ?_
    have key : rl es f (b + 1 - 16 * f) = (tnd (rl es f (b - 16 * f)) 1 ^^^ tll (eB es b)) ^^^ (if b - 16 * f < 24 then 0 else tnd (tll (eB es (b - 24))) 24) := by
      rw [show b + 1 - 16 * f = (b - 16 * f) + 1 by omega, rl, show 16 * f + (b - 16 * f) = b by omega]
    have nxt := ih (b + 1) (by omega) (by omega)
    rw [key] at nxt
    refine ⟨fun c => ?_, fun c => ?_⟩
    · rw [if_pos c] at nxt
      exact nxt
    · rw [if_neg c] at nxt
      have hb2 := B.2 (b - 24) (by omega)
      simp (disch := omega) only [(rM_k M), (rM_r501 M), (rM_k1 M), (rM_n1 M), (rM_r502 M), (rM_k2 M), (rM_n2 M), (rM_r503 M), (rM_k3 M), (rM_n3 M), (rM_r504 M), (rM_k4 M), (rM_n4 M), (rM_r505 M), (rM_k5 M), (rM_n5 M), (rM_r506 M), (rM_k6 M), (rM_n6 M), (rM_r507 M), (rM_k7 M), (rM_n7 M), (rM_r508 M), (rM_k8 M), (rM_n8 M), (rM_r509 M), (rM_k9 M), (rM_n9 M), (rM_r510 M), (rM_k10 M), (rM_n10 M), (rM_r511 M), (rM_k11 M), (rM_n11 M), (rM_r512 M), (rM_k12 M), (rM_n12 M), (rM_r515 M), (rM_k13 M), (rM_n13 M), (rM_r516 M), (rM_k14 M), (rM_n14 M), (rM_r517 M), (rM_k15 M), (rM_n15 M), (rM_r518 M), (rM_k16 M), (rM_n16 M), (rM_r524 M), (rM_k17 M), (rM_n17 M), (rM_r525 M), (rM_k18 M), (rM_n18 M), (rM_r526 M), (rM_k19 M), (rM_n19 M), (rM_r528 M), (rM_k20 M), (rM_n20 M), (rM_r529 M), (rM_k21 M), (rM_n21 M), (rM_r531 M), (rM_k22 M), (rM_n22 M), (rM_r532 M), (rM_k23 M), (rM_n23 M), (rM_r533 M), (rM_k24 M), (rM_n24 M), qm_3, qm_4, qm_16, qm_600, qm_200, qm_8, qn_210, qn_3, qa_0, qb_0, qa_1, qb_1, qa_2, qb_2, qa_3, qb_3, qa_4, qb_4, qa_16, qb_16, qa_180, qb_180, qs_1, qs_2, qs_3, qs_4, qs_6, qs_24, nI_add, q_sub, q_pred, q_clamp, q_in, nI_leI, nI_ltI, nI_eq, ql_0, qL_0, qt_0, qT_0, qe_0, qc_0, qi_0, ql_1, qL_1, qt_1, qT_1, qe_1, qc_1, qi_1, ql_2, qL_2, qt_2, qT_2, qe_2, qc_2, qi_2, ql_3, qL_3, qt_3, qT_3, qe_3, qc_3, qi_3, ql_4, qL_4, qt_4, qT_4, qe_4, qc_4, qi_4, ql_6, qL_6, qt_6, qT_6, qe_6, qc_6, qi_6, ql_8, qL_8, qt_8, qT_8, qe_8, qc_8, qi_8, ql_10, qL_10, qt_10, qT_10, qe_10, qc_10, qi_10, ql_24, qL_24, qt_24, qT_24, qe_24, qc_24, qi_24, ql_60, qL_60, qt_60, qT_60, qe_60, qc_60, qi_60, ql_100, qL_100, qt_100, qT_100, qe_100, qc_100, qi_100, ql_200, qL_200, qt_200, qT_200, qe_200, qc_200, qi_200, ql_400, qL_400, qt_400, qT_400, qe_400, qc_400, qi_400, ql_600, qL_600, qt_600, qT_600, qe_600, qc_600, qi_600, ql_900, qL_900, qt_900, qT_900, qe_900, qc_900, qi_900, ql_1200, qL_1200, qt_1200, qT_1200, qe_1200, qc_1200, qi_1200, ql_65536, qL_65536, qt_65536, qT_65536, qe_65536, qc_65536, qi_65536, hb2, true_and, and_true, eq_self, forall_eq, forall_eq_apply_imp_iff]
      refine s_toll (s_turned ?_)
      exact nxt
end JCUT
