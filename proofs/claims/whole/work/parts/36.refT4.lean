/-! the reference: cut, level by level -/
section JCUT
variable {d : jj_D} {m s t : Nat} {Q : Value → jj_H → Prop}
theorem s_cut58 {lv from_ to : Nat} {es : List Row} {fb : Nat → Nat × Nat} (hs : s < 61) (ht : t < 3) (hlv : lv < 1000) (hl : es.length ≤ 200) (hne : es.length ≠ 0) (hfr : from_ < 2000) :
    ∀ (r f i : Nat) (h : jj_H) (all : List Nd), i + r = es.length → f ≤ i → i - f < 10 → rM h m → rBy h m (16 * es.length) (eB es) → rAll h m (3 * s + t) all → rFB h m (3 * s + t) lv from_ es.length fb → (lv ≠ 0 → from_ + es.length ≤ all.length) → all.length + (segs es r f i).length ≤ 210 →
    (∀ h', rM h' m → rAll h' m (3 * s + t) (all ++ (segs es r f i).map (mkN lv es fb)) → rFt h h' m (3 * s + t) → jj_WP d mX10_cut 0 0 233 [(0, .ref m), (1, .int (nI s)), (2, .int (nI t)), (3, .int (nI (3 * s + t))), (4, .int (nI lv)), (7, .int (nI to))] [] h' Q) →
    jj_WP d mX10_cut 0 0 58 [(0, .ref m), (1, .int (nI s)), (2, .int (nI t)), (3, .int (nI (3 * s + t))), (4, .int (nI lv)), (5, .int (nI from_)), (7, .int (nI to)), (8, .int (nI es.length)), (9, .int (nI f)), (10, .int (rl es f (16 * (i - f)))), (11, .int (nI i))] [] h Q := by
  intro r
  induction r with
  | zero =>
    intro f i h all h1 h2 h3 M B A FB hfa hlen K
    refine VX10_cut_58 _ _ _ _ _ _ _ _ _ _ _ ?_
    simp (disch := omega) only [q_clamp, q_in, nI_leI, nI_ltI, nI_eq, ql_0, qL_0, qt_0, qT_0, qe_0, qc_0, qi_0, ql_1, qL_1, qt_1, qT_1, qe_1, qc_1, qi_1, ql_2, qL_2, qt_2, qT_2, qe_2, qc_2, qi_2, ql_3, qL_3, qt_3, qT_3, qe_3, qc_3, qi_3, ql_4, qL_4, qt_4, qT_4, qe_4, qc_4, qi_4, ql_6, qL_6, qt_6, qT_6, qe_6, qc_6, qi_6, ql_8, qL_8, qt_8, qT_8, qe_8, qc_8, qi_8, ql_10, qL_10, qt_10, qT_10, qe_10, qc_10, qi_10, ql_24, qL_24, qt_24, qT_24, qe_24, qc_24, qi_24, ql_60, qL_60, qt_60, qT_60, qe_60, qc_60, qi_60, ql_100, qL_100, qt_100, qT_100, qe_100, qc_100, qi_100, ql_200, qL_200, qt_200, qT_200, qe_200, qc_200, qi_200, ql_400, qL_400, qt_400, qT_400, qe_400, qc_400, qi_400, ql_600, qL_600, qt_600, qT_600, qe_600, qc_600, qi_600, ql_900, qL_900, qt_900, qT_900, qe_900, qc_900, qi_900, ql_1200, qL_1200, qt_1200, qT_1200, qe_1200, qc_1200, qi_1200, ql_65536, qL_65536, qt_65536, qT_65536, qe_65536, qc_65536, qi_65536]
    refine ⟨fun _ => ⟨fun _ => K h M (by simpa [segs] using A) rFt.rf, fun c => absurd c hne⟩, fun c => by omega⟩
  | succ r ih =>
    intro f i h all h1 h2 h3 M B A FB hfa hlen K
    refine VX10_cut_58 _ _ _ _ _ _ _ _ _ _ _ ?_
    simp (disch := omega) only [qm_3, qm_4, qm_16, qm_600, qm_200, qm_8, qn_210, qn_3, qa_0, qb_0, qa_1, qb_1, qa_2, qb_2, qa_3, qb_3, qa_4, qb_4, qa_16, qb_16, qa_180, qb_180, qs_1, qs_2, qs_3, qs_4, qs_6, qs_24, nI_add, q_sub, q_pred, q_clamp, q_in, nI_leI, nI_ltI, nI_eq, ql_0, qL_0, qt_0, qT_0, qe_0, qc_0, qi_0, ql_1, qL_1, qt_1, qT_1, qe_1, qc_1, qi_1, ql_2, qL_2, qt_2, qT_2, qe_2, qc_2, qi_2, ql_3, qL_3, qt_3, qT_3, qe_3, qc_3, qi_3, ql_4, qL_4, qt_4, qT_4, qe_4, qc_4, qi_4, ql_6, qL_6, qt_6, qT_6, qe_6, qc_6, qi_6, ql_8, qL_8, qt_8, qT_8, qe_8, qc_8, qi_8, ql_10, qL_10, qt_10, qT_10, qe_10, qc_10, qi_10, ql_24, qL_24, qt_24, qT_24, qe_24, qc_24, qi_24, ql_60, qL_60, qt_60, qT_60, qe_60, qc_60, qi_60, ql_100, qL_100, qt_100, qT_100, qe_100, qc_100, qi_100, ql_200, qL_200, qt_200, qT_200, qe_200, qc_200, qi_200, ql_400, qL_400, qt_400, qT_400, qe_400, qc_400, qi_400, ql_600, qL_600, qt_600, qT_600, qe_600, qc_600, qi_600, ql_900, qL_900, qt_900, qT_900, qe_900, qc_900, qi_900, ql_1200, qL_1200, qt_1200, qT_1200, qe_1200, qc_1200, qi_1200, ql_65536, qL_65536, qt_65536, qT_65536, qe_65536, qc_65536, qi_65536]
    refine ⟨fun c => by omega, fun _ => ?_⟩
    rw [show 16 * (i - f) = 16 * i - 16 * f by omega]
    refine s_cut72 M hl B h2 h3 (by omega) (fun he => ?_) (fun he => ?_) 16 (16 * i) (Nat.le_refl _) (by omega)
    · have hseg : segs es (r + 1) f i = (f, i + 1 - f) :: segs es r (i + 1) (i + 1) := by rw [segs, if_pos he]
      rw [hseg] at hlen K
      simp only [List.length_cons] at hlen
      refine VX10_cut_188 _ _ _ _ _ _ _ _ _ _ _ ?_
      simp (disch := omega) only [(rM_k M), (rM_r501 M), (rM_k1 M), (rM_n1 M), (rM_r502 M), (rM_k2 M), (rM_n2 M), (rM_r503 M), (rM_k3 M), (rM_n3 M), (rM_r504 M), (rM_k4 M), (rM_n4 M), (rM_r505 M), (rM_k5 M), (rM_n5 M), (rM_r506 M), (rM_k6 M), (rM_n6 M), (rM_r507 M), (rM_k7 M), (rM_n7 M), (rM_r508 M), (rM_k8 M), (rM_n8 M), (rM_r509 M), (rM_k9 M), (rM_n9 M), (rM_r510 M), (rM_k10 M), (rM_n10 M), (rM_r511 M), (rM_k11 M), (rM_n11 M), (rM_r512 M), (rM_k12 M), (rM_n12 M), (rM_r515 M), (rM_k13 M), (rM_n13 M), (rM_r516 M), (rM_k14 M), (rM_n14 M), (rM_r517 M), (rM_k15 M), (rM_n15 M), (rM_r518 M), (rM_k16 M), (rM_n16 M), (rM_r524 M), (rM_k17 M), (rM_n17 M), (rM_r525 M), (rM_k18 M), (rM_n18 M), (rM_r526 M), (rM_k19 M), (rM_n19 M), (rM_r528 M), (rM_k20 M), (rM_n20 M), (rM_r529 M), (rM_k21 M), (rM_n21 M), (rM_r531 M), (rM_k22 M), (rM_n22 M), (rM_r532 M), (rM_k23 M), (rM_n23 M), (rM_r533 M), (rM_k24 M), (rM_n24 M), qm_3, qm_4, qm_16, qm_600, qm_200, qm_8, qn_210, qn_3, qa_0, qb_0, qa_1, qb_1, qa_2, qb_2, qa_3, qb_3, qa_4, qb_4, qa_16, qb_16, qa_180, qb_180, qs_1, qs_2, qs_3, qs_4, qs_6, qs_24, nI_add, q_sub, q_pred, true_and, and_true, eq_self, forall_eq, forall_eq_apply_imp_iff]
      refine s_node (es := es) (fb := fb) (c := all.length) M hs ht hlv (by omega) A.1 B hl (by omega) FB.1 (fun q => ⟨by omega, (FB.2 q).1, (FB.2 q).2⟩) hfr fun h2' N2 c2 F2 => ?_
      have M2 : rM h2' m := M.of F2.1
      have nxt := ih (i + 1) (i + 1) h2' (all ++ [mkN lv es fb (f, i - f + 1)]) (by omega) (Nat.le_refl _) (by omega) M2 (F2.by B) (F2.all A N2 c2) ⟨FB.1, fun q => ⟨(FB.2 q).1, fun j hj => ?_⟩⟩ (fun q => by have := hfa q; rw [List.length_append]; simp; omega) (by rw [List.length_append]; simp; omega) (fun h' M' A' F' => K h' M' (by rw [List.map_cons, show i + 1 - f = i - f + 1 by omega, ← List.singleton_append, ← List.append_assoc]; exact A') ((F2.ft (by omega)).trans F'))
      · rw [Nat.sub_self] at nxt
        exact nxt
      · have h9 := hfa q
        have h10 := (FB.2 q).2 j hj
        rw [F2.2.1 _ _ _ (by omega) (by omega), F2.2.1 _ _ _ (by omega) (by omega)]
        exact h10
    · have hseg : segs es (r + 1) f i = segs es r f (i + 1) := by rw [segs, if_neg he]
      rw [hseg] at hlen K
      have h10 : i + 1 - f < 10 := by
        have : ¬ (i + 1 - f = 10) := fun q => he (by unfold ends; simp [q])
        omega
      exact ih f (i + 1) h all (by omega) (by omega) h10 M B A FB hfa hlen K
theorem s_cut22 {l : List Row} (hs : s < 61) (ht : t < 3) :
    ∀ (k lv : Nat) (es : List Row) (fb : Nat → Nat × Nat) (h : jj_H) (done : List Nd) (from_ : Nat), es.length < k → lv + es.length ≤ 300 → es.length ≤ 200 → rM h m → rTb h m s t l → rAll h m (3 * s + t) done → fbC fb es.length l.length →
    ((lv = 0 ∧ done = [] ∧ from_ = 0 ∧ es = l ∧ fb = fun j => (j, 1)) ∨ (lv ≠ 0 ∧ ∃ d0 prev, done = d0 ++ prev ∧ from_ = d0.length ∧ es = prev.map (entN l) ∧ fb = fbN prev ∧ 1 ≤ prev.length)) →
    done.length + (flat (lvs l k lv es fb)).length ≤ 210 →
    (∀ h', rAll h' m (3 * s + t) (done ++ flat (lvs l k lv es fb)) → jI h' 1000 (m + 5) (3 * s + t) = nI (lv + (lvs l k lv es fb).length) → rFt h h' m (3 * s + t) → Q (.int 0) h') →
    jj_WP d mX10_cut 0 0 22 [(0, .ref m), (1, .int (nI s)), (2, .int (nI t)), (3, .int (nI (3 * s + t))), (4, .int (nI lv)), (5, .int (nI from_)), (6, .int 1)] [] h Q := by
  intro k
  induction k with
  | zero => intro lv es fb h done from_ h1; omega
  | succ k ih =>
    intro lv es fb h done from_ hk hlv hel M T A C D hlen K
    have hln := levN_len lv es fb
    -- behind the level: its nodes are there
    have after : ∀ (h1 : jj_H), rM h1 m → rAll h1 m (3 * s + t) (done ++ levN lv es fb) → rFt h h1 m (3 * s + t) → jj_WP d mX10_cut 0 0 233 [(0, .ref m), (1, .int (nI s)), (2, .int (nI t)), (3, .int (nI (3 * s + t))), (4, .int (nI lv)), (7, .int (nI done.length))] [] h1 Q := by
      intro h1 M1 A1 F1
      refine VX10_cut_233 _ _ _ _ _ _ ?_
      have hc := A1.1
      rw [List.length_append] at hc
      have hlen2 : done.length + (levN lv es fb).length ≤ 210 := by
        rw [lvs] at hlen
        by_cases hh : 1 < (levN lv es fb).length
        · rw [if_pos hh, flat, List.flatten_cons, List.length_append] at hlen; omega
        · rw [if_neg hh] at hlen; simp [flat] at hlen; omega
      simp (disch := omega) only [(rM_k M1), (rM_r501 M1), (rM_k1 M1), (rM_n1 M1), (rM_r502 M1), (rM_k2 M1), (rM_n2 M1), (rM_r503 M1), (rM_k3 M1), (rM_n3 M1), (rM_r504 M1), (rM_k4 M1), (rM_n4 M1), (rM_r505 M1), (rM_k5 M1), (rM_n5 M1), (rM_r506 M1), (rM_k6 M1), (rM_n6 M1), (rM_r507 M1), (rM_k7 M1), (rM_n7 M1), (rM_r508 M1), (rM_k8 M1), (rM_n8 M1), (rM_r509 M1), (rM_k9 M1), (rM_n9 M1), (rM_r510 M1), (rM_k10 M1), (rM_n10 M1), (rM_r511 M1), (rM_k11 M1), (rM_n11 M1), (rM_r512 M1), (rM_k12 M1), (rM_n12 M1), (rM_r515 M1), (rM_k13 M1), (rM_n13 M1), (rM_r516 M1), (rM_k14 M1), (rM_n14 M1), (rM_r517 M1), (rM_k15 M1), (rM_n15 M1), (rM_r518 M1), (rM_k16 M1), (rM_n16 M1), (rM_r524 M1), (rM_k17 M1), (rM_n17 M1), (rM_r525 M1), (rM_k18 M1), (rM_n18 M1), (rM_r526 M1), (rM_k19 M1), (rM_n19 M1), (rM_r528 M1), (rM_k20 M1), (rM_n20 M1), (rM_r529 M1), (rM_k21 M1), (rM_n21 M1), (rM_r531 M1), (rM_k22 M1), (rM_n22 M1), (rM_r532 M1), (rM_k23 M1), (rM_n23 M1), (rM_r533 M1), (rM_k24 M1), (rM_n24 M1), qm_3, qm_4, qm_16, qm_600, qm_200, qm_8, qn_210, qn_3, qa_0, qb_0, qa_1, qb_1, qa_2, qb_2, qa_3, qb_3, qa_4, qb_4, qa_16, qb_16, qa_180, qb_180, qs_1, qs_2, qs_3, qs_4, qs_6, qs_24, nI_add, q_sub, q_pred, q_clamp, q_in, nI_leI, nI_ltI, nI_eq, ql_0, qL_0, qt_0, qT_0, qe_0, qc_0, qi_0, ql_1, qL_1, qt_1, qT_1, qe_1, qc_1, qi_1, ql_2, qL_2, qt_2, qT_2, qe_2, qc_2, qi_2, ql_3, qL_3, qt_3, qT_3, qe_3, qc_3, qi_3, ql_4, qL_4, qt_4, qT_4, qe_4, qc_4, qi_4, ql_6, qL_6, qt_6, qT_6, qe_6, qc_6, qi_6, ql_8, qL_8, qt_8, qT_8, qe_8, qc_8, qi_8, ql_10, qL_10, qt_10, qT_10, qe_10, qc_10, qi_10, ql_24, qL_24, qt_24, qT_24, qe_24, qc_24, qi_24, ql_60, qL_60, qt_60, qT_60, qe_60, qc_60, qi_60, ql_100, qL_100, qt_100, qT_100, qe_100, qc_100, qi_100, ql_200, qL_200, qt_200, qT_200, qe_200, qc_200, qi_200, ql_400, qL_400, qt_400, qT_400, qe_400, qc_400, qi_400, ql_600, qL_600, qt_600, qT_600, qe_600, qc_600, qi_600, ql_900, qL_900, qt_900, qT_900, qe_900, qc_900, qi_900, ql_1200, qL_1200, qt_1200, qT_1200, qe_1200, qc_1200, qi_1200, ql_65536, qL_65536, qt_65536, qT_65536, qe_65536, qc_65536, qi_65536, hc, true_and, and_true, eq_self, forall_eq, forall_eq_apply_imp_iff]
      refine ⟨fun c => ?_, fun c => ?_⟩
      · have hh : ¬ 1 < (levN lv es fb).length := by omega
        have e : lvs l (k + 1) lv es fb = [levN lv es fb] := by rw [lvs, if_neg hh]
        rw [e] at K
        refine VX10_cut_22 _ _ _ _ _ _ _ ⟨fun _ => ?_, fun c => absurd rfl c⟩
        simp (disch := omega) only [(rM_k M1), (rM_r501 M1), (rM_k1 M1), (rM_n1 M1), (rM_r502 M1), (rM_k2 M1), (rM_n2 M1), (rM_r503 M1), (rM_k3 M1), (rM_n3 M1), (rM_r504 M1), (rM_k4 M1), (rM_n4 M1), (rM_r505 M1), (rM_k5 M1), (rM_n5 M1), (rM_r506 M1), (rM_k6 M1), (rM_n6 M1), (rM_r507 M1), (rM_k7 M1), (rM_n7 M1), (rM_r508 M1), (rM_k8 M1), (rM_n8 M1), (rM_r509 M1), (rM_k9 M1), (rM_n9 M1), (rM_r510 M1), (rM_k10 M1), (rM_n10 M1), (rM_r511 M1), (rM_k11 M1), (rM_n11 M1), (rM_r512 M1), (rM_k12 M1), (rM_n12 M1), (rM_r515 M1), (rM_k13 M1), (rM_n13 M1), (rM_r516 M1), (rM_k14 M1), (rM_n14 M1), (rM_r517 M1), (rM_k15 M1), (rM_n15 M1), (rM_r518 M1), (rM_k16 M1), (rM_n16 M1), (rM_r524 M1), (rM_k17 M1), (rM_n17 M1), (rM_r525 M1), (rM_k18 M1), (rM_n18 M1), (rM_r526 M1), (rM_k19 M1), (rM_n19 M1), (rM_r528 M1), (rM_k20 M1), (rM_n20 M1), (rM_r529 M1), (rM_k21 M1), (rM_n21 M1), (rM_r531 M1), (rM_k22 M1), (rM_n22 M1), (rM_r532 M1), (rM_k23 M1), (rM_n23 M1), (rM_r533 M1), (rM_k24 M1), (rM_n24 M1), qm_3, qm_4, qm_16, qm_600, qm_200, qm_8, qn_210, qn_3, qa_0, qb_0, qa_1, qb_1, qa_2, qb_2, qa_3, qb_3, qa_4, qb_4, qa_16, qb_16, qa_180, qb_180, qs_1, qs_2, qs_3, qs_4, qs_6, qs_24, nI_add, q_sub, q_pred, q_clamp, q_in, nI_leI, nI_ltI, nI_eq, ql_0, qL_0, qt_0, qT_0, qe_0, qc_0, qi_0, ql_1, qL_1, qt_1, qT_1, qe_1, qc_1, qi_1, ql_2, qL_2, qt_2, qT_2, qe_2, qc_2, qi_2, ql_3, qL_3, qt_3, qT_3, qe_3, qc_3, qi_3, ql_4, qL_4, qt_4, qT_4, qe_4, qc_4, qi_4, ql_6, qL_6, qt_6, qT_6, qe_6, qc_6, qi_6, ql_8, qL_8, qt_8, qT_8, qe_8, qc_8, qi_8, ql_10, qL_10, qt_10, qT_10, qe_10, qc_10, qi_10, ql_24, qL_24, qt_24, qT_24, qe_24, qc_24, qi_24, ql_60, qL_60, qt_60, qT_60, qe_60, qc_60, qi_60, ql_100, qL_100, qt_100, qT_100, qe_100, qc_100, qi_100, ql_200, qL_200, qt_200, qT_200, qe_200, qc_200, qi_200, ql_400, qL_400, qt_400, qT_400, qe_400, qc_400, qi_400, ql_600, qL_600, qt_600, qT_600, qe_600, qc_600, qi_600, ql_900, qL_900, qt_900, qT_900, qe_900, qc_900, qi_900, ql_1200, qL_1200, qt_1200, qT_1200, qe_1200, qc_1200, qi_1200, ql_65536, qL_65536, qt_65536, qT_65536, qe_65536, qc_65536, qi_65536, true_and, and_true, eq_self, forall_eq, forall_eq_apply_imp_iff]
        refine K _ ⟨?_, fun i nd hi => ?_⟩ ?_ (F1.trans ⟨rfl, fun tg a i p => by rw [jI_wI, if_neg (by omega)], fun i p => ⟨by rw [jI_wI, if_neg (by omega)], by rw [jI_wI, if_neg (by omega)]⟩, fun a g p1 p2 _ => by rw [jI_wI, if_neg (by omega)], fun tg a i _ => rfl⟩)
        · rw [jI_wI, if_neg (by omega)]
          simp only [flat, List.flatten_cons, List.flatten_nil, List.append_nil]
          exact A1.1
        · simp only [flat, List.flatten_cons, List.flatten_nil, List.append_nil] at hi
          have := A1.2 i nd hi
          unfold rNd at *
          rw [jI_wI, if_neg (by omega), jI_wI, if_neg (by omega), jI_wI, if_neg (by omega), jI_wI, if_neg (by omega)]
          exact this
        · rw [jI_wI, if_pos ⟨rfl, rfl, rfl⟩]
          rfl
      · have hh : 1 < (levN lv es fb).length := by omega
        have h0 : es.length ≠ 0 := by intro q; unfold levN at hh; rw [if_pos q] at hh; simp at hh
        have e : lvs l (k + 1) lv es fb = levN lv es fb :: lvs l k (lv + 1) ((levN lv es fb).map (entN l)) (fbN (levN lv es fb)) := by rw [lvs, if_pos hh]
        rw [e] at K hlen
        simp only [flat, List.flatten_cons, List.length_append] at hlen
        refine ih (lv + 1) ((levN lv es fb).map (entN l)) (fbN (levN lv es fb)) h1 (done ++ levN lv es fb) done.length (by rw [List.length_map]; omega) (by rw [List.length_map]; omega) (by rw [List.length_map]; omega) M1 (F1.tb T) A1 (by rw [List.length_map]; exact fbC_next C h0) (Or.inr ⟨by omega, done, levN lv es fb, rfl, rfl, rfl, rfl, by omega⟩) (by rw [List.length_append]; simp only [flat]; omega) fun h' A' H' F' => ?_
        refine K h' ?_ ?_ (F1.trans F')
        · simp only [flat, List.flatten_cons] at A' ⊢
          rw [← List.append_assoc]
          exact A'
        · rw [H']
          congr 1
          simp only [List.length_cons]
          omega
    -- the level itself
    have level : ∀ (h3 : jj_H), rFb h h3 m → rBy h3 m (16 * es.length) (eB es) → jj_WP d mX10_cut 0 0 58 [(0, .ref m), (1, .int (nI s)), (2, .int (nI t)), (3, .int (nI (3 * s + t))), (4, .int (nI lv)), (5, .int (nI from_)), (7, .int (nI done.length)), (8, .int (nI es.length)), (9, .int 0), (10, .int 0), (11, .int 0)] [] h3 Q := by
      intro h3 F3 B3
      have M3 := F3.M M
      have A3 := F3.all A
      have hlen2 : done.length + (levN lv es fb).length ≤ 210 := by
        rw [lvs] at hlen
        by_cases hh : 1 < (levN lv es fb).length
        · rw [if_pos hh, flat, List.flatten_cons, List.length_append] at hlen; omega
        · rw [if_neg hh] at hlen; simp [flat] at hlen; omega
      have FB : rFB h3 m (3 * s + t) lv from_ es.length fb := by
        refine ⟨fun q => ?_, fun q => ?_⟩
        · rcases D with ⟨_, _, _, _, e⟩ | ⟨e, _⟩
          · exact e
          · exact absurd q e
        · rcases D with ⟨e, _⟩ | ⟨_, d0, prev, e1, e2, e3, e4, e5⟩
          · exact absurd e q
          · subst e1; subst e2; subst e3; subst e4
            rw [List.length_map] at *
            rw [List.length_append] at hlen2
            refine ⟨by omega, fun j hj => ?_⟩
            have g1 : prev[j]? = some prev[j] := List.getElem?_eq_getElem hj
            have := A3.2 (d0.length + j) prev[j] (by rw [List.getElem?_append_right (by omega), Nat.add_sub_cancel_left]; exact g1)
            rw [fbN_at g1, Nat.add_assoc]
            exact ⟨this.2.2.1, this.2.2.2.1⟩
      have hfa : lv ≠ 0 → from_ + es.length ≤ done.length := by
        intro q
        rcases D with ⟨e, _⟩ | ⟨_, d0, prev, e1, e2, e3, e4, e5⟩
        · exact absurd e q
        · rw [e1, e2, e3, List.length_map, List.length_append]
          exact Nat.le_refl _
      by_cases h0 : es.length = 0
      · have hlv0 : lv = 0 := by
          rcases D with ⟨e, _⟩ | ⟨_, d0, prev, e1, e2, e3, e4, e5⟩
          · exact e
          · rw [e3, List.length_map] at h0; omega
        refine VX10_cut_58 _ _ _ _ _ _ _ _ _ _ _ ?_
        rw [h0]
        refine ⟨fun _ => ⟨fun c => absurd rfl c, fun _ => ?_⟩, fun c => absurd (by decide) c⟩
        simp (disch := omega) only [(rM_k M3), (rM_r501 M3), (rM_k1 M3), (rM_n1 M3), (rM_r502 M3), (rM_k2 M3), (rM_n2 M3), (rM_r503 M3), (rM_k3 M3), (rM_n3 M3), (rM_r504 M3), (rM_k4 M3), (rM_n4 M3), (rM_r505 M3), (rM_k5 M3), (rM_n5 M3), (rM_r506 M3), (rM_k6 M3), (rM_n6 M3), (rM_r507 M3), (rM_k7 M3), (rM_n7 M3), (rM_r508 M3), (rM_k8 M3), (rM_n8 M3), (rM_r509 M3), (rM_k9 M3), (rM_n9 M3), (rM_r510 M3), (rM_k10 M3), (rM_n10 M3), (rM_r511 M3), (rM_k11 M3), (rM_n11 M3), (rM_r512 M3), (rM_k12 M3), (rM_n12 M3), (rM_r515 M3), (rM_k13 M3), (rM_n13 M3), (rM_r516 M3), (rM_k14 M3), (rM_n14 M3), (rM_r517 M3), (rM_k15 M3), (rM_n15 M3), (rM_r518 M3), (rM_k16 M3), (rM_n16 M3), (rM_r524 M3), (rM_k17 M3), (rM_n17 M3), (rM_r525 M3), (rM_k18 M3), (rM_n18 M3), (rM_r526 M3), (rM_k19 M3), (rM_n19 M3), (rM_r528 M3), (rM_k20 M3), (rM_n20 M3), (rM_r529 M3), (rM_k21 M3), (rM_n21 M3), (rM_r531 M3), (rM_k22 M3), (rM_n22 M3), (rM_r532 M3), (rM_k23 M3), (rM_n23 M3), (rM_r533 M3), (rM_k24 M3), (rM_n24 M3), true_and, and_true, eq_self, forall_eq, forall_eq_apply_imp_iff]
        refine s_node (es := es) (fb := fb) (c := done.length) (f := 0) (many := 0) (from_ := 0) M3 hs ht (by omega) (by omega) A3.1 B3 (by omega) (by omega) FB.1 (fun q => absurd hlv0 q) (by omega) fun h2' N2 c2 F2 => ?_
        have M2 : rM h2' m := M3.of F2.1
        refine after h2' M2 ?_ (F3.ft.trans (F2.ft (by omega)))
        have hA := F2.all A3 N2 c2
        have e : levN lv es fb = [mkN lv es fb (0, 0)] := by
          unfold levN
          rw [if_pos h0]
          unfold mkN
          rw [FB.1 hlv0]
          rfl
        rw [e]
        exact hA
      · have hle : levN lv es fb = (segs es es.length 0 0).map (mkN lv es fb) := by unfold levN; rw [if_neg h0]
        have hl2 : (levN lv es fb).length = (segs es es.length 0 0).length := by rw [hle, List.length_map]
        refine s_cut58 (to := done.length) hs ht (by omega) hel h0 ?_ es.length 0 0 h3 done (by omega) (Nat.le_refl _) (by omega) M3 B3 A3 FB hfa (by omega) fun h' M' A' F' => ?_
        · rcases D with ⟨_, _, e, _⟩ | ⟨_, d0, prev, e1, e2, _⟩
          · omega
          · rw [e1, List.length_append] at hlen2; omega
        · refine after h' M' ?_ (F3.ft.trans F')
          rw [hle]
          exact A'
    refine VX10_cut_22 _ _ _ _ _ _ _ ⟨fun c => absurd c (by decide), fun _ => ?_⟩
    have hc := A.1
    simp (disch := omega) only [(rM_k M), (rM_r501 M), (rM_k1 M), (rM_n1 M), (rM_r502 M), (rM_k2 M), (rM_n2 M), (rM_r503 M), (rM_k3 M), (rM_n3 M), (rM_r504 M), (rM_k4 M), (rM_n4 M), (rM_r505 M), (rM_k5 M), (rM_n5 M), (rM_r506 M), (rM_k6 M), (rM_n6 M), (rM_r507 M), (rM_k7 M), (rM_n7 M), (rM_r508 M), (rM_k8 M), (rM_n8 M), (rM_r509 M), (rM_k9 M), (rM_n9 M), (rM_r510 M), (rM_k10 M), (rM_n10 M), (rM_r511 M), (rM_k11 M), (rM_n11 M), (rM_r512 M), (rM_k12 M), (rM_n12 M), (rM_r515 M), (rM_k13 M), (rM_n13 M), (rM_r516 M), (rM_k14 M), (rM_n14 M), (rM_r517 M), (rM_k15 M), (rM_n15 M), (rM_r518 M), (rM_k16 M), (rM_n16 M), (rM_r524 M), (rM_k17 M), (rM_n17 M), (rM_r525 M), (rM_k18 M), (rM_n18 M), (rM_r526 M), (rM_k19 M), (rM_n19 M), (rM_r528 M), (rM_k20 M), (rM_n20 M), (rM_r529 M), (rM_k21 M), (rM_n21 M), (rM_r531 M), (rM_k22 M), (rM_n22 M), (rM_r532 M), (rM_k23 M), (rM_n23 M), (rM_r533 M), (rM_k24 M), (rM_n24 M), qm_3, qm_4, qm_16, qm_600, qm_200, qm_8, qn_210, qn_3, qa_0, qb_0, qa_1, qb_1, qa_2, qb_2, qa_3, qb_3, qa_4, qb_4, qa_16, qb_16, qa_180, qb_180, qs_1, qs_2, qs_3, qs_4, qs_6, qs_24, nI_add, q_sub, q_pred, q_clamp, q_in, nI_leI, nI_ltI, nI_eq, ql_0, qL_0, qt_0, qT_0, qe_0, qc_0, qi_0, ql_1, qL_1, qt_1, qT_1, qe_1, qc_1, qi_1, ql_2, qL_2, qt_2, qT_2, qe_2, qc_2, qi_2, ql_3, qL_3, qt_3, qT_3, qe_3, qc_3, qi_3, ql_4, qL_4, qt_4, qT_4, qe_4, qc_4, qi_4, ql_6, qL_6, qt_6, qT_6, qe_6, qc_6, qi_6, ql_8, qL_8, qt_8, qT_8, qe_8, qc_8, qi_8, ql_10, qL_10, qt_10, qT_10, qe_10, qc_10, qi_10, ql_24, qL_24, qt_24, qT_24, qe_24, qc_24, qi_24, ql_60, qL_60, qt_60, qT_60, qe_60, qc_60, qi_60, ql_100, qL_100, qt_100, qT_100, qe_100, qc_100, qi_100, ql_200, qL_200, qt_200, qT_200, qe_200, qc_200, qi_200, ql_400, qL_400, qt_400, qT_400, qe_400, qc_400, qi_400, ql_600, qL_600, qt_600, qT_600, qe_600, qc_600, qi_600, ql_900, qL_900, qt_900, qT_900, qe_900, qc_900, qi_900, ql_1200, qL_1200, qt_1200, qT_1200, qe_1200, qc_1200, qi_1200, ql_65536, qL_65536, qt_65536, qT_65536, qe_65536, qc_65536, qi_65536, hc, true_and, and_true, eq_self, forall_eq, forall_eq_apply_imp_iff]
    rcases D with ⟨e0, e1, e2, e3, e4⟩ | ⟨e0, d0, prev, e1, e2, e3, e4, e5⟩
    · subst e0
      subst e3
      refine s_layLevel0 M hs ht T fun h3 F3 B3 => ?_
      exact level h3 F3 B3
    · have hpl : prev.length = es.length := by rw [e3, List.length_map]
      have hdl : done.length = from_ + prev.length := by rw [e1, e2, List.length_append]
      have hlen3 : done.length ≤ 210 := by omega
      rw [hdl]
      refine s_layLevelN (l := l) (ns := prev) M hs ht e0 (by omega) T (by omega) (by omega) (fun i nd hi => ?_) (fun i nd hi => ?_) fun h3 F3 B3 => ?_
      · have := A.2 (from_ + i) nd (by rw [e1, e2, List.getElem?_append_right (by omega), Nat.add_sub_cancel_left]; exact hi)
        rw [Nat.add_assoc]
        exact this
      · have hi2 : i < prev.length := (List.getElem?_eq_some_iff.mp hi).1
        have := C.1 i (by omega)
        rw [e4, fbN_at hi] at this
        exact this
      · have lv3 := level h3 F3 (by rw [e3, List.length_map]; exact B3)
        rw [hdl, ← hpl] at lv3
        exact lv3
end JCUT
theorem s_cut {m s t : Nat} {l : List Row} {h : jj_H} {Q : Value → jj_H → Prop} (M : rM h m) (hs : s < 61) (ht : t < 3) (T : rTb h m s t l) (H : ∀ h', rTr h' m (3 * s + t) (tree l) → rFt h h' m (3 * s + t) → Q (.int 0) h') : jj_C mX10_cut 0 0 [.ref m, .int (nI s), .int (nI t)] h Q := by
  refine EX10_cut _ _ _ fun d => ?_
  have hn := T.2.1
  have ht2 := tree_len l hn
  simp (disch := omega) only [(rM_k M), (rM_r501 M), (rM_k1 M), (rM_n1 M), (rM_r502 M), (rM_k2 M), (rM_n2 M), (rM_r503 M), (rM_k3 M), (rM_n3 M), (rM_r504 M), (rM_k4 M), (rM_n4 M), (rM_r505 M), (rM_k5 M), (rM_n5 M), (rM_r506 M), (rM_k6 M), (rM_n6 M), (rM_r507 M), (rM_k7 M), (rM_n7 M), (rM_r508 M), (rM_k8 M), (rM_n8 M), (rM_r509 M), (rM_k9 M), (rM_n9 M), (rM_r510 M), (rM_k10 M), (rM_n10 M), (rM_r511 M), (rM_k11 M), (rM_n11 M), (rM_r512 M), (rM_k12 M), (rM_n12 M), (rM_r515 M), (rM_k13 M), (rM_n13 M), (rM_r516 M), (rM_k14 M), (rM_n14 M), (rM_r517 M), (rM_k15 M), (rM_n15 M), (rM_r518 M), (rM_k16 M), (rM_n16 M), (rM_r524 M), (rM_k17 M), (rM_n17 M), (rM_r525 M), (rM_k18 M), (rM_n18 M), (rM_r526 M), (rM_k19 M), (rM_n19 M), (rM_r528 M), (rM_k20 M), (rM_n20 M), (rM_r529 M), (rM_k21 M), (rM_n21 M), (rM_r531 M), (rM_k22 M), (rM_n22 M), (rM_r532 M), (rM_k23 M), (rM_n23 M), (rM_r533 M), (rM_k24 M), (rM_n24 M), qm_3, qm_4, qm_16, qm_600, qm_200, qm_8, qn_210, qn_3, qa_0, qb_0, qa_1, qb_1, qa_2, qb_2, qa_3, qb_3, qa_4, qb_4, qa_16, qb_16, qa_180, qb_180, qs_1, qs_2, qs_3, qs_4, qs_6, qs_24, nI_add, q_sub, q_pred, q_clamp, q_in, nI_leI, nI_ltI, nI_eq, ql_0, qL_0, qt_0, qT_0, qe_0, qc_0, qi_0, ql_1, qL_1, qt_1, qT_1, qe_1, qc_1, qi_1, ql_2, qL_2, qt_2, qT_2, qe_2, qc_2, qi_2, ql_3, qL_3, qt_3, qT_3, qe_3, qc_3, qi_3, ql_4, qL_4, qt_4, qT_4, qe_4, qc_4, qi_4, ql_6, qL_6, qt_6, qT_6, qe_6, qc_6, qi_6, ql_8, qL_8, qt_8, qT_8, qe_8, qc_8, qi_8, ql_10, qL_10, qt_10, qT_10, qe_10, qc_10, qi_10, ql_24, qL_24, qt_24, qT_24, qe_24, qc_24, qi_24, ql_60, qL_60, qt_60, qT_60, qe_60, qc_60, qi_60, ql_100, qL_100, qt_100, qT_100, qe_100, qc_100, qi_100, ql_200, qL_200, qt_200, qT_200, qe_200, qc_200, qi_200, ql_400, qL_400, qt_400, qT_400, qe_400, qc_400, qi_400, ql_600, qL_600, qt_600, qT_600, qe_600, qc_600, qi_600, ql_900, qL_900, qt_900, qT_900, qe_900, qc_900, qi_900, ql_1200, qL_1200, qt_1200, qT_1200, qe_1200, qc_1200, qi_1200, ql_65536, qL_65536, qt_65536, qT_65536, qe_65536, qc_65536, qi_65536, true_and, and_true, eq_self, forall_eq, forall_eq_apply_imp_iff]
  have F : rFt h (wI h 1000 (m + 4) (3 * s + t) 0) m (3 * s + t) := ⟨rfl, fun tg a i p => by rw [jI_wI, if_neg (by omega)], fun i p => ⟨by rw [jI_wI, if_neg (by omega)], by rw [jI_wI, if_neg (by omega)]⟩, fun a g p1 p2 _ => by rw [jI_wI, if_neg (by omega)], fun tg a i _ => rfl⟩
  refine s_cut22 (l := l) hs ht (l.length + 1) 0 l (fun j => (j, 1)) _ [] 0 (by omega) (by omega) hn (by exact M) (F.tb T) ⟨by rw [jI_wI, if_pos ⟨rfl, rfl, rfl⟩]; rfl, fun i nd hi => by simp at hi⟩ (fbC_0 _) (Or.inl ⟨rfl, rfl, rfl, rfl, rfl⟩) (by show 0 + (flat (tree l)).length ≤ 210; omega) fun h' A' H' F' => ?_
  exact H h' ⟨by exact A', by rw [H']; congr 1; show 0 + (tree l).length = _; omega⟩ (F.trans F')
