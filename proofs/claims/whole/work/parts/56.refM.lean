/-! the reference: bringing three versions together -/
def fdR (h : jj_H) (m : Nat) (x : Int32) (o : Option Row) : Prop := (o = none ∧ x = -1) ∨ ∃ g r, o = some r ∧ x = nI g ∧ g < 36600 ∧ rw4 h m g = r
section JM
variable {m : Nat} {h : jj_H} {Q : Value → jj_H → Prop}
theorem s_findO {p t : Nat} {l : List Row} {key : Int32} (M : rM h m) (hp : p < 61) (ht : t < 3) (T : rTb h m p t l) (H : ∀ x, fdR h m x (lk l key) → Q (.int x) h) : jj_C mX10_find 0 0 [.ref m, .int (nI p), .int (nI t), .int key] h Q := by
  refine s_find M (by omega) ht T (fun r hr => H _ (Or.inr ⟨_, r, hr, rfl, ?_, T.2.2 _ _ (lk_some hr).1⟩)) (fun hr => H _ (Or.inl ⟨hr, rfl⟩))
  have := (List.getElem?_eq_some_iff.mp (lk_some hr).1).1
  have := T.2.1
  omega
theorem fdR.neg {x : Int32} {o : Option Row} (a : fdR h m x o) : (x < 0 ↔ o = none) ∧ (0 ≤ x ↔ o ≠ none) := by
  rcases a with ⟨e, rfl⟩ | ⟨g, r, e, rfl, hg, _⟩
  · exact ⟨⟨fun _ => e, fun _ => by decide⟩, ⟨fun c => absurd c (by decide), fun c => absurd e c⟩⟩
  · exact ⟨⟨fun c => absurd c (neg_nI (by omega)), fun c => (by rw [e] at c; cases c)⟩, ⟨fun _ c => (by rw [e] at c; cases c), fun _ => Int32.not_lt.mp (neg_nI (by omega))⟩⟩
theorem s_areAlike {x y : Int32} {o u : Option Row} (M : rM h m) (a : fdR h m x o) (b : fdR h m y u) (H : Q (.int (if o = u then 1 else 0)) h) : jj_C mX10_areAlike 0 0 [.ref m, .int x, .int y] h Q := by
  refine EX10_areAlike _ _ _ fun d => ?_
  obtain ⟨a1, a2⟩ := a.neg
  obtain ⟨b1, b2⟩ := b.neg
  refine ⟨fun c => ⟨fun c2 => absurd (a1.mp c) (a2.mp c2), fun _ => ⟨fun c2 => ?_, fun c2 => ?_⟩⟩, fun c => ⟨fun c2 => ⟨rM_k M, ?_⟩, fun c2 => ⟨fun c3 => ?_, fun c3 => absurd (a2.mpr (fun z => c (a1.mpr z))) c3⟩⟩⟩
  · rw [a1.mp c, if_neg (fun z => b2.mp c2 z.symm)] at H; exact H
  · have hu : u = none := Decidable.byContradiction fun z => c2 (b2.mpr z)
    rw [a1.mp c, hu, if_pos rfl] at H; exact H
  · rcases a with ⟨e, rfl⟩ | ⟨g, r, e, rfl, hg, hr⟩
    · exact absurd (by decide) c
    · rcases b with ⟨e', rfl⟩ | ⟨g', r', e', rfl, hg', hr'⟩
      · exact absurd c2 (by decide)
      · refine s_isRowAlike M (by omega) (by omega) ?_
        rw [hr, hr']
        rw [e, e'] at H
        by_cases z : r = r'
        · rw [if_pos (by rw [z])] at H; rw [if_pos z]; exact ⟨Or.inr rfl, H⟩
        · rw [if_neg (fun q => z (Option.some.inj q))] at H; rw [if_neg z]; exact ⟨Or.inl rfl, H⟩
  · have hu : u = none := Decidable.byContradiction fun z => c2 (b2.mpr z)
    rw [hu, if_neg (a2.mp c3)] at H; exact H
/-- only the three numbers have changed -/
def t3F (h h' : jj_H) (m : Nat) : Prop := h'.2 = h.2 ∧ ∀ tg a i, a ≠ m + 24 → jI h' tg a i = jI h tg a i
theorem s_bring {go gu gh : Nat} {a b c : Row} (M : rM h m) (h1 : go < 37200) (h2 : gu < 37200) (h3 : gh < 37200) (e1 : rw4 h m go = a) (e2 : rw4 h m gu = b) (e3 : rw4 h m gh = c) (H : ∀ h', t3F h h' m → jI h' 1000 (m + 24) 0 = mx1 a.2.1 b.2.1 c.2.1 → jI h' 1000 (m + 24) 1 = mx1 a.2.2.1 b.2.2.1 c.2.2.1 → jI h' 1000 (m + 24) 2 = mx1 a.2.2.2 b.2.2.2 c.2.2.2 → Q (.int (if wel a b c then 1 else 0)) h') : jj_C mX10_bring 0 0 [.ref m, .int (nI go), .int (nI gu), .int (nI gh)] h Q := by
  refine EX10_bring _ _ _ _ fun d => ?_
  have st : ∀ (k : Nat) (h1' : jj_H) (w : Bool), k < 3 → t3F h h1' m → (∀ h2', t3F h h2' m → (∀ i, i ≠ k → jI h2' 1000 (m + 24) i = jI h1' 1000 (m + 24) i) → jI h2' 1000 (m + 24) k = mx1 (colOf a k) (colOf b k) (colOf c k) → jj_WP d mX10_bring 0 0 6 [(0, .ref m), (1, .int (nI go)), (2, .int (nI gu)), (3, .int (nI gh)), (4, .int (if (w && wl1 (colOf a k) (colOf b k) (colOf c k)) = true then 1 else 0)), (5, .int (nI (k + 1)))] [] h2' Q) → jj_WP d mX10_bring 0 0 6 [(0, .ref m), (1, .int (nI go)), (2, .int (nI gu)), (3, .int (nI gh)), (4, .int (if w = true then 1 else 0)), (5, .int (nI k))] [] h1' Q := by
    intro k h1' w hk F nxt
    have M1 : rM h1' m := M.of (by rw [F.1])
    have rr : ∀ g, rw4 h1' m g = rw4 h m g := fun g => by unfold rw4; rw [F.2 _ _ _ (by omega), F.2 _ _ _ (by omega), F.2 _ _ _ (by omega), F.2 _ _ _ (by omega)]
    have va := rw4_colOf hk ((rr go).trans e1)
    have vb := rw4_colOf hk ((rr gu).trans e2)
    have vc := rw4_colOf hk ((rr gh).trans e3)
    generalize colOf a k = A at *
    generalize colOf b k = B at *
    generalize colOf c k = C at *
    have tail : ∀ v, v = mx1 A B C → jj_WP d mX10_bring 0 0 83 [(0, .ref m), (1, .int (nI go)), (2, .int (nI gu)), (3, .int (nI gh)), (4, .int (if w = true then 1 else 0)), (5, .int (nI k)), (6, .int A), (7, .int B), (8, .int C)] [.int v, .int (nI k), .ref (m + 24)] h1' Q := by
      intro v hv
      refine VX10_bring_83 _ _ _ _ _ _ _ _ _ _ _ _ ?_
      simp (disch := omega) only [(rM_k M1), (rM_r501 M1), (rM_k1 M1), (rM_n1 M1), (rM_r502 M1), (rM_k2 M1), (rM_n2 M1), (rM_r503 M1), (rM_k3 M1), (rM_n3 M1), (rM_r504 M1), (rM_k4 M1), (rM_n4 M1), (rM_r505 M1), (rM_k5 M1), (rM_n5 M1), (rM_r506 M1), (rM_k6 M1), (rM_n6 M1), (rM_r507 M1), (rM_k7 M1), (rM_n7 M1), (rM_r508 M1), (rM_k8 M1), (rM_n8 M1), (rM_r509 M1), (rM_k9 M1), (rM_n9 M1), (rM_r510 M1), (rM_k10 M1), (rM_n10 M1), (rM_r511 M1), (rM_k11 M1), (rM_n11 M1), (rM_r512 M1), (rM_k12 M1), (rM_n12 M1), (rM_r515 M1), (rM_k13 M1), (rM_n13 M1), (rM_r516 M1), (rM_k14 M1), (rM_n14 M1), (rM_r517 M1), (rM_k15 M1), (rM_n15 M1), (rM_r518 M1), (rM_k16 M1), (rM_n16 M1), (rM_r524 M1), (rM_k17 M1), (rM_n17 M1), (rM_r525 M1), (rM_k18 M1), (rM_n18 M1), (rM_r526 M1), (rM_k19 M1), (rM_n19 M1), (rM_r528 M1), (rM_k20 M1), (rM_n20 M1), (rM_r529 M1), (rM_k21 M1), (rM_n21 M1), (rM_r531 M1), (rM_k22 M1), (rM_n22 M1), (rM_r532 M1), (rM_k23 M1), (rM_n23 M1), (rM_r533 M1), (rM_k24 M1), (rM_n24 M1), qm_3, qm_4, qm_16, qm_600, qm_200, qm_8, qn_210, qn_3, qa_0, qb_0, qa_1, qb_1, qa_2, qb_2, qa_3, qb_3, qa_4, qb_4, qa_16, qb_16, qa_180, qb_180, qs_1, qs_2, qs_3, qs_4, qs_6, qs_24, nI_add, q_sub, q_pred, q_clamp, q_in, nI_leI, nI_ltI, nI_eq, ql_0, qL_0, qt_0, qT_0, qe_0, qc_0, qi_0, ql_1, qL_1, qt_1, qT_1, qe_1, qc_1, qi_1, ql_2, qL_2, qt_2, qT_2, qe_2, qc_2, qi_2, ql_3, qL_3, qt_3, qT_3, qe_3, qc_3, qi_3, ql_4, qL_4, qt_4, qT_4, qe_4, qc_4, qi_4, ql_6, qL_6, qt_6, qT_6, qe_6, qc_6, qi_6, ql_8, qL_8, qt_8, qT_8, qe_8, qc_8, qi_8, ql_10, qL_10, qt_10, qT_10, qe_10, qc_10, qi_10, ql_24, qL_24, qt_24, qT_24, qe_24, qc_24, qi_24, ql_60, qL_60, qt_60, qT_60, qe_60, qc_60, qi_60, ql_100, qL_100, qt_100, qT_100, qe_100, qc_100, qi_100, ql_200, qL_200, qt_200, qT_200, qe_200, qc_200, qi_200, ql_400, qL_400, qt_400, qT_400, qe_400, qc_400, qi_400, ql_600, qL_600, qt_600, qT_600, qe_600, qc_600, qi_600, ql_900, qL_900, qt_900, qT_900, qe_900, qc_900, qi_900, ql_1200, qL_1200, qt_1200, qT_1200, qe_1200, qc_1200, qi_1200, ql_65536, qL_65536, qt_65536, qT_65536, qe_65536, qc_65536, qi_65536, true_and, and_true, eq_self, forall_eq, forall_eq_apply_imp_iff]
      have n2 := nxt (wI h1' 1000 (m + 24) k v) ⟨F.1, fun tg a i p => by rw [jI_wI, if_neg (by omega)]; exact F.2 tg a i p⟩ (fun i hi => by rw [jI_wI, if_neg (by omega)]) (by rw [jI_wI, if_pos ⟨rfl, rfl, rfl⟩]; exact hv)
      cases hw : w with
      | false =>
        rw [hw] at n2
        exact ⟨fun _ => n2, fun c => absurd rfl c⟩
      | true =>
        rw [hw, Bool.true_and] at n2
        refine ⟨fun c => absurd c (by decide), fun _ => ⟨fun z => ?_, fun z => ⟨fun z2 => ?_, fun z2 => ⟨fun z3 => ?_, fun z3 => ?_⟩⟩⟩⟩
        · have e : wl1 A B C = true := by unfold wl1; simp [z]
          rw [e] at n2; exact n2
        · have e : wl1 A B C = true := by unfold wl1; simp [z2]
          rw [e] at n2; exact n2
        · have e : wl1 A B C = false := by unfold wl1; simp [z, z2, z3]
          rw [e] at n2; exact n2
        · have e : wl1 A B C = true := by unfold wl1; simp [z3]
          rw [e] at n2; exact n2
    refine VX10_bring_6 _ _ _ _ _ _ ?_
    simp (disch := omega) only [(rM_k M1), (rM_r501 M1), (rM_k1 M1), (rM_n1 M1), (rM_r502 M1), (rM_k2 M1), (rM_n2 M1), (rM_r503 M1), (rM_k3 M1), (rM_n3 M1), (rM_r504 M1), (rM_k4 M1), (rM_n4 M1), (rM_r505 M1), (rM_k5 M1), (rM_n5 M1), (rM_r506 M1), (rM_k6 M1), (rM_n6 M1), (rM_r507 M1), (rM_k7 M1), (rM_n7 M1), (rM_r508 M1), (rM_k8 M1), (rM_n8 M1), (rM_r509 M1), (rM_k9 M1), (rM_n9 M1), (rM_r510 M1), (rM_k10 M1), (rM_n10 M1), (rM_r511 M1), (rM_k11 M1), (rM_n11 M1), (rM_r512 M1), (rM_k12 M1), (rM_n12 M1), (rM_r515 M1), (rM_k13 M1), (rM_n13 M1), (rM_r516 M1), (rM_k14 M1), (rM_n14 M1), (rM_r517 M1), (rM_k15 M1), (rM_n15 M1), (rM_r518 M1), (rM_k16 M1), (rM_n16 M1), (rM_r524 M1), (rM_k17 M1), (rM_n17 M1), (rM_r525 M1), (rM_k18 M1), (rM_n18 M1), (rM_r526 M1), (rM_k19 M1), (rM_n19 M1), (rM_r528 M1), (rM_k20 M1), (rM_n20 M1), (rM_r529 M1), (rM_k21 M1), (rM_n21 M1), (rM_r531 M1), (rM_k22 M1), (rM_n22 M1), (rM_r532 M1), (rM_k23 M1), (rM_n23 M1), (rM_r533 M1), (rM_k24 M1), (rM_n24 M1), qm_3, qm_4, qm_16, qm_600, qm_200, qm_8, qn_210, qn_3, qa_0, qb_0, qa_1, qb_1, qa_2, qb_2, qa_3, qb_3, qa_4, qb_4, qa_16, qb_16, qa_180, qb_180, qs_1, qs_2, qs_3, qs_4, qs_6, qs_24, nI_add, q_sub, q_pred, q_clamp, q_in, nI_leI, nI_ltI, nI_eq, ql_0, qL_0, qt_0, qT_0, qe_0, qc_0, qi_0, ql_1, qL_1, qt_1, qT_1, qe_1, qc_1, qi_1, ql_2, qL_2, qt_2, qT_2, qe_2, qc_2, qi_2, ql_3, qL_3, qt_3, qT_3, qe_3, qc_3, qi_3, ql_4, qL_4, qt_4, qT_4, qe_4, qc_4, qi_4, ql_6, qL_6, qt_6, qT_6, qe_6, qc_6, qi_6, ql_8, qL_8, qt_8, qT_8, qe_8, qc_8, qi_8, ql_10, qL_10, qt_10, qT_10, qe_10, qc_10, qi_10, ql_24, qL_24, qt_24, qT_24, qe_24, qc_24, qi_24, ql_60, qL_60, qt_60, qT_60, qe_60, qc_60, qi_60, ql_100, qL_100, qt_100, qT_100, qe_100, qc_100, qi_100, ql_200, qL_200, qt_200, qT_200, qe_200, qc_200, qi_200, ql_400, qL_400, qt_400, qT_400, qe_400, qc_400, qi_400, ql_600, qL_600, qt_600, qT_600, qe_600, qc_600, qi_600, ql_900, qL_900, qt_900, qT_900, qe_900, qc_900, qi_900, ql_1200, qL_1200, qt_1200, qT_1200, qe_1200, qc_1200, qi_1200, ql_65536, qL_65536, qt_65536, qT_65536, qe_65536, qc_65536, qi_65536, va, vb, vc, true_and, and_true, eq_self, forall_eq, forall_eq_apply_imp_iff]
    refine ⟨fun c => by omega, fun _ => ⟨fun z => ⟨fun z2 => tail _ ?_, fun z2 => tail _ ?_⟩, fun z => tail _ ?_⟩⟩
    · unfold mx1; rw [if_neg z, if_neg z2]
    · unfold mx1; rw [if_neg z, if_pos z2]
    · unfold mx1; rw [if_pos z]
  refine st 0 h true (by omega) ⟨rfl, fun _ _ _ _ => rfl⟩ fun h2' F2 _ v2 => ?_
  refine st 1 h2' _ (by omega) F2 fun h3' F3 o3 v3 => ?_
  refine st 2 h3' _ (by omega) F3 fun h4' F4 o4 v4 => ?_
  refine VX10_bring_6 _ _ _ _ _ _ ⟨fun _ => ⟨?_, ?_⟩, fun c => absurd (by decide) c⟩
  · split
    · exact Or.inr rfl
    · exact Or.inl rfl
  · have e : (((true && wl1 (colOf a 0) (colOf b 0) (colOf c 0)) && wl1 (colOf a 1) (colOf b 1) (colOf c 1)) && wl1 (colOf a 2) (colOf b 2) (colOf c 2)) = wel a b c := by unfold wel; rw [Bool.true_and, Bool.and_assoc]; rfl
    rw [e]
    exact H h4' F4 (by rw [o4 0 (by omega), o3 0 (by omega)]; exact v2) (by rw [o4 1 (by omega)]; exact v3) v4
/-- the conflicts so far -/
def cfR (h : jj_H) (m : Nat) (cf : List Cf) : Prop := jI h 523 m 0 = nI cf.length ∧ ∀ i c, cf[i]? = some c → jI h 1000 (m + 17) i = nI c.1 ∧ jI h 1000 (m + 18) i = c.2.1 ∧ jI h 1000 (m + 19) i = (if c.2.2 then 1 else 0)
/-- what a key brought may change -/
def bFr (h h' : jj_H) (m t : Nat) : Prop := h'.2 = h.2 ∧ (∀ tg a i, (a = m → tg ≠ 523) → (a ≤ m ∨ m + 3 < a) → (a < m + 17 ∨ m + 19 < a) → a ≠ m + 24 → jI h' tg a i = jI h tg a i) ∧ (∀ p' t' l, t' < 3 → ¬ (p' = 61 ∧ t' = t) → rTb h m p' t' l → rTb h' m p' t' l)
theorem bFr.trans {h1 h2 : jj_H} {t : Nat} (a : bFr h h1 m t) (b : bFr h1 h2 m t) : bFr h h2 m t := ⟨b.1.trans a.1, fun tg x i p1 p2 p3 p4 => (b.2.1 tg x i p1 p2 p3 p4).trans (a.2.1 tg x i p1 p2 p3 p4), fun p' t' l q1 q2 T => b.2.2 p' t' l q1 q2 (a.2.2 p' t' l q1 q2 T)⟩
theorem bFr.rf {t : Nat} : bFr h h m t := ⟨rfl, fun _ _ _ _ _ _ _ => rfl, fun _ _ _ _ _ T => T⟩
theorem t3F.b {h' : jj_H} {t : Nat} (F : t3F h h' m) : bFr h h' m t := ⟨F.1, fun tg a i _ _ _ p => F.2 tg a i p, fun p' t' l _ _ T => T.ag fun a i p1 p2 => F.2 _ _ _ (by omega)⟩
theorem rFr.b {h' : jj_H} {t : Nat} (ht : t < 3) (F : rFr h h' m 61 t) : bFr h h' m t := ⟨F.1, fun tg a i _ p _ _ => F.2.1 tg a i (by omega) (by omega) (by omega), fun p' t' l q1 q2 T => T.other F ht q1 q2⟩
theorem cfR.ag {h' : jj_H} {cf : List Cf} (C : cfR h m cf) (e1 : jI h' 523 m 0 = jI h 523 m 0) (e2 : ∀ a i, m + 17 ≤ a → a ≤ m + 19 → jI h' 1000 a i = jI h 1000 a i) : cfR h' m cf := ⟨e1.trans C.1, fun i c hc => by rw [e2 _ _ (by omega) (by omega), e2 _ _ (by omega) (by omega), e2 _ _ (by omega) (by omega)]; exact C.2 i c hc⟩
theorem s_bringKey {t po pu ph : Nat} {A B C d' : List Row} {cf : List Cf} {k : Int32} (M : rM h m) (ht : t < 3) (p1 : po < 61) (p2 : pu < 61) (p3 : ph < 61) (To : rTb h m po t A) (Tu : rTb h m pu t B) (Th : rTb h m ph t C) (Td : rTb h m 61 t d') (CF : cfR h m cf) (hcf : cf.length < 1200) (hlt : ∀ r ∈ d', r.1 < k)
    (H1 : ∀ h' d2, ((dec k (lk A k) (lk B k) (lk C k)).1 = none ∧ d2 = d' ∨ ∃ r, (dec k (lk A k) (lk B k) (lk C k)).1 = some r ∧ d'.length ≠ 200 ∧ d2 = d' ++ [r]) → rTb h' m 61 t d2 → cfR h' m (if (dec k (lk A k) (lk B k) (lk C k)).2 then cf ++ [(t, k, true)] else cf) → bFr h h' m t → Q (.int 1) h')
    (H0 : ∀ h' r, (dec k (lk A k) (lk B k) (lk C k)).1 = some r → d'.length = 200 → bFr h h' m t → Q (.int 0) h') : jj_C mX10_bringKey 0 0 [.ref m, .int (nI t), .int k, .int (nI po), .int (nI pu), .int (nI ph)] h Q := by
  refine EX10_bringKey _ _ _ _ _ _ fun d => ⟨rM_k M, ?_⟩
  refine s_findO M (by omega) ht To fun xo fo => ⟨rM_k M, s_findO M (by omega) ht Tu fun xu fu => ⟨rM_k M, s_findO M (by omega) ht Th fun xh fh => ⟨rM_k M, ?_⟩⟩⟩
  have ko : ∀ r, lk A k = some r → r.1 = k := fun r hr => (lk_some hr).2
  have ku : ∀ r, lk B k = some r → r.1 = k := fun r hr => (lk_some hr).2
  have kh : ∀ r, lk C k = some r → r.1 = k := fun r hr => (lk_some hr).2
  generalize lk A k = o at *
  generalize lk B k = u at *
  generalize lk C k = hh at *
  have hn := Td.2.1
  -- a row is laid into the draft
  have lay : ∀ (h2 : jj_H) (r : Row) (cf2 : List Cf), (dec k o u hh).1 = some r → r.1 = k → (if (dec k o u hh).2 then cf ++ [(t, k, true)] else cf) = cf2 → bFr h h2 m t → rTb h2 m 61 t d' → cfR h2 m cf2 → d'.length ≠ 200 → jj_C mX10_lay 0 0 [.ref m, .int 61, .int (nI t), .int k, .int r.2.1, .int r.2.2.1, .int r.2.2.2] h2 (fun v4 h3 => jj_vi (fun y5 => (y5 = 0 ∨ y5 = 1) ∧ Q (.int y5) h3) v4) := by
    intro h2 r cf2 hr hk hc F2 T2 C2 hne
    have M2 : rM h2 m := M.of (by rw [F2.1])
    obtain ⟨i1, i2⟩ := insT_last (d := d') (r := r) (fun x hx => by rw [hk]; exact hlt x hx)
    rw [← hk]
    refine s_lay (s := 61) M2 (by omega) ht T2 (fun _ => by omega) fun h3 T3 F3 => ?_
    rw [i1] at T3
    rw [i2]
    have := H1 h3 (d' ++ [r]) (Or.inr ⟨r, hr, hne, rfl⟩) T3 (by rw [hc]; exact C2.ag (F3.2.1 _ _ _ (by omega) (by omega) (by omega)) (fun a i _ _ => F3.2.1 _ _ _ (by omega) (by omega) (by omega))) (F2.trans (rFr.b ht F3))
    exact ⟨Or.inr rfl, this⟩
  -- a row of one of the three versions
  have from_ : ∀ (h2 : jj_H) (x : Int32) (q : Option Row) (cf2 : List Cf), fdR h m x q → (∀ r, q = some r → r.1 = k) → (dec k o u hh).1 = q → (if (dec k o u hh).2 then cf ++ [(t, k, true)] else cf) = cf2 → bFr h h2 m t → (∀ g, g < 36600 → rw4 h2 m g = rw4 h m g) → rTb h2 m 61 t d' → cfR h2 m cf2 → (0 ≤ x → jj_WP d mX10_bringKey 0 0 172 [(0, .ref m), (1, .int (nI t)), (2, .int k), (9, .int x), (10, .int 0)] [] h2 Q) ∧ (¬ 0 ≤ x → Q (.int 1) h2) := by
    intro h2 x q cf2 fx hkq hd hc F2 rr T2 C2
    have M2 : rM h2 m := M.of (by rw [F2.1])
    refine ⟨fun c => ?_, fun c => ?_⟩
    · rcases fx with ⟨e, rfl⟩ | ⟨g, r, e, rfl, hg, hr⟩
      · exact absurd c (by decide)
      · have e1 := (rr g hg).trans hr
        have w0 : jI h2 1000 (m + 2) (3 * g) = r.2.1 := rw4_colOf (j := 0) (by omega) e1
        have w1 : jI h2 1000 (m + 2) (3 * g + 1) = r.2.2.1 := rw4_colOf (j := 1) (by omega) e1
        have w2 : jI h2 1000 (m + 2) (3 * g + 2) = r.2.2.2 := rw4_colOf (j := 2) (by omega) e1
        have hz : jI h2 1000 (m + 3) (183 + t) = nI d'.length := T2.1
        have e183 : (183 : Int32) + nI t = nI (183 + t) := nI_add 183 t
        refine VX10_bringKey_172 _ _ _ _ _ ?_
        simp (disch := omega) only [(rM_k M2), (rM_r501 M2), (rM_k1 M2), (rM_n1 M2), (rM_r502 M2), (rM_k2 M2), (rM_n2 M2), (rM_r503 M2), (rM_k3 M2), (rM_n3 M2), (rM_r504 M2), (rM_k4 M2), (rM_n4 M2), (rM_r505 M2), (rM_k5 M2), (rM_n5 M2), (rM_r506 M2), (rM_k6 M2), (rM_n6 M2), (rM_r507 M2), (rM_k7 M2), (rM_n7 M2), (rM_r508 M2), (rM_k8 M2), (rM_n8 M2), (rM_r509 M2), (rM_k9 M2), (rM_n9 M2), (rM_r510 M2), (rM_k10 M2), (rM_n10 M2), (rM_r511 M2), (rM_k11 M2), (rM_n11 M2), (rM_r512 M2), (rM_k12 M2), (rM_n12 M2), (rM_r515 M2), (rM_k13 M2), (rM_n13 M2), (rM_r516 M2), (rM_k14 M2), (rM_n14 M2), (rM_r517 M2), (rM_k15 M2), (rM_n15 M2), (rM_r518 M2), (rM_k16 M2), (rM_n16 M2), (rM_r524 M2), (rM_k17 M2), (rM_n17 M2), (rM_r525 M2), (rM_k18 M2), (rM_n18 M2), (rM_r526 M2), (rM_k19 M2), (rM_n19 M2), (rM_r528 M2), (rM_k20 M2), (rM_n20 M2), (rM_r529 M2), (rM_k21 M2), (rM_n21 M2), (rM_r531 M2), (rM_k22 M2), (rM_n22 M2), (rM_r532 M2), (rM_k23 M2), (rM_n23 M2), (rM_r533 M2), (rM_k24 M2), (rM_n24 M2), e183, qm_3, qm_4, qm_16, qm_600, qm_200, qm_8, qn_210, qn_3, qa_0, qb_0, qa_1, qb_1, qa_2, qb_2, qa_3, qb_3, qa_4, qb_4, qa_16, qb_16, qa_180, qb_180, qs_1, qs_2, qs_3, qs_4, qs_6, qs_24, nI_add, q_sub, q_pred, q_clamp, q_in, nI_leI, nI_ltI, nI_eq, ql_0, qL_0, qt_0, qT_0, qe_0, qc_0, qi_0, ql_1, qL_1, qt_1, qT_1, qe_1, qc_1, qi_1, ql_2, qL_2, qt_2, qT_2, qe_2, qc_2, qi_2, ql_3, qL_3, qt_3, qT_3, qe_3, qc_3, qi_3, ql_4, qL_4, qt_4, qT_4, qe_4, qc_4, qi_4, ql_6, qL_6, qt_6, qT_6, qe_6, qc_6, qi_6, ql_8, qL_8, qt_8, qT_8, qe_8, qc_8, qi_8, ql_10, qL_10, qt_10, qT_10, qe_10, qc_10, qi_10, ql_24, qL_24, qt_24, qT_24, qe_24, qc_24, qi_24, ql_60, qL_60, qt_60, qT_60, qe_60, qc_60, qi_60, ql_100, qL_100, qt_100, qT_100, qe_100, qc_100, qi_100, ql_200, qL_200, qt_200, qT_200, qe_200, qc_200, qi_200, ql_400, qL_400, qt_400, qT_400, qe_400, qc_400, qi_400, ql_600, qL_600, qt_600, qT_600, qe_600, qc_600, qi_600, ql_900, qL_900, qt_900, qT_900, qe_900, qc_900, qi_900, ql_1200, qL_1200, qt_1200, qT_1200, qe_1200, qc_1200, qi_1200, ql_65536, qL_65536, qt_65536, qT_65536, qe_65536, qc_65536, qi_65536, hz, w0, w1, w2, true_and, and_true, eq_self, forall_eq, forall_eq_apply_imp_iff]
        refine ⟨fun c2 => ⟨fun _ => lay h2 r cf2 (hd.trans e) (hkq r e) hc F2 T2 C2 c2, fun c => absurd trivial c⟩, fun c2 => H0 h2 r (hd.trans e) c2 F2⟩
    · have hq : q = none := Decidable.byContradiction fun z => c (fx.neg.2.mpr z)
      exact H1 h2 d' (Or.inl ⟨hd.trans hq, rfl⟩) T2 (by rw [hc]; exact C2) F2
  have e01 : (if (1 : Int32) = 0 then (0 : Nat) else 1) = 1 := by decide
  -- a conflict
  have conf : ∀ (h2 : jj_H), dec k o u hh = (u, true) → bFr h h2 m t → (∀ a i, m + 1 ≤ a → a ≤ m + 23 → jI h2 1000 a i = jI h 1000 a i) → jI h2 523 m 0 = jI h 523 m 0 → jj_WP d mX10_bringKey 0 0 116 [(0, .ref m), (1, .int (nI t)), (2, .int k), (7, .int xu), (10, .int 0)] [] h2 Q := by
    intro h2 hd F2 i2 n2
    have M2 : rM h2 m := M.of (by rw [F2.1])
    have hc : jI h2 523 m 0 = nI cf.length := n2.trans CF.1
    have c1 : jI (wI h2 1000 (m + 17) cf.length (nI t)) 523 m 0 = nI cf.length := by rw [jI_wI, if_neg (by omega)]; exact hc
    have c2 : jI (wI (wI h2 1000 (m + 17) cf.length (nI t)) 1000 (m + 18) cf.length k) 523 m 0 = nI cf.length := by rw [jI_wI, if_neg (by omega)]; exact c1
    have c3 : jI (wI (wI (wI h2 1000 (m + 17) cf.length (nI t)) 1000 (m + 18) cf.length k) 1000 (m + 19) cf.length 1) 523 m 0 = nI cf.length := by rw [jI_wI, if_neg (by omega)]; exact c2
    refine VX10_bringKey_116 _ _ _ _ _ ?_
    simp (disch := omega) only [(rM_k M2), (rM_r501 M2), (rM_k1 M2), (rM_n1 M2), (rM_r502 M2), (rM_k2 M2), (rM_n2 M2), (rM_r503 M2), (rM_k3 M2), (rM_n3 M2), (rM_r504 M2), (rM_k4 M2), (rM_n4 M2), (rM_r505 M2), (rM_k5 M2), (rM_n5 M2), (rM_r506 M2), (rM_k6 M2), (rM_n6 M2), (rM_r507 M2), (rM_k7 M2), (rM_n7 M2), (rM_r508 M2), (rM_k8 M2), (rM_n8 M2), (rM_r509 M2), (rM_k9 M2), (rM_n9 M2), (rM_r510 M2), (rM_k10 M2), (rM_n10 M2), (rM_r511 M2), (rM_k11 M2), (rM_n11 M2), (rM_r512 M2), (rM_k12 M2), (rM_n12 M2), (rM_r515 M2), (rM_k13 M2), (rM_n13 M2), (rM_r516 M2), (rM_k14 M2), (rM_n14 M2), (rM_r517 M2), (rM_k15 M2), (rM_n15 M2), (rM_r518 M2), (rM_k16 M2), (rM_n16 M2), (rM_r524 M2), (rM_k17 M2), (rM_n17 M2), (rM_r525 M2), (rM_k18 M2), (rM_n18 M2), (rM_r526 M2), (rM_k19 M2), (rM_n19 M2), (rM_r528 M2), (rM_k20 M2), (rM_n20 M2), (rM_r529 M2), (rM_k21 M2), (rM_n21 M2), (rM_r531 M2), (rM_k22 M2), (rM_n22 M2), (rM_r532 M2), (rM_k23 M2), (rM_n23 M2), (rM_r533 M2), (rM_k24 M2), (rM_n24 M2), qm_3, qm_4, qm_16, qm_600, qm_200, qm_8, qn_210, qn_3, qa_0, qb_0, qa_1, qb_1, qa_2, qb_2, qa_3, qb_3, qa_4, qb_4, qa_16, qb_16, qa_180, qb_180, qs_1, qs_2, qs_3, qs_4, qs_6, qs_24, nI_add, q_sub, q_pred, q_clamp, q_in, nI_leI, nI_ltI, nI_eq, ql_0, qL_0, qt_0, qT_0, qe_0, qc_0, qi_0, ql_1, qL_1, qt_1, qT_1, qe_1, qc_1, qi_1, ql_2, qL_2, qt_2, qT_2, qe_2, qc_2, qi_2, ql_3, qL_3, qt_3, qT_3, qe_3, qc_3, qi_3, ql_4, qL_4, qt_4, qT_4, qe_4, qc_4, qi_4, ql_6, qL_6, qt_6, qT_6, qe_6, qc_6, qi_6, ql_8, qL_8, qt_8, qT_8, qe_8, qc_8, qi_8, ql_10, qL_10, qt_10, qT_10, qe_10, qc_10, qi_10, ql_24, qL_24, qt_24, qT_24, qe_24, qc_24, qi_24, ql_60, qL_60, qt_60, qT_60, qe_60, qc_60, qi_60, ql_100, qL_100, qt_100, qT_100, qe_100, qc_100, qi_100, ql_200, qL_200, qt_200, qT_200, qe_200, qc_200, qi_200, ql_400, qL_400, qt_400, qT_400, qe_400, qc_400, qi_400, ql_600, qL_600, qt_600, qT_600, qe_600, qc_600, qi_600, ql_900, qL_900, qt_900, qT_900, qe_900, qc_900, qi_900, ql_1200, qL_1200, qt_1200, qT_1200, qe_1200, qc_1200, qi_1200, ql_65536, qL_65536, qt_65536, qT_65536, qe_65536, qc_65536, qi_65536, hc, c1, c2, c3, true_and, and_true, eq_self, forall_eq, forall_eq_apply_imp_iff, jR_wI]
    have hall : ∀ tg a i, (a = m → tg ≠ 523) → (a < m + 17 ∨ m + 19 < a) → jI (wI (wI (wI (wI h2 1000 (m + 17) cf.length (nI t)) 1000 (m + 18) cf.length k) 1000 (m + 19) cf.length 1) 523 m 0 (nI (cf.length + 1))) tg a i = jI h2 tg a i := fun tg a i q1 q2 => by rw [jI_wI, if_neg (by omega), jI_wI, if_neg (by omega), jI_wI, if_neg (by omega), jI_wI, if_neg (by omega)]
    have F4 : bFr h2 (wI (wI (wI (wI h2 1000 (m + 17) cf.length (nI t)) 1000 (m + 18) cf.length k) 1000 (m + 19) cf.length 1) 523 m 0 (nI (cf.length + 1))) m t := ⟨rfl, fun tg a i q1 _ q3 _ => hall tg a i q1 q3, fun p' t' l _ _ T => T.ag fun a i q1 q2 => hall _ _ _ (by omega) (by omega)⟩
    have v17 : ∀ i, jI (wI (wI (wI (wI h2 1000 (m + 17) cf.length (nI t)) 1000 (m + 18) cf.length k) 1000 (m + 19) cf.length 1) 523 m 0 (nI (cf.length + 1))) 1000 (m + 17) i = if i = cf.length then nI t else jI h2 1000 (m + 17) i := fun i => by
      rw [jI_wI, if_neg (by omega), jI_wI, if_neg (by omega), jI_wI, if_neg (by omega), jI_wI]; simp
    have v18 : ∀ i, jI (wI (wI (wI (wI h2 1000 (m + 17) cf.length (nI t)) 1000 (m + 18) cf.length k) 1000 (m + 19) cf.length 1) 523 m 0 (nI (cf.length + 1))) 1000 (m + 18) i = if i = cf.length then k else jI h2 1000 (m + 18) i := fun i => by
      rw [jI_wI, if_neg (by omega), jI_wI, if_neg (by omega), jI_wI, jI_wI, if_neg (show ¬ (1000 = 1000 ∧ m + 18 = m + 17 ∧ i = cf.length) by omega)]; simp
    have v19 : ∀ i, jI (wI (wI (wI (wI h2 1000 (m + 17) cf.length (nI t)) 1000 (m + 18) cf.length k) 1000 (m + 19) cf.length 1) 523 m 0 (nI (cf.length + 1))) 1000 (m + 19) i = if i = cf.length then 1 else jI h2 1000 (m + 19) i := fun i => by
      rw [jI_wI, if_neg (by omega), jI_wI, jI_wI, if_neg (show ¬ (1000 = 1000 ∧ m + 19 = m + 18 ∧ i = cf.length) by omega), jI_wI, if_neg (show ¬ (1000 = 1000 ∧ m + 19 = m + 17 ∧ i = cf.length) by omega)]; simp
    have C4 : cfR (wI (wI (wI (wI h2 1000 (m + 17) cf.length (nI t)) 1000 (m + 18) cf.length k) 1000 (m + 19) cf.length 1) 523 m 0 (nI (cf.length + 1))) m (cf ++ [(t, k, true)]) := by
      refine ⟨by rw [jI_wI, if_pos ⟨rfl, rfl, rfl⟩, List.length_append]; rfl, fun i c hc => ?_⟩
      rw [v17, v18, v19]
      by_cases hi : i < cf.length
      · rw [List.getElem?_append_left hi] at hc
        rw [if_neg (by omega), if_neg (by omega), if_neg (by omega), i2 _ _ (by omega) (by omega), i2 _ _ (by omega) (by omega), i2 _ _ (by omega) (by omega)]
        exact CF.2 i c hc
      · rw [List.getElem?_append_right (by omega)] at hc
        have hz : i - cf.length < 1 := (List.getElem?_eq_some_iff.mp hc).1
        have hi2 : i = cf.length := by omega
        rw [hi2, Nat.sub_self] at hc
        cases hc
        rw [if_pos hi2, if_pos hi2, if_pos hi2]
        exact ⟨rfl, rfl, rfl⟩
    refine ⟨fun c => absurd trivial c, fun _ => ?_⟩
    refine from_ _ xu u (cf ++ [(t, k, true)]) fu ku (by rw [hd]) (by rw [hd]; rfl) (F2.trans F4) (fun g _ => ?_) ?_ C4
    · unfold rw4
      rw [hall _ _ _ (by omega) (by omega), hall _ _ _ (by omega) (by omega), hall _ _ _ (by omega) (by omega), hall _ _ _ (by omega) (by omega), i2 _ _ (by omega) (by omega), i2 _ _ (by omega) (by omega), i2 _ _ (by omega) (by omega), i2 _ _ (by omega) (by omega)]
    · exact Td.ag fun a i q1 q2 => (hall _ _ _ (by omega) (by omega)).trans (i2 _ _ (by omega) (by omega))
  have plain : ∀ (x : Int32) (q : Option Row), fdR h m x q → (∀ r, q = some r → r.1 = k) → dec k o u hh = (q, false) → (0 ≤ x → jj_WP d mX10_bringKey 0 0 172 [(0, .ref m), (1, .int (nI t)), (2, .int k), (9, .int x), (10, .int 0)] [] h Q) ∧ (¬ 0 ≤ x → Q (.int 1) h) := fun x q fx hkq hd => from_ h x q cf fx hkq (by rw [hd]) (by rw [hd]; rfl) bFr.rf (fun _ _ => rfl) Td CF
  refine s_areAlike M fu fh ?_
  by_cases z1 : u = hh
  · rw [if_pos z1]
    exact ⟨fun _ => plain xu u fu ku (by unfold dec; rw [if_pos (Or.inl z1)]), fun c => absurd c (by decide)⟩
  · rw [if_neg z1]
    refine ⟨fun c => absurd rfl c, fun _ => ⟨rM_k M, s_areAlike M fo fh ?_⟩⟩
    by_cases z2 : o = hh
    · rw [if_pos z2]
      exact ⟨fun c => absurd c (by decide), fun _ => plain xu u fu ku (by unfold dec; rw [if_pos (Or.inr z2)])⟩
    · rw [if_neg z2]
      refine ⟨fun _ => ⟨rM_k M, s_areAlike M fo fu ?_⟩, fun c => absurd rfl c⟩
      have z12 : ¬ (u = hh ∨ o = hh) := fun q => q.elim z1 z2
      by_cases z3 : o = u
      · rw [if_pos z3]
        exact ⟨fun c => absurd c (by decide), fun _ => plain xh hh fh kh (by unfold dec; rw [if_neg z12, if_pos z3])⟩
      · rw [if_neg z3]
        refine ⟨fun _ => ?_, fun c => absurd rfl c⟩
        have cfl : dec k o u hh = (u, true) → jj_WP d mX10_bringKey 0 0 116 [(0, .ref m), (1, .int (nI t)), (2, .int k), (7, .int xu), (10, .int 0)] [] h Q := fun hd => conf h hd bFr.rf (fun _ _ _ _ => rfl) rfl
        have dnone : (o = none ∨ u = none ∨ hh = none) → dec k o u hh = (u, true) := by
          intro q
          unfold dec
          rw [if_neg z12, if_neg z3]
          rcases q with q | q | q
          · rw [q]
          · rw [q]; cases o <;> rfl
          · rw [q]; cases o <;> cases u <;> rfl
        refine ⟨fun c => cfl (dnone (Or.inl (fo.neg.1.mp c))), fun c1 => ⟨fun c => cfl (dnone (Or.inr (Or.inl (fu.neg.1.mp c)))), fun c2 => ⟨fun c => cfl (dnone (Or.inr (Or.inr (fh.neg.1.mp c)))), fun c3 => ⟨rM_k M, ?_⟩⟩⟩⟩
        rcases fo with ⟨e, _⟩ | ⟨go, a, ea, rfl, hgo, hra⟩
        · exact absurd (by assumption) (fun q : xo = -1 => c1 (by rw [q]; decide))
        rcases id fu with ⟨e, q⟩ | ⟨gu, b, eb, qu, hgu, hrb⟩
        · exact absurd (by rw [q]; decide) c2
        rcases fh with ⟨e, q⟩ | ⟨gh, c, ec, rfl, hgh, hrc⟩
        · exact absurd (by rw [q]; decide) c3
        rw [qu]
        refine s_bring M (by omega) (by omega) (by omega) hra hrb hrc fun h2 F2 v0 v1 v2 => ?_
        have M2 : rM h2 m := M.of (by rw [F2.1])
        cases hw : wel a b c with
        | false =>
          have hd : dec k o u hh = (u, true) := by unfold dec; rw [if_neg z12, if_neg z3, ea, eb, ec]; simp only [hw]; rfl
          refine ⟨fun _ => ?_, fun c => absurd rfl c⟩
          rw [← qu]
          exact conf h2 hd F2.b (fun a i p1 p2 => F2.2 _ _ _ (by omega)) (F2.2 _ _ _ (by omega))
        | true =>
          have hd : dec k o u hh = (some (mixR k a b c), false) := by unfold dec; rw [if_neg z12, if_neg z3, ea, eb, ec]; simp only [hw]; rfl
          refine ⟨fun c => absurd c (by decide), fun _ => ?_⟩
          have T2 : rTb h2 m 61 t d' := Td.ag fun a i _ _ => F2.2 _ _ _ (by omega)
          have hz : jI h2 1000 (m + 3) (183 + t) = nI d'.length := T2.1
          have e183 : (183 : Int32) + nI t = nI (183 + t) := nI_add 183 t
          refine VX10_bringKey_172 _ _ _ _ _ ?_
          simp (disch := omega) only [(rM_k M2), (rM_r501 M2), (rM_k1 M2), (rM_n1 M2), (rM_r502 M2), (rM_k2 M2), (rM_n2 M2), (rM_r503 M2), (rM_k3 M2), (rM_n3 M2), (rM_r504 M2), (rM_k4 M2), (rM_n4 M2), (rM_r505 M2), (rM_k5 M2), (rM_n5 M2), (rM_r506 M2), (rM_k6 M2), (rM_n6 M2), (rM_r507 M2), (rM_k7 M2), (rM_n7 M2), (rM_r508 M2), (rM_k8 M2), (rM_n8 M2), (rM_r509 M2), (rM_k9 M2), (rM_n9 M2), (rM_r510 M2), (rM_k10 M2), (rM_n10 M2), (rM_r511 M2), (rM_k11 M2), (rM_n11 M2), (rM_r512 M2), (rM_k12 M2), (rM_n12 M2), (rM_r515 M2), (rM_k13 M2), (rM_n13 M2), (rM_r516 M2), (rM_k14 M2), (rM_n14 M2), (rM_r517 M2), (rM_k15 M2), (rM_n15 M2), (rM_r518 M2), (rM_k16 M2), (rM_n16 M2), (rM_r524 M2), (rM_k17 M2), (rM_n17 M2), (rM_r525 M2), (rM_k18 M2), (rM_n18 M2), (rM_r526 M2), (rM_k19 M2), (rM_n19 M2), (rM_r528 M2), (rM_k20 M2), (rM_n20 M2), (rM_r529 M2), (rM_k21 M2), (rM_n21 M2), (rM_r531 M2), (rM_k22 M2), (rM_n22 M2), (rM_r532 M2), (rM_k23 M2), (rM_n23 M2), (rM_r533 M2), (rM_k24 M2), (rM_n24 M2), e183, qm_3, qm_4, qm_16, qm_600, qm_200, qm_8, qn_210, qn_3, qa_0, qb_0, qa_1, qb_1, qa_2, qb_2, qa_3, qb_3, qa_4, qb_4, qa_16, qb_16, qa_180, qb_180, qs_1, qs_2, qs_3, qs_4, qs_6, qs_24, nI_add, q_sub, q_pred, q_clamp, q_in, nI_leI, nI_ltI, nI_eq, ql_0, qL_0, qt_0, qT_0, qe_0, qc_0, qi_0, ql_1, qL_1, qt_1, qT_1, qe_1, qc_1, qi_1, ql_2, qL_2, qt_2, qT_2, qe_2, qc_2, qi_2, ql_3, qL_3, qt_3, qT_3, qe_3, qc_3, qi_3, ql_4, qL_4, qt_4, qT_4, qe_4, qc_4, qi_4, ql_6, qL_6, qt_6, qT_6, qe_6, qc_6, qi_6, ql_8, qL_8, qt_8, qT_8, qe_8, qc_8, qi_8, ql_10, qL_10, qt_10, qT_10, qe_10, qc_10, qi_10, ql_24, qL_24, qt_24, qT_24, qe_24, qc_24, qi_24, ql_60, qL_60, qt_60, qT_60, qe_60, qc_60, qi_60, ql_100, qL_100, qt_100, qT_100, qe_100, qc_100, qi_100, ql_200, qL_200, qt_200, qT_200, qe_200, qc_200, qi_200, ql_400, qL_400, qt_400, qT_400, qe_400, qc_400, qi_400, ql_600, qL_600, qt_600, qT_600, qe_600, qc_600, qi_600, ql_900, qL_900, qt_900, qT_900, qe_900, qc_900, qi_900, ql_1200, qL_1200, qt_1200, qT_1200, qe_1200, qc_1200, qi_1200, ql_65536, qL_65536, qt_65536, qT_65536, qe_65536, qc_65536, qi_65536, hz, v0, v1, v2, true_and, and_true, eq_self, forall_eq, forall_eq_apply_imp_iff]
          refine ⟨fun c2 => ⟨fun c => absurd c (by decide), fun _ => ?_⟩, fun c2 => H0 h2 _ (by rw [hd]) c2 F2.b⟩
          exact lay h2 (mixR k a b c) cf (by rw [hd]) rfl (by rw [hd]; rfl) F2.b T2 (CF.ag (F2.2 _ _ _ (by omega)) (fun a i _ _ => F2.2 _ _ _ (by omega))) c2
end JM
