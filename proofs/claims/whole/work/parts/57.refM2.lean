/-! the reference: merge, pick, undo -/
def a_tog (s : St) (po ph kd : Nat) : Int32 × St := match mgA (s.T po) (s.T (s.hN s.hand)) (s.T ph) 3 0 (fun _ => []) [] with
  | none => (-2, s)
  | some q => (2 + nI q.2.length, (s.wk3 q.1).set4 (kd, ph, po, q.2))
def a_merge (s : St) (x : Int32) : Int32 × St := match bAt s x with
  | none => (-5, s)
  | some b => if 0 < s.mg then (-3, s) else if s.cln = false then (-4, s) else if bt (s.an (s.hN s.hand)) (s.hN b) then (0, s) else if bt (s.an (s.hN b)) (s.hN s.hand) then (1, (s.sh s.hand (s.hd b)).wk3 (s.T (s.hN b))) else a_tog s (s.bas (s.hN s.hand) (s.hN b)) (s.hN b) 1
def St.fN (s : St) (c : Nat) : Nat := Int32.toNatClampNeg (s.fp c)
def a_change (s : St) (x : Int32) (back : Bool) : Int32 × St := match cAt s x with
  | none => (-5, s)
  | some c => if s.fp c = -1 ∨ s.sp c ≠ -1 then (-5, s) else if 0 < s.mg then (-3, s) else if s.cln = false then (-4, s) else if back then a_tog s c (s.fN c) 2 else a_tog s (s.fN c) c 2
theorem fN_ok {s : St} (hw : s.wf) {c : Nat} (hc : c < s.made) (h : s.fp c ≠ -1) : s.fp c = nI (s.fN c) ∧ s.fN c < s.made := by
  rcases (hw.2.2.2.2.1 c hc).1 with e | ⟨k, e, hk⟩
  · exact absurd e h
  · have hm := hw.1.2
    have : s.fN c = k := by unfold St.fN; rw [e, q_clamp (by omega)]
    rw [this]
    exact ⟨e, by omega⟩
theorem fN_here {s : St} (hw : s.wf) {c : Nat} (hc : c < s.made) (hh : bt s.here c = true) (h : s.fp c ≠ -1) : bt s.here (s.fN c) = true := by
  have hm := hw.1.2
  have f := (fN_ok hw hc h).2
  exact an_here hw (by omega) (by omega) hh (fp_an hw hc h)
theorem toI_1 (k : Int32) (x : Int32) : (Int32.toInt64 x < Int32.toInt64 k + 1) ↔ ¬ k < x := by
  have e2 : (Int32.toInt64 k + 1).toInt = k.toInt + 1 := by
    rw [Int64.toInt_add, Int32.toInt_toInt64, show (1 : Int64).toInt = 1 from rfl]
    have h1 := Int32.toInt_lt k
    have h2 := Int32.le_toInt k
    exact Int.bmod_eq_of_le (by omega) (by omega)
  rw [Int64.lt_iff_toInt_lt, e2, Int32.toInt_toInt64, Int32.lt_iff_toInt_lt]
  omega
theorem toI_m (x : Int32) : ¬ (Int32.toInt64 x < -4294967296) := by
  rw [Int64.lt_iff_toInt_lt, Int32.toInt_toInt64]
  have h2 := Int32.le_toInt x
  have : (-4294967296 : Int64).toInt = -4294967296 := by decide +kernel
  rw [this]
  omega
section JM2
variable {m : Nat} {s : St} {h : jj_H} {Q : Value → jj_H → Prop}
theorem s_nextKey {t po pu ph : Nat} {A B C : List Row} {L : Int64} (M : rM h m) (ht : t < 3) (p1 : po < 61) (p2 : pu < 61) (p3 : ph < 61) (To : rTb h m po t A) (Tu : rTb h m pu t B) (Th : rTb h m ph t C) (H : Q (.long (nkey L nth (A ++ (B ++ C)))) h) : jj_C mX10_nextKey 0 0 [.ref m, .int (nI t), .long L, .int (nI po), .int (nI pu), .int (nI ph)] h Q := by
  refine EX10_nextKey _ _ _ _ _ _ fun d => ?_
  have one : ∀ (w p : Nat) (l : List Row), w < 3 → p < 61 → rTb h m p t l → ∀ (b0 : Int64), (∀ b, b = nkey L b0 l → jj_WP d mX10_nextKey 0 0 8 [(0, .ref m), (1, .int (nI t)), (2, .long L), (4, .int (nI po)), (5, .int (nI pu)), (6, .int (nI ph)), (7, .long b), (9, .int (nI (w + 1)))] [] h Q) → ∀ r i b, i + r = l.length → nkey L b (l.drop i) = nkey L b0 l → jj_WP d mX10_nextKey 0 0 42 [(0, .ref m), (1, .int (nI t)), (2, .long L), (4, .int (nI po)), (5, .int (nI pu)), (6, .int (nI ph)), (7, .long b), (9, .int (nI w)), (10, .int (nI p)), (11, .int (nI i))] [] h Q := by
    intro w p l hw hp T b0 K r
    have hz := T.1
    have hn := T.2.1
    induction r with
    | zero =>
      intro i b hi hE
      refine VX10_nextKey_42 _ _ _ _ _ _ _ _ _ _ ?_
      simp (disch := omega) only [(rM_k M), (rM_r501 M), (rM_k1 M), (rM_n1 M), (rM_r502 M), (rM_k2 M), (rM_n2 M), (rM_r503 M), (rM_k3 M), (rM_n3 M), (rM_r504 M), (rM_k4 M), (rM_n4 M), (rM_r505 M), (rM_k5 M), (rM_n5 M), (rM_r506 M), (rM_k6 M), (rM_n6 M), (rM_r507 M), (rM_k7 M), (rM_n7 M), (rM_r508 M), (rM_k8 M), (rM_n8 M), (rM_r509 M), (rM_k9 M), (rM_n9 M), (rM_r510 M), (rM_k10 M), (rM_n10 M), (rM_r511 M), (rM_k11 M), (rM_n11 M), (rM_r512 M), (rM_k12 M), (rM_n12 M), (rM_r515 M), (rM_k13 M), (rM_n13 M), (rM_r516 M), (rM_k14 M), (rM_n14 M), (rM_r517 M), (rM_k15 M), (rM_n15 M), (rM_r518 M), (rM_k16 M), (rM_n16 M), (rM_r524 M), (rM_k17 M), (rM_n17 M), (rM_r525 M), (rM_k18 M), (rM_n18 M), (rM_r526 M), (rM_k19 M), (rM_n19 M), (rM_r528 M), (rM_k20 M), (rM_n20 M), (rM_r529 M), (rM_k21 M), (rM_n21 M), (rM_r531 M), (rM_k22 M), (rM_n22 M), (rM_r532 M), (rM_k23 M), (rM_n23 M), (rM_r533 M), (rM_k24 M), (rM_n24 M), qm_3, qm_4, qm_16, qm_600, qm_200, qm_8, qn_210, qn_3, qa_0, qb_0, qa_1, qb_1, qa_2, qb_2, qa_3, qb_3, qa_4, qb_4, qa_16, qb_16, qa_180, qb_180, qs_1, qs_2, qs_3, qs_4, qs_6, qs_24, nI_add, q_sub, q_pred, q_clamp, q_in, nI_leI, nI_ltI, nI_eq, ql_0, qL_0, qt_0, qT_0, qe_0, qc_0, qi_0, ql_1, qL_1, qt_1, qT_1, qe_1, qc_1, qi_1, ql_2, qL_2, qt_2, qT_2, qe_2, qc_2, qi_2, ql_3, qL_3, qt_3, qT_3, qe_3, qc_3, qi_3, ql_4, qL_4, qt_4, qT_4, qe_4, qc_4, qi_4, ql_6, qL_6, qt_6, qT_6, qe_6, qc_6, qi_6, ql_8, qL_8, qt_8, qT_8, qe_8, qc_8, qi_8, ql_10, qL_10, qt_10, qT_10, qe_10, qc_10, qi_10, ql_24, qL_24, qt_24, qT_24, qe_24, qc_24, qi_24, ql_60, qL_60, qt_60, qT_60, qe_60, qc_60, qi_60, ql_100, qL_100, qt_100, qT_100, qe_100, qc_100, qi_100, ql_200, qL_200, qt_200, qT_200, qe_200, qc_200, qi_200, ql_400, qL_400, qt_400, qT_400, qe_400, qc_400, qi_400, ql_600, qL_600, qt_600, qT_600, qe_600, qc_600, qi_600, ql_900, qL_900, qt_900, qT_900, qe_900, qc_900, qi_900, ql_1200, qL_1200, qt_1200, qT_1200, qe_1200, qc_1200, qi_1200, ql_65536, qL_65536, qt_65536, qT_65536, qe_65536, qc_65536, qi_65536, hz, true_and, and_true, eq_self, forall_eq, forall_eq_apply_imp_iff]
      refine ⟨fun _ => K b ?_, fun c => by omega⟩
      rw [List.drop_eq_nil_of_le (by omega)] at hE
      exact hE
    | succ r ih =>
      intro i b hi hE
      obtain ⟨x, hx⟩ : ∃ x, l[i]? = some x := ⟨_, List.getElem?_eq_getElem (by omega)⟩
      have hil := (List.getElem?_eq_some_iff.mp hx)
      have ed : l.drop i = x :: l.drop (i + 1) := by
        rw [List.drop_eq_getElem_cons hil.1]
        congr 1
        exact hil.2
      rw [ed, nkey] at hE
      have kx : jI h 1000 (m + 1) (600 * p + 200 * t + i) = x.1 := congrArg Prod.fst (T.2.2 i x hx)
      refine VX10_nextKey_42 _ _ _ _ _ _ _ _ _ _ ?_
      simp (disch := omega) only [(rM_k M), (rM_r501 M), (rM_k1 M), (rM_n1 M), (rM_r502 M), (rM_k2 M), (rM_n2 M), (rM_r503 M), (rM_k3 M), (rM_n3 M), (rM_r504 M), (rM_k4 M), (rM_n4 M), (rM_r505 M), (rM_k5 M), (rM_n5 M), (rM_r506 M), (rM_k6 M), (rM_n6 M), (rM_r507 M), (rM_k7 M), (rM_n7 M), (rM_r508 M), (rM_k8 M), (rM_n8 M), (rM_r509 M), (rM_k9 M), (rM_n9 M), (rM_r510 M), (rM_k10 M), (rM_n10 M), (rM_r511 M), (rM_k11 M), (rM_n11 M), (rM_r512 M), (rM_k12 M), (rM_n12 M), (rM_r515 M), (rM_k13 M), (rM_n13 M), (rM_r516 M), (rM_k14 M), (rM_n14 M), (rM_r517 M), (rM_k15 M), (rM_n15 M), (rM_r518 M), (rM_k16 M), (rM_n16 M), (rM_r524 M), (rM_k17 M), (rM_n17 M), (rM_r525 M), (rM_k18 M), (rM_n18 M), (rM_r526 M), (rM_k19 M), (rM_n19 M), (rM_r528 M), (rM_k20 M), (rM_n20 M), (rM_r529 M), (rM_k21 M), (rM_n21 M), (rM_r531 M), (rM_k22 M), (rM_n22 M), (rM_r532 M), (rM_k23 M), (rM_n23 M), (rM_r533 M), (rM_k24 M), (rM_n24 M), qm_3, qm_4, qm_16, qm_600, qm_200, qm_8, qn_210, qn_3, qa_0, qb_0, qa_1, qb_1, qa_2, qb_2, qa_3, qb_3, qa_4, qb_4, qa_16, qb_16, qa_180, qb_180, qs_1, qs_2, qs_3, qs_4, qs_6, qs_24, nI_add, q_sub, q_pred, q_clamp, q_in, nI_leI, nI_ltI, nI_eq, ql_0, qL_0, qt_0, qT_0, qe_0, qc_0, qi_0, ql_1, qL_1, qt_1, qT_1, qe_1, qc_1, qi_1, ql_2, qL_2, qt_2, qT_2, qe_2, qc_2, qi_2, ql_3, qL_3, qt_3, qT_3, qe_3, qc_3, qi_3, ql_4, qL_4, qt_4, qT_4, qe_4, qc_4, qi_4, ql_6, qL_6, qt_6, qT_6, qe_6, qc_6, qi_6, ql_8, qL_8, qt_8, qT_8, qe_8, qc_8, qi_8, ql_10, qL_10, qt_10, qT_10, qe_10, qc_10, qi_10, ql_24, qL_24, qt_24, qT_24, qe_24, qc_24, qi_24, ql_60, qL_60, qt_60, qT_60, qe_60, qc_60, qi_60, ql_100, qL_100, qt_100, qT_100, qe_100, qc_100, qi_100, ql_200, qL_200, qt_200, qT_200, qe_200, qc_200, qi_200, ql_400, qL_400, qt_400, qT_400, qe_400, qc_400, qi_400, ql_600, qL_600, qt_600, qT_600, qe_600, qc_600, qi_600, ql_900, qL_900, qt_900, qT_900, qe_900, qc_900, qi_900, ql_1200, qL_1200, qt_1200, qT_1200, qe_1200, qc_1200, qi_1200, ql_65536, qL_65536, qt_65536, qT_65536, qe_65536, qc_65536, qi_65536, hz, true_and, and_true, eq_self, forall_eq, forall_eq_apply_imp_iff]
      refine ⟨fun c => by omega, fun _ => s_rowAt ?_⟩
      simp (disch := omega) only [jj_vi, (rM_k M), (rM_r501 M), (rM_k1 M), (rM_n1 M), (rM_r502 M), (rM_k2 M), (rM_n2 M), (rM_r503 M), (rM_k3 M), (rM_n3 M), (rM_r504 M), (rM_k4 M), (rM_n4 M), (rM_r505 M), (rM_k5 M), (rM_n5 M), (rM_r506 M), (rM_k6 M), (rM_n6 M), (rM_r507 M), (rM_k7 M), (rM_n7 M), (rM_r508 M), (rM_k8 M), (rM_n8 M), (rM_r509 M), (rM_k9 M), (rM_n9 M), (rM_r510 M), (rM_k10 M), (rM_n10 M), (rM_r511 M), (rM_k11 M), (rM_n11 M), (rM_r512 M), (rM_k12 M), (rM_n12 M), (rM_r515 M), (rM_k13 M), (rM_n13 M), (rM_r516 M), (rM_k14 M), (rM_n14 M), (rM_r517 M), (rM_k15 M), (rM_n15 M), (rM_r518 M), (rM_k16 M), (rM_n16 M), (rM_r524 M), (rM_k17 M), (rM_n17 M), (rM_r525 M), (rM_k18 M), (rM_n18 M), (rM_r526 M), (rM_k19 M), (rM_n19 M), (rM_r528 M), (rM_k20 M), (rM_n20 M), (rM_r529 M), (rM_k21 M), (rM_n21 M), (rM_r531 M), (rM_k22 M), (rM_n22 M), (rM_r532 M), (rM_k23 M), (rM_n23 M), (rM_r533 M), (rM_k24 M), (rM_n24 M), q_clamp, q_in, nI_leI, nI_ltI, nI_eq, ql_0, qL_0, qt_0, qT_0, qe_0, qc_0, qi_0, ql_1, qL_1, qt_1, qT_1, qe_1, qc_1, qi_1, ql_2, qL_2, qt_2, qT_2, qe_2, qc_2, qi_2, ql_3, qL_3, qt_3, qT_3, qe_3, qc_3, qi_3, ql_4, qL_4, qt_4, qT_4, qe_4, qc_4, qi_4, ql_6, qL_6, qt_6, qT_6, qe_6, qc_6, qi_6, ql_8, qL_8, qt_8, qT_8, qe_8, qc_8, qi_8, ql_10, qL_10, qt_10, qT_10, qe_10, qc_10, qi_10, ql_24, qL_24, qt_24, qT_24, qe_24, qc_24, qi_24, ql_60, qL_60, qt_60, qT_60, qe_60, qc_60, qi_60, ql_100, qL_100, qt_100, qT_100, qe_100, qc_100, qi_100, ql_200, qL_200, qt_200, qT_200, qe_200, qc_200, qi_200, ql_400, qL_400, qt_400, qT_400, qe_400, qc_400, qi_400, ql_600, qL_600, qt_600, qT_600, qe_600, qc_600, qi_600, ql_900, qL_900, qt_900, qT_900, qe_900, qc_900, qi_900, ql_1200, qL_1200, qt_1200, qT_1200, qe_1200, qc_1200, qi_1200, ql_65536, qL_65536, qt_65536, qT_65536, qe_65536, qc_65536, qi_65536, kx, true_and, and_true, eq_self, forall_eq, forall_eq_apply_imp_iff]
      refine ⟨fun c => ?_, fun c => ⟨fun c2 => ?_, fun c2 => ?_⟩⟩
      · rw [if_pos c] at hE; exact ih (i + 1) b (by omega) hE
      · rw [if_neg c, if_pos c2] at hE; exact ih (i + 1) b (by omega) hE
      · rw [if_neg c, if_neg c2] at hE; exact ih (i + 1) _ (by omega) hE
  refine VX10_nextKey_8 _ _ _ _ _ _ _ _ ⟨fun c => absurd c (by decide), fun _ => ⟨fun c => absurd rfl c, fun _ => ?_⟩⟩
  refine one 0 po A (by omega) p1 To nth (fun b eb => ?_) A.length 0 nth (by omega) rfl
  refine VX10_nextKey_8 _ _ _ _ _ _ _ _ ⟨fun c => absurd c (by decide), fun _ => ⟨fun _ => ⟨fun c => absurd rfl c, fun _ => ?_⟩, fun c => absurd c (by decide)⟩⟩
  refine one 1 pu B (by omega) p2 Tu b (fun b2 eb2 => ?_) B.length 0 b (by omega) rfl
  refine VX10_nextKey_8 _ _ _ _ _ _ _ _ ⟨fun c => absurd c (by decide), fun _ => ⟨fun _ => ⟨fun _ => ?_, fun c => absurd c (by decide)⟩, fun c => absurd c (by decide)⟩⟩
  refine one 2 ph C (by omega) p3 Th b2 (fun b3 eb3 => ?_) C.length 0 b2 (by omega) rfl
  refine VX10_nextKey_8 _ _ _ _ _ _ _ _ ⟨fun _ => ?_, fun c => absurd (by decide) c⟩
  rw [eb3, eb2, eb, ← nkey_app, ← nkey_app]
  exact H
theorem Rr.bfr {h h' : jj_H} {m t a b : Nat} {cf cf' : List Cf} {s : St} (R : Rr h m (s.set4 (0, a, b, cf))) (hm : s.made ≤ 60) (F : bFr h h' m t) (C : cfR h' m cf') : Rr h' m (s.set4 (0, a, b, cf')) := by
  refine Rr.mk ⟨R.1.of (by rw [F.1]), fun p hp u hu => F.2.2 p u _ hu (fun q => by have : p < s.made ∨ p = 60 := hp; omega) (R.2.1 p hp u hu), fun p u hp hu => (R.2.2.1 p u hp hu).ag (fun a i p1 p2 => F.2.1 _ _ _ (by omega) (by omega) (by omega) (by omega)) (fun i => by unfold jL; rw [F.1])⟩ ⟨R.g.1.ag (F.2.1 _ _ _ (by omega) (by omega) (by omega) (by omega)) (by unfold jL; rw [F.1]) (fun a i p1 p2 => ⟨F.2.1 _ _ _ (by omega) (by omega) (by omega) (by omega), by unfold jL; rw [F.1]⟩), R.g.2.1.ag (F.2.1 _ _ _ (by omega) (by omega) (by omega) (by omega)) (fun i => F.2.1 _ _ _ (by omega) (by omega) (by omega) (by omega)), ⟨?_, fun q => absurd q (Nat.lt_irrefl _), C.1, C.2⟩, R.g.2.2.2.1.ag (F.2.1 _ _ _ (by omega) (by omega) (by omega) (by omega)) (fun a i p1 p2 => F.2.1 _ _ _ (by omega) (by omega) (by omega) (by omega)), R.g.2.2.2.2.ag (by unfold jL; rw [F.1]) (fun i => F.2.1 _ _ _ (by omega) (by omega) (by omega) (by omega))⟩
  rw [F.2.1 _ _ _ (by omega) (by omega) (by omega) (by omega)]
  exact R.g.2.2.1.1
theorem bFr.fr {h h' : jj_H} {m t : Nat} (F : bFr h h' m t) : rfr h h' m := ⟨by rw [F.1], fun tg a i p => ⟨F.2.1 _ _ _ (by omega) (by omega) (by omega) (by omega), by unfold jL; rw [F.1]⟩⟩
theorem Rr.cnt0 {h : jj_H} {m a b : Nat} {cf : List Cf} {s : St} (R : Rr h m (s.set4 (0, a, b, cf))) : Rr (wI h 523 m 0 0) m (s.set4 (0, a, b, [])) :=
  Rr.mk (R.t.wI (s := s) (by omega)) ⟨R.g.1.wI (by omega), R.g.2.1.wI (by omega), ⟨by rw [jI_wI, if_neg (by omega)]; exact R.g.2.2.1.1, fun q => absurd q (Nat.lt_irrefl _), by rw [jI_wI, if_pos ⟨rfl, rfl, rfl⟩]; rfl, fun i c hc => by simp [St.set4] at hc⟩, R.g.2.2.2.1.wI (by omega), R.g.2.2.2.2.wI (by omega)⟩
theorem Rr.mset {h : jj_H} {m kd po ph : Nat} {s : St} (R : Rr h m s) : Rr (wI (wI (wI h 520 m 0 (nI kd)) 522 m 0 (nI po)) 521 m 0 (nI ph)) m (s.set4 (kd, ph, po, s.cf)) := by
  refine Rr.mk (((R.t.wI (s := s) (by omega)).wI (by omega)).wI (by omega)) ⟨((R.g.1.wI (by omega)).wI (by omega)).wI (by omega), ((R.g.2.1.wI (by omega)).wI (by omega)).wI (by omega), ⟨?_, fun q => ⟨?_, ?_⟩, ?_, fun i c hc => ?_⟩, ((R.g.2.2.2.1.wI (by omega)).wI (by omega)).wI (by omega), ((R.g.2.2.2.2.wI (by omega)).wI (by omega)).wI (by omega)⟩
  · rw [jI_wI, if_neg (by omega), jI_wI, if_neg (by omega), jI_wI, if_pos ⟨rfl, rfl, rfl⟩]; rfl
  · rw [jI_wI, if_pos ⟨rfl, rfl, rfl⟩]; rfl
  · rw [jI_wI, if_neg (by omega), jI_wI, if_pos ⟨rfl, rfl, rfl⟩]; rfl
  · rw [jI_wI, if_neg (by omega), jI_wI, if_neg (by omega), jI_wI, if_neg (by omega)]; exact R.g.2.2.1.2.2.1
  · have q : ∀ a, jI (wI (wI (wI h 520 m 0 (nI kd)) 522 m 0 (nI po)) 521 m 0 (nI ph)) 1000 a i = jI h 1000 a i := fun a => by rw [jI_wI, if_neg (by omega), jI_wI, if_neg (by omega), jI_wI, if_neg (by omega)]
    rw [q, q, q]
    exact R.g.2.2.1.2.2.2 i c hc
/-- what is left of a list: the rows whose keys are not behind L -/
def lft (L : Int64) (A o : List Row) : Prop := Srt A ∧ Srt o ∧ ∀ r, r ∈ o ↔ (r ∈ A ∧ ¬ Int32.toInt64 r.1 < L)
theorem lft_lk {L : Int64} {A o : List Row} {k : Int32} (h : lft L A o) (hk : ¬ Int32.toInt64 k < L) : lk o k = lk A k := by
  cases e : lk A k with
  | none =>
    refine (lk_none_mem h.2.1).mpr fun r hr q => ?_
    exact (lk_none_mem h.1).mp e r ((h.2.2 r).mp hr).1 q
  | some r =>
    obtain ⟨a, b⟩ := (lk_mem h.1).mp e
    exact (lk_mem h.2.1).mpr ⟨(h.2.2 r).mpr ⟨a, by rw [b]; exact hk⟩, b⟩
theorem lft_pop {L : Int64} {A o : List Row} {k : Int32} (h : lft L A o) (hk : ¬ Int32.toInt64 k < L) (hle : ∀ r ∈ o, k ≤ r.1) : lft (Int32.toInt64 k + 1) A (pop k o).2 := by
  obtain ⟨p1, p2, p3, p4, p5, p6⟩ := pop_ok h.2.1 hle
  refine ⟨h.1, p2, fun r => ?_⟩
  rw [toI_1]
  constructor
  · intro hr
    refine ⟨?_, fun q => q (p3 r hr)⟩
    have : r ∈ o := by
      cases e : (pop k o).1 with
      | none => rw [← p6 e]; exact hr
      | some x => rw [(p5 x e).2]; exact List.mem_cons_of_mem _ hr
    exact ((h.2.2 r).mp this).1
  · rintro ⟨a, b⟩
    have b' : k < r.1 := Decidable.byContradiction b
    have ho : r ∈ o := (h.2.2 r).mpr ⟨a, fun q => hk (Int64.lt_trans (by rw [l_lt]; exact b') q)⟩
    cases e : (pop k o).1 with
    | none => rw [p6 e]; exact ho
    | some x =>
      rw [(p5 x e).2] at ho
      rcases List.mem_cons.mp ho with q | q
      · rw [q, (p5 x e).1] at b'; exact absurd b' (i32_irr _)
      · exact q
theorem s_tog52 {d : jj_D} {t po ph kd : Nat} {res : Nat → List Row} (hm : s.made ≤ 60) (ht : t < 3) (hpo : po < s.made) (hpu : s.hN s.hand < s.made) (hph : ph < s.made) :
    ∀ (n : Nat) (o u hh d' : List Row) (cf : List Cf) (L : Int64) (h1 : jj_H), o.length + u.length + hh.length ≤ n → 2 * cf.length + (o.length + u.length + hh.length) ≤ 600 * (t + 1) → lft L (s.T po t) o → lft L (s.T (s.hN s.hand) t) u → lft L (s.T ph t) hh → (∀ r ∈ d', Int32.toInt64 r.1 < L) → Rr h1 m (s.set4 (0, s.their, s.old, cf)) → (∀ t', t' < t → rTb h1 m 61 t' (res t')) → rTb h1 m 61 t d' → rfr h h1 m →
    (∀ h2 q, mg3 t n o u hh d' cf = some q → Rr h2 m (s.set4 (0, s.their, s.old, q.2)) → 2 * q.2.length ≤ 600 * (t + 1) → (∀ t', t' < t → rTb h2 m 61 t' (res t')) → rTb h2 m 61 t q.1 → rfr h h2 m → jj_WP d mX10_together 0 0 19 [(0, .ref m), (1, .int (nI po)), (2, .int (nI ph)), (3, .int (nI kd)), (4, .int (nI (s.hN s.hand))), (5, .int (nI (t + 1)))] [] h2 Q) →
    (∀ h2, mg3 t n o u hh d' cf = none → Rr h2 m (s.set4 (0, s.their, s.old, [])) → rfr h h2 m → Q (.int (-2)) h2) →
    jj_WP d mX10_together 0 0 52 [(0, .ref m), (1, .int (nI po)), (2, .int (nI ph)), (3, .int (nI kd)), (4, .int (nI (s.hN s.hand))), (5, .int (nI t)), (6, .long (kL (nx o u hh)))] [] h1 Q := by
  intro n
  induction n with
  | zero =>
    intro o u hh d' cf L h1 hn hcf lo lu lh hd R lows Td F K KF
    have eo : o = [] := List.length_eq_zero_iff.mp (by omega)
    have eu : u = [] := List.length_eq_zero_iff.mp (by omega)
    have eh : hh = [] := List.length_eq_zero_iff.mp (by omega)
    subst eo; subst eu; subst eh
    refine VX10_together_52 _ _ _ _ _ _ _ ⟨fun _ => ?_, fun c => absurd rfl c⟩
    rw [qa_1]
    exact K h1 (d', cf) rfl R (by simp at hcf; exact hcf) lows Td F
  | succ n ih =>
    intro o u hh d' cf L h1 hn hcf lo lu lh hd R lows Td F K KF
    obtain ⟨n1, n2⟩ := nx_ok lo.2.1 lu.2.1 lh.2.1
    rw [mg3] at K KF
    cases hx : nx o u hh with
    | none =>
      rw [hx] at K
      refine VX10_together_52 _ _ _ _ _ _ _ ⟨fun _ => ?_, fun c => absurd rfl c⟩
      rw [qa_1]
      exact K h1 (d', cf) rfl R (by show 2 * cf.length ≤ _; omega) lows Td F
    | some k =>
      rw [hx] at K KF
      simp only at K KF
      obtain ⟨k1, k2⟩ := n2 k hx
      have hkL : ¬ Int32.toInt64 k < L := by
        rcases k1 with ⟨r, hr, e⟩ | ⟨r, hr, e⟩ | ⟨r, hr, e⟩
        · rw [← e]; exact ((lo.2.2 r).mp hr).2
        · rw [← e]; exact ((lu.2.2 r).mp hr).2
        · rw [← e]; exact ((lh.2.2 r).mp hr).2
      have go : ∀ r ∈ o, k ≤ r.1 := fun r hr => k2 r.1 (Or.inl ⟨r, hr, rfl⟩)
      have gu : ∀ r ∈ u, k ≤ r.1 := fun r hr => k2 r.1 (Or.inr (Or.inl ⟨r, hr, rfl⟩))
      have gh : ∀ r ∈ hh, k ≤ r.1 := fun r hr => k2 r.1 (Or.inr (Or.inr ⟨r, hr, rfl⟩))
      have po' := pop_ok lo.2.1 go
      have pu' := pop_ok lu.2.1 gu
      have ph' := pop_ok lh.2.1 gh
      have eo := po'.1.trans (lft_lk lo hkL)
      have eu := pu'.1.trans (lft_lk lu hkL)
      have eh := ph'.1.trans (lft_lk lh hkL)
      have two : (dec k (pop k o).1 (pop k u).1 (pop k hh).1).2 = true → 2 ≤ (if (pop k o).1.isSome then 1 else 0) + (if (pop k u).1.isSome then 1 else 0) + (if (pop k hh).1.isSome then 1 else 0) := dec_two
      have one : 1 ≤ (if (pop k o).1.isSome then 1 else 0) + (if (pop k u).1.isSome then 1 else 0) + (if (pop k hh).1.isSome then 1 else 0) := by
        rcases k1 with ⟨r, hr, e⟩ | ⟨r, hr, e⟩ | ⟨r, hr, e⟩
        · rw [po'.1, (lk_mem lo.2.1).mpr ⟨hr, e⟩]; simp; omega
        · rw [pu'.1, (lk_mem lu.2.1).mpr ⟨hr, e⟩]; simp; omega
        · rw [ph'.1, (lk_mem lh.2.1).mpr ⟨hr, e⟩]; simp
      have key : ∀ r, (dec k (pop k o).1 (pop k u).1 (pop k hh).1).1 = some r → r.1 = k := fun r hr => dec_key (fun x hx => (pu'.2.2.2.2.1 x hx).1) (fun x hx => (ph'.2.2.2.2.1 x hx).1) hr
      have l1 := po'.2.2.2.1
      have l2 := pu'.2.2.2.1
      have l3 := ph'.2.2.2.1
      have no := lft_pop lo hkL go
      have nu := lft_pop lu hkL gu
      have nh := lft_pop lh hkL gh
      rw [eo, eu, eh] at K KF two key one
      rw [eo] at l1
      rw [eu] at l2
      rw [eh] at l3
      refine VX10_together_52 _ _ _ _ _ _ _ ⟨fun c => ?_, fun _ => ⟨R.K, ?_⟩⟩
      · have := lt_nth k
        have c' : Int32.toInt64 k = nth := c
        rw [c'] at this
        exact absurd this (i64_lt_irrefl _)
      have ek : Int64.toInt32 (kL (some k)) = k := Int32.toInt32_toInt64 k
      rw [ek]
      have hlen2 : 2 * cf.length ≤ 1800 := by omega
      have T1 := R.2.1 po (Or.inl hpo) t ht
      have T2 := R.2.1 (s.hN s.hand) (Or.inl hpu) t ht
      have T3 := R.2.1 ph (Or.inl hph) t ht
      refine s_bringKey (cf := cf) (A := s.T po t) (B := s.T (s.hN s.hand) t) (C := s.T ph t) R.1 ht (by omega) (by omega) (by omega) T1 T2 T3 Td ⟨R.g.2.2.1.2.2.1, R.g.2.2.1.2.2.2⟩ (by omega) (fun r hr => ?_) (fun h2 d2 hd2 Td2 C2 F2 => ?_) (fun h2 r hr h200 F2 => ?_)
      · have h5 := hd r hr
        rw [← l_lt]
        exact Decidable.byContradiction fun q => hkL (Int64.lt_of_le_of_lt (Int64.not_lt.mp q) h5)
      · have R2 := R.bfr hm F2 C2
        refine ⟨fun _ => ⟨R2.K, ?_⟩, fun c => absurd c (by decide)⟩
        have low2 : ∀ t', t' < t → rTb h2 m 61 t' (res t') := fun t' h' => F2.2.2 61 t' _ (by omega) (by omega) (lows t' h')
        refine s_nextKey (A := s.T po t) (B := s.T (s.hN s.hand) t) (C := s.T ph t) R2.1 ht (by omega) (by omega) (by omega) (R2.2.1 po (Or.inl hpo) t ht) (R2.2.1 (s.hN s.hand) (Or.inl hpu) t ht) (R2.2.1 ph (Or.inl hph) t ht) ?_
        have enk : nkey (Int32.toInt64 k + 1) nth (s.T po t ++ (s.T (s.hN s.hand) t ++ s.T ph t)) = kL (nx (pop k o).2 (pop k u).2 (pop k hh).2) := by
          refine nkey_nx no.2.1 nu.2.1 nh.2.1 (fun r hr => ⟨fun q => ?_, fun q => ?_⟩) (fun v q => ?_)
          · rcases List.mem_append.mp hr with z | z
            · exact Or.inl ⟨r, (no.2.2 r).mpr ⟨z, q⟩, rfl⟩
            · rcases List.mem_append.mp z with z | z
              · exact Or.inr (Or.inl ⟨r, (nu.2.2 r).mpr ⟨z, q⟩, rfl⟩)
              · exact Or.inr (Or.inr ⟨r, (nh.2.2 r).mpr ⟨z, q⟩, rfl⟩)
          · rcases q with ⟨x, hx, e⟩ | ⟨x, hx, e⟩ | ⟨x, hx, e⟩
            · rw [← e]; exact ((no.2.2 x).mp hx).2
            · rw [← e]; exact ((nu.2.2 x).mp hx).2
            · rw [← e]; exact ((nh.2.2 x).mp hx).2
          · rcases q with ⟨x, hx, e⟩ | ⟨x, hx, e⟩ | ⟨x, hx, e⟩
            · exact ⟨x, List.mem_append_left _ ((no.2.2 x).mp hx).1, e⟩
            · exact ⟨x, List.mem_append_right _ (List.mem_append_left _ ((nu.2.2 x).mp hx).1), e⟩
            · exact ⟨x, List.mem_append_right _ (List.mem_append_right _ ((nh.2.2 x).mp hx).1), e⟩
        show jj_WP d mX10_together 0 0 52 [(0, .ref m), (1, .int (nI po)), (2, .int (nI ph)), (3, .int (nI kd)), (4, .int (nI (s.hN s.hand))), (5, .int (nI t)), (6, .long (nkey (Int32.toInt64 k + 1) nth (s.T po t ++ (s.T (s.hN s.hand) t ++ s.T ph t))))] [] h2 Q
        rw [enk]
        have hcf2 : 2 * (if (dec k (lk (s.T po t) k) (lk (s.T (s.hN s.hand) t) k) (lk (s.T ph t) k)).2 then cf ++ [(t, k, true)] else cf).length + ((pop k o).2.length + (pop k u).2.length + (pop k hh).2.length) ≤ 600 * (t + 1) := by
          cases hb : (dec k (lk (s.T po t) k) (lk (s.T (s.hN s.hand) t) k) (lk (s.T ph t) k)).2 with
          | false => simp only [Bool.false_eq_true, if_false]; omega
          | true => have := two hb; simp only [if_true, List.length_append, List.length_singleton]; omega
        have hltk : ∀ r ∈ d', Int32.toInt64 r.1 < Int32.toInt64 k + 1 := fun r hr => by
          rw [toI_1]
          intro q
          have h5 := hd r hr
          exact hkL (Int64.lt_trans (by rw [l_lt]; exact q) h5)
        rcases hd2 with ⟨e1, e2⟩ | ⟨r, e1, e2, e3⟩
        · subst e2
          rw [e1] at K KF
          exact ih _ _ _ d2 _ _ h2 (by omega) hcf2 no nu nh hltk R2 low2 Td2 (F.trans F2.fr) K KF
        · subst e3
          rw [e1] at K KF
          simp only [if_neg e2] at K KF
          refine ih _ _ _ (d' ++ [r]) _ _ h2 (by omega) hcf2 no nu nh (fun x hx => ?_) R2 low2 Td2 (F.trans F2.fr) K KF
          rcases List.mem_append.mp hx with z | z
          · exact hltk x z
          · simp at z
            rw [z, key r e1, toI_1]
            exact i32_irr _
      · refine ⟨fun c => absurd rfl c, fun _ => ?_⟩
        rw [hr] at KF
        simp only [if_pos h200] at KF
        refine ⟨by have M2 : rM h2 m := R.1.of (by rw [F2.1]); exact rM_k M2, fun h3 e3 => ?_⟩
        have F3 : bFr h1 h3 m t := F2.trans (by rw [e3]; exact ⟨rfl, fun tg a i p1 p2 p3 p4 => by rw [jI_wI, if_neg (by omega)], fun p' t' l _ _ T => T.ag fun a i _ _ => by rw [jI_wI, if_neg (by omega)]⟩)
        exact KF h3 trivial (R.bfr hm F3 ⟨by rw [e3, jI_wI, if_pos ⟨rfl, rfl, rfl⟩]; rfl, fun i c hc => by simp at hc⟩) (F.trans F3.fr)
theorem s_tog19 {d : jj_D} {po ph kd : Nat} (hw : s.wf) (hm : s.made ≤ 60) (hpo : po < s.made) (hpu : s.hN s.hand < s.made) (hph : ph < s.made) (hkd : kd < 100) :
    ∀ (r t : Nat) (res : Nat → List Row) (cf : List Cf) (h1 : jj_H), t + r = 3 → 2 * cf.length ≤ 600 * t → Rr h1 m (s.set4 (0, s.their, s.old, cf)) → (∀ t', t' < t → rTb h1 m 61 t' (res t')) → rfr h h1 m →
    (∀ h2 q, mgA (s.T po) (s.T (s.hN s.hand)) (s.T ph) r t res cf = some q → Rr h2 m ((s.wk3 q.1).set4 (kd, ph, po, q.2)) → rfr h h2 m → Q (.int (2 + nI q.2.length)) h2) →
    (∀ h2, mgA (s.T po) (s.T (s.hN s.hand)) (s.T ph) r t res cf = none → Rr h2 m (s.set4 (0, s.their, s.old, [])) → rfr h h2 m → Q (.int (-2)) h2) →
    jj_WP d mX10_together 0 0 19 [(0, .ref m), (1, .int (nI po)), (2, .int (nI ph)), (3, .int (nI kd)), (4, .int (nI (s.hN s.hand))), (5, .int (nI t))] [] h1 Q := by
  intro r
  induction r with
  | zero =>
    intro t res cf h1 ht hcf R lows F K KF
    have M := R.1
    refine VX10_together_19 _ _ _ _ _ _ ?_
    simp (disch := omega) only [(rM_k M), (rM_r501 M), (rM_k1 M), (rM_n1 M), (rM_r502 M), (rM_k2 M), (rM_n2 M), (rM_r503 M), (rM_k3 M), (rM_n3 M), (rM_r504 M), (rM_k4 M), (rM_n4 M), (rM_r505 M), (rM_k5 M), (rM_n5 M), (rM_r506 M), (rM_k6 M), (rM_n6 M), (rM_r507 M), (rM_k7 M), (rM_n7 M), (rM_r508 M), (rM_k8 M), (rM_n8 M), (rM_r509 M), (rM_k9 M), (rM_n9 M), (rM_r510 M), (rM_k10 M), (rM_n10 M), (rM_r511 M), (rM_k11 M), (rM_n11 M), (rM_r512 M), (rM_k12 M), (rM_n12 M), (rM_r515 M), (rM_k13 M), (rM_n13 M), (rM_r516 M), (rM_k14 M), (rM_n14 M), (rM_r517 M), (rM_k15 M), (rM_n15 M), (rM_r518 M), (rM_k16 M), (rM_n16 M), (rM_r524 M), (rM_k17 M), (rM_n17 M), (rM_r525 M), (rM_k18 M), (rM_n18 M), (rM_r526 M), (rM_k19 M), (rM_n19 M), (rM_r528 M), (rM_k20 M), (rM_n20 M), (rM_r529 M), (rM_k21 M), (rM_n21 M), (rM_r531 M), (rM_k22 M), (rM_n22 M), (rM_r532 M), (rM_k23 M), (rM_n23 M), (rM_r533 M), (rM_k24 M), (rM_n24 M), q_clamp, q_in, nI_leI, nI_ltI, nI_eq, ql_0, qL_0, qt_0, qT_0, qe_0, qc_0, qi_0, ql_1, qL_1, qt_1, qT_1, qe_1, qc_1, qi_1, ql_2, qL_2, qt_2, qT_2, qe_2, qc_2, qi_2, ql_3, qL_3, qt_3, qT_3, qe_3, qc_3, qi_3, ql_4, qL_4, qt_4, qT_4, qe_4, qc_4, qi_4, ql_6, qL_6, qt_6, qT_6, qe_6, qc_6, qi_6, ql_8, qL_8, qt_8, qT_8, qe_8, qc_8, qi_8, ql_10, qL_10, qt_10, qT_10, qe_10, qc_10, qi_10, ql_24, qL_24, qt_24, qT_24, qe_24, qc_24, qi_24, ql_60, qL_60, qt_60, qT_60, qe_60, qc_60, qi_60, ql_100, qL_100, qt_100, qT_100, qe_100, qc_100, qi_100, ql_200, qL_200, qt_200, qT_200, qe_200, qc_200, qi_200, ql_400, qL_400, qt_400, qT_400, qe_400, qc_400, qi_400, ql_600, qL_600, qt_600, qT_600, qe_600, qc_600, qi_600, ql_900, qL_900, qt_900, qT_900, qe_900, qc_900, qi_900, ql_1200, qL_1200, qt_1200, qT_1200, qe_1200, qc_1200, qi_1200, ql_65536, qL_65536, qt_65536, qT_65536, qe_65536, qc_65536, qi_65536, true_and]
    refine ⟨fun _ => ?_, fun c => by omega⟩
    refine s_copy (s := 61) (s' := 60) (ls := res) M (by omega) (by omega) (by omega) (fun t' h' => lows t' (by omega)) fun h2 T2 F2 => ?_
    have R2 : Rr h2 m ((s.set4 (0, s.their, s.old, cf)).wk3 res) := R.fsm hm F2 T2
    refine ⟨R2.K, fun h3 e3 h4 e4 h5 e5 => ?_⟩
    have R5 : Rr h5 m ((s.wk3 res).set4 (kd, ph, po, cf)) := by rw [e5, e4, e3]; exact R2.mset
    have hc : jI h5 523 m 0 = nI cf.length := R5.g.2.2.1.2.2.1
    rw [hc]
    refine K h5 (res, cf) rfl R5 (F.trans (F2.fr.trans ?_))
    rw [e5, e4, e3]
    exact ((rfr.wI (by omega) (by omega)).trans (rfr.wI (by omega) (by omega))).trans (rfr.wI (by omega) (by omega))
  | succ r ih =>
    intro t res cf h1 ht hcf R lows F K KF
    have M := R.1
    have e183 : (183 : Int32) + nI t = nI (183 + t) := nI_add 183 t
    rw [mgA] at K KF
    refine VX10_together_19 _ _ _ _ _ _ ?_
    simp (disch := omega) only [(rM_k M), (rM_r501 M), (rM_k1 M), (rM_n1 M), (rM_r502 M), (rM_k2 M), (rM_n2 M), (rM_r503 M), (rM_k3 M), (rM_n3 M), (rM_r504 M), (rM_k4 M), (rM_n4 M), (rM_r505 M), (rM_k5 M), (rM_n5 M), (rM_r506 M), (rM_k6 M), (rM_n6 M), (rM_r507 M), (rM_k7 M), (rM_n7 M), (rM_r508 M), (rM_k8 M), (rM_n8 M), (rM_r509 M), (rM_k9 M), (rM_n9 M), (rM_r510 M), (rM_k10 M), (rM_n10 M), (rM_r511 M), (rM_k11 M), (rM_n11 M), (rM_r512 M), (rM_k12 M), (rM_n12 M), (rM_r515 M), (rM_k13 M), (rM_n13 M), (rM_r516 M), (rM_k14 M), (rM_n14 M), (rM_r517 M), (rM_k15 M), (rM_n15 M), (rM_r518 M), (rM_k16 M), (rM_n16 M), (rM_r524 M), (rM_k17 M), (rM_n17 M), (rM_r525 M), (rM_k18 M), (rM_n18 M), (rM_r526 M), (rM_k19 M), (rM_n19 M), (rM_r528 M), (rM_k20 M), (rM_n20 M), (rM_r529 M), (rM_k21 M), (rM_n21 M), (rM_r531 M), (rM_k22 M), (rM_n22 M), (rM_r532 M), (rM_k23 M), (rM_n23 M), (rM_r533 M), (rM_k24 M), (rM_n24 M), e183, q_clamp, q_in, nI_leI, nI_ltI, nI_eq, ql_0, qL_0, qt_0, qT_0, qe_0, qc_0, qi_0, ql_1, qL_1, qt_1, qT_1, qe_1, qc_1, qi_1, ql_2, qL_2, qt_2, qT_2, qe_2, qc_2, qi_2, ql_3, qL_3, qt_3, qT_3, qe_3, qc_3, qi_3, ql_4, qL_4, qt_4, qT_4, qe_4, qc_4, qi_4, ql_6, qL_6, qt_6, qT_6, qe_6, qc_6, qi_6, ql_8, qL_8, qt_8, qT_8, qe_8, qc_8, qi_8, ql_10, qL_10, qt_10, qT_10, qe_10, qc_10, qi_10, ql_24, qL_24, qt_24, qT_24, qe_24, qc_24, qi_24, ql_60, qL_60, qt_60, qT_60, qe_60, qc_60, qi_60, ql_100, qL_100, qt_100, qT_100, qe_100, qc_100, qi_100, ql_200, qL_200, qt_200, qT_200, qe_200, qc_200, qi_200, ql_400, qL_400, qt_400, qT_400, qe_400, qc_400, qi_400, ql_600, qL_600, qt_600, qT_600, qe_600, qc_600, qi_600, ql_900, qL_900, qt_900, qT_900, qe_900, qc_900, qi_900, ql_1200, qL_1200, qt_1200, qT_1200, qe_1200, qc_1200, qi_1200, ql_65536, qL_65536, qt_65536, qT_65536, qe_65536, qc_65536, qi_65536, true_and]
    refine ⟨fun c => by omega, fun _ h2 e2 => ?_⟩
    have i2 : ∀ tg a i, a ≠ m + 3 → jI h2 tg a i = jI h1 tg a i := fun tg a i p => by rw [e2, jI_wI, if_neg (by omega)]
    have F2 : rFr h1 h2 m 61 t := by rw [e2]; exact rFr.size (s := 61) (t := t)
    have R2 : Rr h2 m (s.set4 (0, s.their, s.old, cf)) := R.bfr hm (rFr.b (by omega) F2) ⟨(i2 _ _ _ (by omega)).trans R.g.2.2.1.2.2.1, fun i c hc => by rw [i2 _ _ _ (by omega), i2 _ _ _ (by omega), i2 _ _ _ (by omega)]; exact R.g.2.2.1.2.2.2 i c hc⟩
    have Td : rTb h2 m 61 t [] := ⟨by rw [e2, jI_wI, if_pos ⟨rfl, rfl, rfl⟩]; rfl, by simp, fun j r hj => by simp at hj⟩
    have low2 : ∀ t', t' < t → rTb h2 m 61 t' (res t') := fun t' h' => (lows t' h').other F2 (by omega) (by omega) (by omega)
    have s1 := hw.2.1 po t (Or.inl hpo) (by omega)
    have s2 := hw.2.1 (s.hN s.hand) t (Or.inl hpu) (by omega)
    have s3 := hw.2.1 ph t (Or.inl hph) (by omega)
    have all : ∀ A, Srt A → lft (-4294967296) A A := fun A hA => ⟨hA, hA, fun r => ⟨fun q => ⟨q, toI_m _⟩, fun q => q.1⟩⟩
    refine s_nextKey (A := s.T po t) (B := s.T (s.hN s.hand) t) (C := s.T ph t) R2.1 (by omega) (by omega) (by omega) (by omega) (R2.2.1 po (Or.inl hpo) t (by omega)) (R2.2.1 (s.hN s.hand) (Or.inl hpu) t (by omega)) (R2.2.1 ph (Or.inl hph) t (by omega)) ?_
    have enk : nkey (-4294967296) nth (s.T po t ++ (s.T (s.hN s.hand) t ++ s.T ph t)) = kL (nx (s.T po t) (s.T (s.hN s.hand) t) (s.T ph t)) := by
      refine nkey_nx s1.1 s2.1 s3.1 (fun r hr => ⟨fun q => ?_, fun q => toI_m _⟩) (fun v q => ?_)
      · rcases List.mem_append.mp hr with z | z
        · exact Or.inl ⟨r, z, rfl⟩
        · rcases List.mem_append.mp z with z | z
          · exact Or.inr (Or.inl ⟨r, z, rfl⟩)
          · exact Or.inr (Or.inr ⟨r, z, rfl⟩)
      · rcases q with ⟨x, hx, e⟩ | ⟨x, hx, e⟩ | ⟨x, hx, e⟩
        · exact ⟨x, List.mem_append_left _ hx, e⟩
        · exact ⟨x, List.mem_append_right _ (List.mem_append_left _ hx), e⟩
        · exact ⟨x, List.mem_append_right _ (List.mem_append_right _ hx), e⟩
    show jj_WP d mX10_together 0 0 52 [(0, .ref m), (1, .int (nI po)), (2, .int (nI ph)), (3, .int (nI kd)), (4, .int (nI (s.hN s.hand))), (5, .int (nI t)), (6, .long (nkey (-4294967296) nth (s.T po t ++ (s.T (s.hN s.hand) t ++ s.T ph t))))] [] h2 Q
    rw [enk]
    refine s_tog52 (h := h2) (res := res) hm (by omega) hpo hpu hph _ _ _ _ [] cf _ h2 (Nat.le_refl _) (by omega) (all _ s1.1) (all _ s2.1) (all _ s3.1) (fun r hr => by simp at hr) R2 low2 Td rfr.rf (fun h3 q hq R3 hc3 low3 Td3 F3 => ?_) (fun h3 hq R3 F3 => ?_)
    · rw [hq] at K KF
      simp only at K KF
      refine ih (t + 1) (fun x => if x = t then q.1 else res x) q.2 h3 (by omega) hc3 R3 (fun t' h' => ?_) (F.trans ((F2.s (by omega)).fr.trans F3)) K KF
      show rTb h3 m 61 t' (if t' = t then q.1 else res t')
      by_cases e : t' = t
      · rw [if_pos e, e]; exact Td3
      · rw [if_neg e]; exact low3 t' (by omega)
    · rw [hq] at KF
      exact KF h3 rfl R3 (F.trans ((F2.s (by omega)).fr.trans F3))
theorem s_together {po ph kd : Nat} (R : Rr h m s) (hw : s.wf) (hmg : s.mg = 0) (hpo : po < s.made) (hph : ph < s.made) (hkd : kd < 100) (H : ∀ h', Rr h' m (a_tog s po ph kd).2 → rfr h h' m → Q (.int (a_tog s po ph kd).1) h') : jj_C mX10_together 0 0 [.ref m, .int (nI po), .int (nI ph), .int (nI kd)] h Q := by
  obtain ⟨a, b, c⟩ := hand_ok hw
  have hm := hw.1.2
  have M := R.1
  have hv : jI h 1000 (m + 16) s.hand = nI (s.hN s.hand) := (R.g.2.1.1 s.hand c).trans a
  have hh : jI h 519 m 0 = nI s.hand := R.g.2.1.2
  have hcf : s.cf = [] := hw.2.2.2.2.2.2.2.1.2.2.1 hmg
  have es : s.set4 (0, s.their, s.old, []) = s := by
    have : s.set4 (s.mg, s.their, s.old, s.cf) = s := rfl
    rw [hmg, hcf] at this
    exact this
  refine EX10_together _ _ _ _ fun d => ?_
  simp (disch := omega) only [(rM_k M), (rM_r501 M), (rM_k1 M), (rM_n1 M), (rM_r502 M), (rM_k2 M), (rM_n2 M), (rM_r503 M), (rM_k3 M), (rM_n3 M), (rM_r504 M), (rM_k4 M), (rM_n4 M), (rM_r505 M), (rM_k5 M), (rM_n5 M), (rM_r506 M), (rM_k6 M), (rM_n6 M), (rM_r507 M), (rM_k7 M), (rM_n7 M), (rM_r508 M), (rM_k8 M), (rM_n8 M), (rM_r509 M), (rM_k9 M), (rM_n9 M), (rM_r510 M), (rM_k10 M), (rM_n10 M), (rM_r511 M), (rM_k11 M), (rM_n11 M), (rM_r512 M), (rM_k12 M), (rM_n12 M), (rM_r515 M), (rM_k13 M), (rM_n13 M), (rM_r516 M), (rM_k14 M), (rM_n14 M), (rM_r517 M), (rM_k15 M), (rM_n15 M), (rM_r518 M), (rM_k16 M), (rM_n16 M), (rM_r524 M), (rM_k17 M), (rM_n17 M), (rM_r525 M), (rM_k18 M), (rM_n18 M), (rM_r526 M), (rM_k19 M), (rM_n19 M), (rM_r528 M), (rM_k20 M), (rM_n20 M), (rM_r529 M), (rM_k21 M), (rM_n21 M), (rM_r531 M), (rM_k22 M), (rM_n22 M), (rM_r532 M), (rM_k23 M), (rM_n23 M), (rM_r533 M), (rM_k24 M), (rM_n24 M), q_clamp, q_in, nI_leI, nI_ltI, nI_eq, ql_0, qL_0, qt_0, qT_0, qe_0, qc_0, qi_0, ql_1, qL_1, qt_1, qT_1, qe_1, qc_1, qi_1, ql_2, qL_2, qt_2, qT_2, qe_2, qc_2, qi_2, ql_3, qL_3, qt_3, qT_3, qe_3, qc_3, qi_3, ql_4, qL_4, qt_4, qT_4, qe_4, qc_4, qi_4, ql_6, qL_6, qt_6, qT_6, qe_6, qc_6, qi_6, ql_8, qL_8, qt_8, qT_8, qe_8, qc_8, qi_8, ql_10, qL_10, qt_10, qT_10, qe_10, qc_10, qi_10, ql_24, qL_24, qt_24, qT_24, qe_24, qc_24, qi_24, ql_60, qL_60, qt_60, qT_60, qe_60, qc_60, qi_60, ql_100, qL_100, qt_100, qT_100, qe_100, qc_100, qi_100, ql_200, qL_200, qt_200, qT_200, qe_200, qc_200, qi_200, ql_400, qL_400, qt_400, qT_400, qe_400, qc_400, qi_400, ql_600, qL_600, qt_600, qT_600, qe_600, qc_600, qi_600, ql_900, qL_900, qt_900, qT_900, qe_900, qc_900, qi_900, ql_1200, qL_1200, qt_1200, qT_1200, qe_1200, qc_1200, qi_1200, ql_65536, qL_65536, qt_65536, qT_65536, qe_65536, qc_65536, qi_65536, hh, hv, true_and]
  intro h1 e1
  have R1 : Rr h1 m (s.set4 (0, s.their, s.old, [])) := by rw [e1]; exact Rr.cnt0 (cf := []) (by rw [es]; exact R)
  have F1 : rfr h h1 m := by rw [e1]; exact rfr.wI (by omega) (by omega)
  refine s_tog19 (h := h1) hw hm hpo b hph hkd 3 0 (fun _ => []) [] h1 (by omega) (by simp) R1 (fun t' h' => by omega) rfr.rf (fun h2 q hq R2 F2 => ?_) (fun h2 hq R2 F2 => ?_)
  · have e : a_tog s po ph kd = (2 + nI q.2.length, (s.wk3 q.1).set4 (kd, ph, po, q.2)) := by unfold a_tog; rw [hq]
    have := H h2 (by rw [e]; exact R2) (F1.trans F2)
    rw [e] at this
    exact this
  · have e : a_tog s po ph kd = (-2, s) := by unfold a_tog; rw [hq]
    have := H h2 (by rw [e]; rw [es] at R2; exact R2) (F1.trans F2)
    rw [e] at this
    exact this
theorem r_merge {x : Int32} (R : Rr h m s) (hw : s.wf) (H : ∀ h', Rr h' m (a_merge s x).2 → rfr h h' m → Q (.int (a_merge s x).1) h') : jj_C mX10_merge 0 0 [.ref m, .int x] h Q := by
  refine EX10_merge _ _ fun d => r_start R fun h1 R1 F1 => ?_
  have bad : ∀ v', a_merge s x = (v', s) → Q (.int v') h1 := fun v' e => by
    have := H h1 (by rw [e]; exact R1) F1
    rw [e] at this
    exact this
  refine s_isBranch R1 (fun b hb => ?_) (fun hb => ?_)
  · obtain ⟨e, hb6, hne, hd1, hd2, _⟩ := bAt_some hw hb
    obtain ⟨ha, hb', hc⟩ := hand_ok hw
    have hm := hw.1.2
    have M := R1.1
    have hmg : jI h1 520 m 0 = nI s.mg := R1.g.2.2.1.1
    have hm2 : s.mg ≤ 2 := hw.2.2.2.2.2.2.2.1.1
    have hv : jI h1 1000 (m + 16) b = nI (s.hN b) := (R1.g.2.1.1 b hb6).trans hd1
    have hv2 : jI h1 1000 (m + 16) s.hand = nI (s.hN s.hand) := (R1.g.2.1.1 s.hand hc).trans ha
    have hh : jI h1 519 m 0 = nI s.hand := R1.g.2.1.2
    refine ⟨fun _ => ⟨R1.K, ?_⟩, fun c => absurd c (by decide)⟩
    simp (disch := omega) only [q_clamp, q_in, nI_leI, nI_ltI, nI_eq, ql_0, qL_0, qt_0, qT_0, qe_0, qc_0, qi_0, ql_1, qL_1, qt_1, qT_1, qe_1, qc_1, qi_1, ql_2, qL_2, qt_2, qT_2, qe_2, qc_2, qi_2, ql_3, qL_3, qt_3, qT_3, qe_3, qc_3, qi_3, ql_4, qL_4, qt_4, qT_4, qe_4, qc_4, qi_4, ql_6, qL_6, qt_6, qT_6, qe_6, qc_6, qi_6, ql_8, qL_8, qt_8, qT_8, qe_8, qc_8, qi_8, ql_10, qL_10, qt_10, qT_10, qe_10, qc_10, qi_10, ql_24, qL_24, qt_24, qT_24, qe_24, qc_24, qi_24, ql_60, qL_60, qt_60, qT_60, qe_60, qc_60, qi_60, ql_100, qL_100, qt_100, qT_100, qe_100, qc_100, qi_100, ql_200, qL_200, qt_200, qT_200, qe_200, qc_200, qi_200, ql_400, qL_400, qt_400, qT_400, qe_400, qc_400, qi_400, ql_600, qL_600, qt_600, qT_600, qe_600, qc_600, qi_600, ql_900, qL_900, qt_900, qT_900, qe_900, qc_900, qi_900, ql_1200, qL_1200, qt_1200, qT_1200, qe_1200, qc_1200, qi_1200, ql_65536, qL_65536, qt_65536, qT_65536, qe_65536, qc_65536, qi_65536, hmg]
    refine ⟨fun c => s_isClean R1 hw (fun q => ?_) (fun q => ?_), fun c => bad _ (by simp only [a_merge, hb, if_pos (show 0 < s.mg by omega)])⟩
    · refine ⟨fun _ => ?_, fun c => absurd c (by decide)⟩
      have ng : ¬ 0 < s.mg := by omega
      have nq : ¬ s.cln = false := by rw [q]; decide
      rw [e]
      simp (disch := omega) only [(rM_k M), (rM_r501 M), (rM_k1 M), (rM_n1 M), (rM_r502 M), (rM_k2 M), (rM_n2 M), (rM_r503 M), (rM_k3 M), (rM_n3 M), (rM_r504 M), (rM_k4 M), (rM_n4 M), (rM_r505 M), (rM_k5 M), (rM_n5 M), (rM_r506 M), (rM_k6 M), (rM_n6 M), (rM_r507 M), (rM_k7 M), (rM_n7 M), (rM_r508 M), (rM_k8 M), (rM_n8 M), (rM_r509 M), (rM_k9 M), (rM_n9 M), (rM_r510 M), (rM_k10 M), (rM_n10 M), (rM_r511 M), (rM_k11 M), (rM_n11 M), (rM_r512 M), (rM_k12 M), (rM_n12 M), (rM_r515 M), (rM_k13 M), (rM_n13 M), (rM_r516 M), (rM_k14 M), (rM_n14 M), (rM_r517 M), (rM_k15 M), (rM_n15 M), (rM_r518 M), (rM_k16 M), (rM_n16 M), (rM_r524 M), (rM_k17 M), (rM_n17 M), (rM_r525 M), (rM_k18 M), (rM_n18 M), (rM_r526 M), (rM_k19 M), (rM_n19 M), (rM_r528 M), (rM_k20 M), (rM_n20 M), (rM_r529 M), (rM_k21 M), (rM_n21 M), (rM_r531 M), (rM_k22 M), (rM_n22 M), (rM_r532 M), (rM_k23 M), (rM_n23 M), (rM_r533 M), (rM_k24 M), (rM_n24 M), q_clamp, q_in, nI_leI, nI_ltI, nI_eq, ql_0, qL_0, qt_0, qT_0, qe_0, qc_0, qi_0, ql_1, qL_1, qt_1, qT_1, qe_1, qc_1, qi_1, ql_2, qL_2, qt_2, qT_2, qe_2, qc_2, qi_2, ql_3, qL_3, qt_3, qT_3, qe_3, qc_3, qi_3, ql_4, qL_4, qt_4, qT_4, qe_4, qc_4, qi_4, ql_6, qL_6, qt_6, qT_6, qe_6, qc_6, qi_6, ql_8, qL_8, qt_8, qT_8, qe_8, qc_8, qi_8, ql_10, qL_10, qt_10, qT_10, qe_10, qc_10, qi_10, ql_24, qL_24, qt_24, qT_24, qe_24, qc_24, qi_24, ql_60, qL_60, qt_60, qT_60, qe_60, qc_60, qi_60, ql_100, qL_100, qt_100, qT_100, qe_100, qc_100, qi_100, ql_200, qL_200, qt_200, qT_200, qe_200, qc_200, qi_200, ql_400, qL_400, qt_400, qT_400, qe_400, qc_400, qi_400, ql_600, qL_600, qt_600, qT_600, qe_600, qc_600, qi_600, ql_900, qL_900, qt_900, qT_900, qe_900, qc_900, qi_900, ql_1200, qL_1200, qt_1200, qT_1200, qe_1200, qc_1200, qi_1200, ql_65536, qL_65536, qt_65536, qT_65536, qe_65536, qc_65536, qi_65536, hh, hv, hv2, true_and, and_true, eq_self, forall_eq, forall_eq_apply_imp_iff]
      refine s_isAncestor R1 (by omega) hb' hm (fun z => ?_) (fun z => ?_)
      · exact ⟨fun c => absurd c (by decide), fun _ => bad _ (by simp only [a_merge, hb, if_neg ng, if_neg nq, z, if_true])⟩
      · refine ⟨fun _ => ⟨R1.K, s_isAncestor R1 (by omega) hd2 hm (fun y => ?_) (fun y => ?_)⟩, fun c => absurd rfl c⟩
        · refine ⟨fun c => absurd c (by decide), fun _ => ?_⟩
          have e2 : a_merge s x = (1, (s.sh s.hand (s.hd b)).wk3 (s.T (s.hN b))) := by simp only [a_merge, hb, if_neg ng, if_neg nq, z, y]; rfl
          simp (disch := omega) only [(rM_k M), (rM_r501 M), (rM_k1 M), (rM_n1 M), (rM_r502 M), (rM_k2 M), (rM_n2 M), (rM_r503 M), (rM_k3 M), (rM_n3 M), (rM_r504 M), (rM_k4 M), (rM_n4 M), (rM_r505 M), (rM_k5 M), (rM_n5 M), (rM_r506 M), (rM_k6 M), (rM_n6 M), (rM_r507 M), (rM_k7 M), (rM_n7 M), (rM_r508 M), (rM_k8 M), (rM_n8 M), (rM_r509 M), (rM_k9 M), (rM_n9 M), (rM_r510 M), (rM_k10 M), (rM_n10 M), (rM_r511 M), (rM_k11 M), (rM_n11 M), (rM_r512 M), (rM_k12 M), (rM_n12 M), (rM_r515 M), (rM_k13 M), (rM_n13 M), (rM_r516 M), (rM_k14 M), (rM_n14 M), (rM_r517 M), (rM_k15 M), (rM_n15 M), (rM_r518 M), (rM_k16 M), (rM_n16 M), (rM_r524 M), (rM_k17 M), (rM_n17 M), (rM_r525 M), (rM_k18 M), (rM_n18 M), (rM_r526 M), (rM_k19 M), (rM_n19 M), (rM_r528 M), (rM_k20 M), (rM_n20 M), (rM_r529 M), (rM_k21 M), (rM_n21 M), (rM_r531 M), (rM_k22 M), (rM_n22 M), (rM_r532 M), (rM_k23 M), (rM_n23 M), (rM_r533 M), (rM_k24 M), (rM_n24 M), q_clamp, q_in, nI_leI, nI_ltI, nI_eq, ql_0, qL_0, qt_0, qT_0, qe_0, qc_0, qi_0, ql_1, qL_1, qt_1, qT_1, qe_1, qc_1, qi_1, ql_2, qL_2, qt_2, qT_2, qe_2, qc_2, qi_2, ql_3, qL_3, qt_3, qT_3, qe_3, qc_3, qi_3, ql_4, qL_4, qt_4, qT_4, qe_4, qc_4, qi_4, ql_6, qL_6, qt_6, qT_6, qe_6, qc_6, qi_6, ql_8, qL_8, qt_8, qT_8, qe_8, qc_8, qi_8, ql_10, qL_10, qt_10, qT_10, qe_10, qc_10, qi_10, ql_24, qL_24, qt_24, qT_24, qe_24, qc_24, qi_24, ql_60, qL_60, qt_60, qT_60, qe_60, qc_60, qi_60, ql_100, qL_100, qt_100, qT_100, qe_100, qc_100, qi_100, ql_200, qL_200, qt_200, qT_200, qe_200, qc_200, qi_200, ql_400, qL_400, qt_400, qT_400, qe_400, qc_400, qi_400, ql_600, qL_600, qt_600, qT_600, qe_600, qc_600, qi_600, ql_900, qL_900, qt_900, qT_900, qe_900, qc_900, qi_900, ql_1200, qL_1200, qt_1200, qT_1200, qe_1200, qc_1200, qi_1200, ql_65536, qL_65536, qt_65536, qT_65536, qe_65536, qc_65536, qi_65536, hh, true_and, and_true, eq_self, forall_eq, forall_eq_apply_imp_iff]
          have R2 := R1.head (b := s.hand) (v := nI (s.hN b))
          refine s_copy (s' := 60) R2.1 (by omega) (by omega) (by omega) (R2.2.1 (s.hN b) (Or.inl hd2)) fun h3 T3 F3 => ?_
          have := H h3 (by rw [e2, hd1]; exact R2.fsm hm F3 T3) (F1.trans ((rfr.wI (by omega) (by omega)).trans F3.fr))
          rw [e2] at this
          exact this
        · refine ⟨fun _ => ⟨R1.K, s_baseOf R1 hw hb' hd2 ⟨R1.K, ?_⟩⟩, fun c => absurd rfl c⟩
          obtain ⟨b1, b2, _⟩ := bas_ok hw hb' hd2
          have e2 : a_merge s x = a_tog s (s.bas (s.hN s.hand) (s.hN b)) (s.hN b) 1 := by simp only [a_merge, hb, if_neg ng, if_neg nq, z, y]; rfl
          rw [e2] at H
          exact s_together (kd := 1) R1 hw (by omega) (by omega) hd2 (by omega) fun h' a b => H h' a (F1.trans b)
    · exact ⟨fun c => absurd rfl c, fun _ => bad _ (by simp only [a_merge, hb, if_neg (show ¬ 0 < s.mg by omega), q, if_true])⟩
  · exact ⟨fun c => absurd rfl c, fun _ => bad _ (by simp only [a_merge, hb])⟩
theorem s_change {x : Int32} {back : Bool} (R1 : Rr h m s) (hw : s.wf) (H : ∀ h', Rr h' m (a_change s x back).2 → rfr h h' m → Q (.int (a_change s x back).1) h') : jj_C mX10_change 0 0 [.ref m, .int x, .int (if back then 1 else 0)] h Q := by
  refine EX10_change _ _ _ fun d => ⟨R1.K, ?_⟩
  have bad : ∀ v', a_change s x back = (v', s) → Q (.int v') h := fun v' e => by
    have := H h (by rw [e]; exact R1) rfr.rf
    rw [e] at this
    exact this
  refine s_isCommit R1 (fun c hc => ?_) (fun hc => ?_)
  · obtain ⟨e, hc2, _⟩ := cAt_some hw hc
    have hm := hw.1.2
    have M := R1.1
    have hmg : jI h 520 m 0 = nI s.mg := R1.g.2.2.1.1
    have hm2 : s.mg ≤ 2 := hw.2.2.2.2.2.2.2.1.1
    have v1 : jI h 1000 (m + 13) c = s.fp c := (R1.g.1.2.2 c hc2).1
    have v2 : jI h 1000 (m + 14) c = s.sp c := (R1.g.1.2.2 c hc2).2.1
    refine ⟨fun c => absurd c (by decide), fun _ => ?_⟩
    rw [e]
    simp (disch := omega) only [(rM_k M), (rM_r501 M), (rM_k1 M), (rM_n1 M), (rM_r502 M), (rM_k2 M), (rM_n2 M), (rM_r503 M), (rM_k3 M), (rM_n3 M), (rM_r504 M), (rM_k4 M), (rM_n4 M), (rM_r505 M), (rM_k5 M), (rM_n5 M), (rM_r506 M), (rM_k6 M), (rM_n6 M), (rM_r507 M), (rM_k7 M), (rM_n7 M), (rM_r508 M), (rM_k8 M), (rM_n8 M), (rM_r509 M), (rM_k9 M), (rM_n9 M), (rM_r510 M), (rM_k10 M), (rM_n10 M), (rM_r511 M), (rM_k11 M), (rM_n11 M), (rM_r512 M), (rM_k12 M), (rM_n12 M), (rM_r515 M), (rM_k13 M), (rM_n13 M), (rM_r516 M), (rM_k14 M), (rM_n14 M), (rM_r517 M), (rM_k15 M), (rM_n15 M), (rM_r518 M), (rM_k16 M), (rM_n16 M), (rM_r524 M), (rM_k17 M), (rM_n17 M), (rM_r525 M), (rM_k18 M), (rM_n18 M), (rM_r526 M), (rM_k19 M), (rM_n19 M), (rM_r528 M), (rM_k20 M), (rM_n20 M), (rM_r529 M), (rM_k21 M), (rM_n21 M), (rM_r531 M), (rM_k22 M), (rM_n22 M), (rM_r532 M), (rM_k23 M), (rM_n23 M), (rM_r533 M), (rM_k24 M), (rM_n24 M), q_clamp, q_in, nI_leI, nI_ltI, nI_eq, ql_0, qL_0, qt_0, qT_0, qe_0, qc_0, qi_0, ql_1, qL_1, qt_1, qT_1, qe_1, qc_1, qi_1, ql_2, qL_2, qt_2, qT_2, qe_2, qc_2, qi_2, ql_3, qL_3, qt_3, qT_3, qe_3, qc_3, qi_3, ql_4, qL_4, qt_4, qT_4, qe_4, qc_4, qi_4, ql_6, qL_6, qt_6, qT_6, qe_6, qc_6, qi_6, ql_8, qL_8, qt_8, qT_8, qe_8, qc_8, qi_8, ql_10, qL_10, qt_10, qT_10, qe_10, qc_10, qi_10, ql_24, qL_24, qt_24, qT_24, qe_24, qc_24, qi_24, ql_60, qL_60, qt_60, qT_60, qe_60, qc_60, qi_60, ql_100, qL_100, qt_100, qT_100, qe_100, qc_100, qi_100, ql_200, qL_200, qt_200, qT_200, qe_200, qc_200, qi_200, ql_400, qL_400, qt_400, qT_400, qe_400, qc_400, qi_400, ql_600, qL_600, qt_600, qT_600, qe_600, qc_600, qi_600, ql_900, qL_900, qt_900, qT_900, qe_900, qc_900, qi_900, ql_1200, qL_1200, qt_1200, qT_1200, qe_1200, qc_1200, qi_1200, ql_65536, qL_65536, qt_65536, qT_65536, qe_65536, qc_65536, qi_65536, v1, v2, hmg, true_and, and_true, eq_self, forall_eq, forall_eq_apply_imp_iff]
    refine ⟨fun q => bad _ (by simp only [a_change, hc, q, true_or, if_true]), fun q => ⟨fun q2 => ⟨fun q3 => s_isClean R1 hw (fun z => ?_) (fun z => ?_), fun q3 => bad _ ?_⟩, fun q2 => bad _ ?_⟩⟩
    · refine ⟨fun _ => ?_, fun c => absurd c (by decide)⟩
      have nb : ¬ (s.fp c = -1 ∨ s.sp c ≠ -1) := fun y => y.elim q (fun w => w q2)
      have ng : ¬ 0 < s.mg := by omega
      have nz : ¬ s.cln = false := by rw [z]; decide
      obtain ⟨f1, f2⟩ := fN_ok hw hc2 q
      have v1' := v1.trans f1
      cases back with
      | false =>
        have e2 : a_change s x false = a_tog s (s.fN c) c 2 := by simp only [a_change, hc, if_neg nb, if_neg ng, if_neg nz]; rfl
        rw [e2] at H
        simp (disch := omega) only [(rM_k M), (rM_r501 M), (rM_k1 M), (rM_n1 M), (rM_r502 M), (rM_k2 M), (rM_n2 M), (rM_r503 M), (rM_k3 M), (rM_n3 M), (rM_r504 M), (rM_k4 M), (rM_n4 M), (rM_r505 M), (rM_k5 M), (rM_n5 M), (rM_r506 M), (rM_k6 M), (rM_n6 M), (rM_r507 M), (rM_k7 M), (rM_n7 M), (rM_r508 M), (rM_k8 M), (rM_n8 M), (rM_r509 M), (rM_k9 M), (rM_n9 M), (rM_r510 M), (rM_k10 M), (rM_n10 M), (rM_r511 M), (rM_k11 M), (rM_n11 M), (rM_r512 M), (rM_k12 M), (rM_n12 M), (rM_r515 M), (rM_k13 M), (rM_n13 M), (rM_r516 M), (rM_k14 M), (rM_n14 M), (rM_r517 M), (rM_k15 M), (rM_n15 M), (rM_r518 M), (rM_k16 M), (rM_n16 M), (rM_r524 M), (rM_k17 M), (rM_n17 M), (rM_r525 M), (rM_k18 M), (rM_n18 M), (rM_r526 M), (rM_k19 M), (rM_n19 M), (rM_r528 M), (rM_k20 M), (rM_n20 M), (rM_r529 M), (rM_k21 M), (rM_n21 M), (rM_r531 M), (rM_k22 M), (rM_n22 M), (rM_r532 M), (rM_k23 M), (rM_n23 M), (rM_r533 M), (rM_k24 M), (rM_n24 M), q_clamp, q_in, nI_leI, nI_ltI, nI_eq, ql_0, qL_0, qt_0, qT_0, qe_0, qc_0, qi_0, ql_1, qL_1, qt_1, qT_1, qe_1, qc_1, qi_1, ql_2, qL_2, qt_2, qT_2, qe_2, qc_2, qi_2, ql_3, qL_3, qt_3, qT_3, qe_3, qc_3, qi_3, ql_4, qL_4, qt_4, qT_4, qe_4, qc_4, qi_4, ql_6, qL_6, qt_6, qT_6, qe_6, qc_6, qi_6, ql_8, qL_8, qt_8, qT_8, qe_8, qc_8, qi_8, ql_10, qL_10, qt_10, qT_10, qe_10, qc_10, qi_10, ql_24, qL_24, qt_24, qT_24, qe_24, qc_24, qi_24, ql_60, qL_60, qt_60, qT_60, qe_60, qc_60, qi_60, ql_100, qL_100, qt_100, qT_100, qe_100, qc_100, qi_100, ql_200, qL_200, qt_200, qT_200, qe_200, qc_200, qi_200, ql_400, qL_400, qt_400, qT_400, qe_400, qc_400, qi_400, ql_600, qL_600, qt_600, qT_600, qe_600, qc_600, qi_600, ql_900, qL_900, qt_900, qT_900, qe_900, qc_900, qi_900, ql_1200, qL_1200, qt_1200, qT_1200, qe_1200, qc_1200, qi_1200, ql_65536, qL_65536, qt_65536, qT_65536, qe_65536, qc_65536, qi_65536, v1', true_and, and_true, eq_self, forall_eq, forall_eq_apply_imp_iff]
        exact ⟨fun _ => ⟨fun _ => s_together (kd := 2) R1 hw (by omega) f2 hc2 (by omega) H, fun c => absurd rfl c⟩, fun c => absurd rfl c⟩
      | true =>
        have e2 : a_change s x true = a_tog s c (s.fN c) 2 := by simp only [a_change, hc, if_neg nb, if_neg ng, if_neg nz]; rfl
        rw [e2] at H
        simp (disch := omega) only [(rM_k M), (rM_r501 M), (rM_k1 M), (rM_n1 M), (rM_r502 M), (rM_k2 M), (rM_n2 M), (rM_r503 M), (rM_k3 M), (rM_n3 M), (rM_r504 M), (rM_k4 M), (rM_n4 M), (rM_r505 M), (rM_k5 M), (rM_n5 M), (rM_r506 M), (rM_k6 M), (rM_n6 M), (rM_r507 M), (rM_k7 M), (rM_n7 M), (rM_r508 M), (rM_k8 M), (rM_n8 M), (rM_r509 M), (rM_k9 M), (rM_n9 M), (rM_r510 M), (rM_k10 M), (rM_n10 M), (rM_r511 M), (rM_k11 M), (rM_n11 M), (rM_r512 M), (rM_k12 M), (rM_n12 M), (rM_r515 M), (rM_k13 M), (rM_n13 M), (rM_r516 M), (rM_k14 M), (rM_n14 M), (rM_r517 M), (rM_k15 M), (rM_n15 M), (rM_r518 M), (rM_k16 M), (rM_n16 M), (rM_r524 M), (rM_k17 M), (rM_n17 M), (rM_r525 M), (rM_k18 M), (rM_n18 M), (rM_r526 M), (rM_k19 M), (rM_n19 M), (rM_r528 M), (rM_k20 M), (rM_n20 M), (rM_r529 M), (rM_k21 M), (rM_n21 M), (rM_r531 M), (rM_k22 M), (rM_n22 M), (rM_r532 M), (rM_k23 M), (rM_n23 M), (rM_r533 M), (rM_k24 M), (rM_n24 M), q_clamp, q_in, nI_leI, nI_ltI, nI_eq, ql_0, qL_0, qt_0, qT_0, qe_0, qc_0, qi_0, ql_1, qL_1, qt_1, qT_1, qe_1, qc_1, qi_1, ql_2, qL_2, qt_2, qT_2, qe_2, qc_2, qi_2, ql_3, qL_3, qt_3, qT_3, qe_3, qc_3, qi_3, ql_4, qL_4, qt_4, qT_4, qe_4, qc_4, qi_4, ql_6, qL_6, qt_6, qT_6, qe_6, qc_6, qi_6, ql_8, qL_8, qt_8, qT_8, qe_8, qc_8, qi_8, ql_10, qL_10, qt_10, qT_10, qe_10, qc_10, qi_10, ql_24, qL_24, qt_24, qT_24, qe_24, qc_24, qi_24, ql_60, qL_60, qt_60, qT_60, qe_60, qc_60, qi_60, ql_100, qL_100, qt_100, qT_100, qe_100, qc_100, qi_100, ql_200, qL_200, qt_200, qT_200, qe_200, qc_200, qi_200, ql_400, qL_400, qt_400, qT_400, qe_400, qc_400, qi_400, ql_600, qL_600, qt_600, qT_600, qe_600, qc_600, qi_600, ql_900, qL_900, qt_900, qT_900, qe_900, qc_900, qi_900, ql_1200, qL_1200, qt_1200, qT_1200, qe_1200, qc_1200, qi_1200, ql_65536, qL_65536, qt_65536, qT_65536, qe_65536, qc_65536, qi_65536, v1', true_and, and_true, eq_self, forall_eq, forall_eq_apply_imp_iff]
        exact ⟨fun c => absurd c (by decide), fun _ => ⟨fun c => absurd c (by decide), fun _ => s_together (kd := 2) R1 hw (by omega) hc2 f2 (by omega) H⟩⟩
    · refine ⟨fun c => absurd rfl c, fun _ => bad _ ?_⟩
      have nb : ¬ (s.fp c = -1 ∨ s.sp c ≠ -1) := fun y => y.elim q (fun w => w q2)
      simp only [a_change, hc, if_neg nb, if_neg (show ¬ 0 < s.mg by omega), z, if_true]
    · have nb : ¬ (s.fp c = -1 ∨ s.sp c ≠ -1) := fun y => y.elim q (fun w => w q2)
      simp only [a_change, hc, if_neg nb, if_pos (show 0 < s.mg by omega)]
    · simp only [a_change, hc]; rw [if_pos (Or.inr q2)]
  · exact ⟨fun _ => bad _ (by simp only [a_change, hc]), fun c => absurd rfl c⟩
theorem r_pick {x : Int32} (R : Rr h m s) (hw : s.wf) (H : ∀ h', Rr h' m (a_change s x false).2 → rfr h h' m → Q (.int (a_change s x false).1) h') : jj_C mX10_pick 0 0 [.ref m, .int x] h Q :=
  EX10_pick _ _ fun d => r_start R fun h1 R1 F1 => s_change (back := false) R1 hw fun h' a b => H h' a (F1.trans b)
theorem r_undo {x : Int32} (R : Rr h m s) (hw : s.wf) (H : ∀ h', Rr h' m (a_change s x true).2 → rfr h h' m → Q (.int (a_change s x true).1) h') : jj_C mX10_undo 0 0 [.ref m, .int x] h Q :=
  EX10_undo _ _ fun d => r_start R fun h1 R1 F1 => s_change (back := true) R1 hw fun h' a b => H h' a (F1.trans b)
end JM2
