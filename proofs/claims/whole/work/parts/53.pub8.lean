/-! conflicts, the other store: what calls answer and leave -/
def a_merging (s : St) : Int32 := if 0 < s.mg then 1 else 0
def a_conflicts (s : St) (x : Int32) : Int32 := if x = 0 then nI (opn s) else if x = 1 then nI s.cf.length else -5
def a_conflict (s : St) (i w : Int32) : Int64 := match lim s.cf.length i with
  | none => nth
  | some j => if w = 0 then Int32.toInt64 (nI (s.cf.getD j (0, 0, false)).1) else if w = 1 then Int32.toInt64 (s.cf.getD j (0, 0, false)).2.1 else if w = 2 then (if (s.cf.getD j (0, 0, false)).2.2 then 1 else 0) else nth
def St.vPl (s : St) (k : Nat) : Nat := if k = 0 then s.old else if k = 1 then s.hN s.hand else s.their
def St.vRow (s : St) (j k : Nat) : Option Row := lk (s.T (s.vPl k) (s.cf.getD j (0, 0, false)).1) (s.cf.getD j (0, 0, false)).2.1
def a_version (s : St) (i w c : Int32) : Int64 := match lim s.cf.length i, lim 3 w, lim 3 c with
  | some j, some k, some q => match s.vRow j k with
    | some r => Int32.toInt64 (colOf r q)
    | none => nth
  | _, _, _ => nth
def St.cls (s : St) (j : Nat) : St := s.set4 (s.mg, s.their, s.old, s.cf.set j ((s.cf.getD j (0, 0, false)).1, (s.cf.getD j (0, 0, false)).2.1, false))
def St.cft (s : St) (j : Nat) : Nat := (s.cf.getD j (0, 0, false)).1
def St.cfk (s : St) (j : Nat) : Int32 := (s.cf.getD j (0, 0, false)).2.1
def St.cfo (s : St) (j : Nat) : Bool := (s.cf.getD j (0, 0, false)).2.2
def a_settle (s : St) (i w : Int32) : Int32 × St := match lim s.cf.length i, lim 3 w with
  | some j, some k => match s.vRow j k with
    | none => (if s.cfo j then 1 else 0, (s.wk (s.cft j) (delT (s.T 60 (s.cft j)) (s.cfk j))).cls j)
    | some r => if (s.T 60 (s.cft j)).length = 200 ∧ (lk (s.T 60 (s.cft j)) (s.cfk j)).isNone then (-2, s) else (if s.cfo j then 1 else 0, (s.wk (s.cft j) (insT (s.T 60 (s.cft j)) r)).cls j)
  | _, _ => (-5, s)
noncomputable def St.D (s : St) (x : Int64) : Nat := dct (fun _ => False) (sq (cS x false) (fun p => nk3 (s.T p)) 61 0)
def St.tN (s : St) (b : Nat) : Nat := Int32.toNatClampNeg (s.th b)
noncomputable def a_send (s : St) (x : Int32) : Int32 × St := match bAt s x with
  | none => (-5, s)
  | some b => if s.th b ≠ -1 ∧ bt (s.an (s.hN b)) (s.tN b) = false then (-4, s) else (nI (s.D (s.thr ||| s.an (s.hN b))) - nI (s.D s.thr), s.set6 (s.thr ||| s.an (s.hN b), fun y => if y = b then s.hd b else s.th y))
def St.ftc (s : St) (b : Nat) : St := (s.sh b (s.th b)).set2 (s.made, s.here ||| s.an (s.tN b), s.fp, s.sp, s.an)
def a_fetch (s : St) (x : Int32) : Int32 × St := match lim 6 x with
  | none => (-5, s)
  | some b => if s.th b = -1 then (-5, s) else if (s.hd b ≠ -1 ∧ bt (s.an (s.tN b)) (s.hN b) = false) ∨ (b = s.hand ∧ s.cln = false) then (-4, s) else if b = s.hand ∧ 0 < s.mg then (-3, s) else (s.th b, if b = s.hand then (s.ftc b).wk3 (s.T (s.tN b)) else s.ftc b)
def a_there (s : St) (x : Int32) : Int32 := match lim 6 x with
  | none => -5
  | some b => if s.th b = -1 then -5 else s.th b
noncomputable def a_kept (s : St) (x : Int32) : Int32 := if x = 0 then nI (s.D s.thr) else if x = 1 then nI (pc s.thr 60) else -5
theorem tN_ok {s : St} (hw : s.wf) {b : Nat} (hb : b < 6) (h : s.th b ≠ -1) : s.th b = nI (s.tN b) ∧ s.tN b < s.made := by
  rcases hw.2.2.2.2.2.2.2.2.2.2 b hb with e | ⟨k, e, hk⟩
  · exact absurd e h
  · have hm := hw.1.2
    have : s.tN b = k := by unfold St.tN; rw [e, q_clamp (by omega)]
    rw [this]
    exact ⟨e, hk⟩
theorem mg_of_cf {s : St} (hw : s.wf) {j : Nat} (hj : j < s.cf.length) : 0 < s.mg := by
  rcases Nat.eq_zero_or_pos s.mg with e | e
  · have := hw.2.2.2.2.2.2.2.1.2.2.1 e
    rw [this] at hj
    simp at hj
  · exact e
theorem vPl_ok {s : St} (hw : s.wf) (hm : 0 < s.mg) (k : Nat) : s.vPl k < s.made := by
  have h1 := hw.2.2.2.2.2.2.2.1.2.1 hm
  have h2 := (hand_ok hw).2.1
  unfold St.vPl
  split
  · exact h1.2.1
  · split
    · exact h2
    · exact h1.1
theorem cf_at {s : St} {j : Nat} (hj : j < s.cf.length) : s.cf[j]? = some (s.cft j, s.cfk j, s.cfo j) := by
  unfold St.cft St.cfk St.cfo
  rw [List.getD_eq_getElem?_getD, List.getElem?_eq_getElem hj]
  rfl
section JP8
variable {m : Nat} {s : St} {h : jj_H} {Q : Value → jj_H → Prop}
theorem r_merging (R : Rr h m s) (hw : s.wf) (H : ∀ h', Rr h' m s → rfr h h' m → Q (.int (a_merging s)) h') : jj_C mX10_merging 0 0 [.ref m] h Q := by
  refine EX10_merging _ fun d => r_start R fun h1 R1 F1 => ?_
  have HH := H h1 R1 F1
  have hmg : jI h1 520 m 0 = nI s.mg := R1.g.2.2.1.1
  have hm2 : s.mg ≤ 2 := hw.2.2.2.2.2.2.2.1.1
  unfold a_merging at HH
  simp (disch := omega) only [q_clamp, q_in, nI_leI, nI_ltI, nI_eq, ql_0, qL_0, qt_0, qT_0, qe_0, qc_0, qi_0, ql_1, qL_1, qt_1, qT_1, qe_1, qc_1, qi_1, ql_2, qL_2, qt_2, qT_2, qe_2, qc_2, qi_2, ql_3, qL_3, qt_3, qT_3, qe_3, qc_3, qi_3, ql_4, qL_4, qt_4, qT_4, qe_4, qc_4, qi_4, ql_6, qL_6, qt_6, qT_6, qe_6, qc_6, qi_6, ql_8, qL_8, qt_8, qT_8, qe_8, qc_8, qi_8, ql_10, qL_10, qt_10, qT_10, qe_10, qc_10, qi_10, ql_24, qL_24, qt_24, qT_24, qe_24, qc_24, qi_24, ql_60, qL_60, qt_60, qT_60, qe_60, qc_60, qi_60, ql_100, qL_100, qt_100, qT_100, qe_100, qc_100, qi_100, ql_200, qL_200, qt_200, qT_200, qe_200, qc_200, qi_200, ql_400, qL_400, qt_400, qT_400, qe_400, qc_400, qi_400, ql_600, qL_600, qt_600, qT_600, qe_600, qc_600, qi_600, ql_900, qL_900, qt_900, qT_900, qe_900, qc_900, qi_900, ql_1200, qL_1200, qt_1200, qT_1200, qe_1200, qc_1200, qi_1200, ql_65536, qL_65536, qt_65536, qT_65536, qe_65536, qc_65536, qi_65536, hmg]
  refine ⟨fun c => ?_, fun c => ?_⟩
  · rw [if_neg (by omega)] at HH; exact HH
  · rw [if_pos (by omega)] at HH; exact HH
theorem r_conflicts {x : Int32} (R : Rr h m s) (hw : s.wf) (H : ∀ h', Rr h' m s → rfr h h' m → Q (.int (a_conflicts s x)) h') : jj_C mX10_conflicts 0 0 [.ref m, .int x] h Q := by
  refine EX10_conflicts _ _ fun d => r_start R fun h1 R1 F1 => ?_
  have HH := H h1 R1 F1
  have hc : jI h1 523 m 0 = nI s.cf.length := R1.g.2.2.1.2.2.1
  unfold a_conflicts at HH
  rw [hc]
  refine ⟨fun c => ⟨fun c2 => ?_, fun c2 => ?_⟩, fun c => s_openConflicts R1 hw ?_⟩
  · rw [if_neg c, if_neg c2] at HH; exact HH
  · rw [if_neg c, if_pos c2] at HH; exact HH
  · rw [if_pos c] at HH; exact HH
theorem r_conflict {i w : Int32} (R : Rr h m s) (hw : s.wf) (H : ∀ h', Rr h' m s → rfr h h' m → Q (.long (a_conflict s i w)) h') : jj_C mX10_conflict 0 0 [.ref m, .int i, .int w] h Q := by
  refine EX10_conflict _ _ _ fun d => r_start R fun h1 R1 F1 => ?_
  have HH := H h1 R1 F1
  have M := R1.1
  have hl : s.cf.length ≤ 900 := hw.2.2.2.2.2.2.2.1.2.2.2.1
  have hc : jI h1 523 m 0 = nI s.cf.length := R1.g.2.2.1.2.2.1
  rw [hc]
  refine s_isIn (n := s.cf.length) (by omega) rfl (fun j hj => ?_) (fun hj => ?_)
  · obtain ⟨e1, hj2⟩ := lim_some (by omega) hj
    have v := R1.g.2.2.1.2.2.2 j _ (cf_at hj2)
    have v1 : jI h1 1000 (m + 17) j = nI (s.cft j) := v.1
    have v2 : jI h1 1000 (m + 18) j = s.cfk j := v.2.1
    have v3 : jI h1 1000 (m + 19) j = if s.cfo j then 1 else 0 := v.2.2
    simp only [a_conflict, hj] at HH
    rw [e1]
    refine ⟨fun _ => ?_, fun c => absurd c (by decide)⟩
    simp (disch := omega) only [(rM_k M), (rM_r501 M), (rM_k1 M), (rM_n1 M), (rM_r502 M), (rM_k2 M), (rM_n2 M), (rM_r503 M), (rM_k3 M), (rM_n3 M), (rM_r504 M), (rM_k4 M), (rM_n4 M), (rM_r505 M), (rM_k5 M), (rM_n5 M), (rM_r506 M), (rM_k6 M), (rM_n6 M), (rM_r507 M), (rM_k7 M), (rM_n7 M), (rM_r508 M), (rM_k8 M), (rM_n8 M), (rM_r509 M), (rM_k9 M), (rM_n9 M), (rM_r510 M), (rM_k10 M), (rM_n10 M), (rM_r511 M), (rM_k11 M), (rM_n11 M), (rM_r512 M), (rM_k12 M), (rM_n12 M), (rM_r515 M), (rM_k13 M), (rM_n13 M), (rM_r516 M), (rM_k14 M), (rM_n14 M), (rM_r517 M), (rM_k15 M), (rM_n15 M), (rM_r518 M), (rM_k16 M), (rM_n16 M), (rM_r524 M), (rM_k17 M), (rM_n17 M), (rM_r525 M), (rM_k18 M), (rM_n18 M), (rM_r526 M), (rM_k19 M), (rM_n19 M), (rM_r528 M), (rM_k20 M), (rM_n20 M), (rM_r529 M), (rM_k21 M), (rM_n21 M), (rM_r531 M), (rM_k22 M), (rM_n22 M), (rM_r532 M), (rM_k23 M), (rM_n23 M), (rM_r533 M), (rM_k24 M), (rM_n24 M), q_clamp, q_in, nI_leI, nI_ltI, nI_eq, ql_0, qL_0, qt_0, qT_0, qe_0, qc_0, qi_0, ql_1, qL_1, qt_1, qT_1, qe_1, qc_1, qi_1, ql_2, qL_2, qt_2, qT_2, qe_2, qc_2, qi_2, ql_3, qL_3, qt_3, qT_3, qe_3, qc_3, qi_3, ql_4, qL_4, qt_4, qT_4, qe_4, qc_4, qi_4, ql_6, qL_6, qt_6, qT_6, qe_6, qc_6, qi_6, ql_8, qL_8, qt_8, qT_8, qe_8, qc_8, qi_8, ql_10, qL_10, qt_10, qT_10, qe_10, qc_10, qi_10, ql_24, qL_24, qt_24, qT_24, qe_24, qc_24, qi_24, ql_60, qL_60, qt_60, qT_60, qe_60, qc_60, qi_60, ql_100, qL_100, qt_100, qT_100, qe_100, qc_100, qi_100, ql_200, qL_200, qt_200, qT_200, qe_200, qc_200, qi_200, ql_400, qL_400, qt_400, qT_400, qe_400, qc_400, qi_400, ql_600, qL_600, qt_600, qT_600, qe_600, qc_600, qi_600, ql_900, qL_900, qt_900, qT_900, qe_900, qc_900, qi_900, ql_1200, qL_1200, qt_1200, qT_1200, qe_1200, qc_1200, qi_1200, ql_65536, qL_65536, qt_65536, qT_65536, qe_65536, qc_65536, qi_65536, v1, v2, v3, true_and, and_true, eq_self, forall_eq, forall_eq_apply_imp_iff]
    refine ⟨fun c => ⟨fun c2 => ⟨fun c3 => ?_, fun c3 => ?_⟩, fun c2 => ?_⟩, fun c => ?_⟩
    · rw [if_neg c, if_neg c2, if_neg c3] at HH; exact HH
    · rw [if_neg c, if_neg c2, if_pos c3] at HH
      have e : (s.cf.getD j (0, 0, false)).2.2 = s.cfo j := rfl
      rw [e] at HH
      cases q : s.cfo j with
      | false => rw [q] at HH; exact ⟨fun _ => HH, fun c => absurd rfl c⟩
      | true => rw [q] at HH; exact ⟨fun c => absurd c (by decide), fun _ => HH⟩
    · rw [if_neg c, if_pos c2] at HH; exact HH
    · rw [if_pos c] at HH; exact HH
  · simp only [a_conflict, hj] at HH
    exact ⟨fun c => absurd rfl c, fun _ => HH⟩
theorem s_rowOf {j k : Nat} (R : Rr h m s) (hw : s.wf) (hj : j < s.cf.length) (hk : k < 3) (H1 : ∀ r, s.vRow j k = some r → s.vPl k < s.made → s.cft j < 3 → rk (s.T (s.vPl k) (s.cft j)) (s.cfk j) < 200 → rw4 h m (600 * s.vPl k + 200 * s.cft j + rk (s.T (s.vPl k) (s.cft j)) (s.cfk j)) = r → Q (.int (nI (600 * s.vPl k + 200 * s.cft j + rk (s.T (s.vPl k) (s.cft j)) (s.cfk j)))) h) (H0 : s.vRow j k = none → Q (.int (-1)) h) : jj_C mX10_rowOf 0 0 [.ref m, .int (nI j), .int (nI k)] h Q := by
  have hmg := mg_of_cf hw hj
  have hp := vPl_ok hw hmg k
  have hm := hw.1.2
  have hl : s.cf.length ≤ 900 := hw.2.2.2.2.2.2.2.1.2.2.2.1
  have M := R.1
  have v := R.g.2.2.1.2.2.2 j _ (cf_at hj)
  have v1 : jI h 1000 (m + 17) j = nI (s.cft j) := v.1
  have v2 : jI h 1000 (m + 18) j = s.cfk j := v.2.1
  have ht3 : s.cft j < 3 := hw.2.2.2.2.2.2.2.1.2.2.2.2 _ (List.mem_of_getElem? (cf_at hj))
  have hot := R.g.2.2.1.2.1 hmg
  have ho : jI h 522 m 0 = nI s.old := hot.2
  have htt : jI h 521 m 0 = nI s.their := hot.1
  obtain ⟨a, b, c⟩ := hand_ok hw
  have hv : jI h 1000 (m + 16) s.hand = nI (s.hN s.hand) := (R.g.2.1.1 s.hand c).trans a
  have hh : jI h 519 m 0 = nI s.hand := R.g.2.1.2
  have T := R.2.1 (s.vPl k) (Or.inl hp) (s.cft j) ht3
  have fin : jj_C mX10_find 0 0 [.ref m, .int (nI (s.vPl k)), .int (nI (s.cft j)), .int (s.cfk j)] h (fun v4 h3 => jj_vi (fun y5 => Q (.int y5) h3) v4) := by
    refine s_find M (by omega) ht3 T (fun r hr => ?_) (fun hr => H0 hr)
    obtain ⟨q1, q2⟩ := lk_some hr
    have := (List.getElem?_eq_some_iff.mp q1).1
    exact H1 r hr hp ht3 (by have := T.2.1; omega) (T.2.2 _ _ q1)
  refine EX10_rowOf _ _ _ fun d => ?_
  simp (disch := omega) only [(rM_k M), (rM_r501 M), (rM_k1 M), (rM_n1 M), (rM_r502 M), (rM_k2 M), (rM_n2 M), (rM_r503 M), (rM_k3 M), (rM_n3 M), (rM_r504 M), (rM_k4 M), (rM_n4 M), (rM_r505 M), (rM_k5 M), (rM_n5 M), (rM_r506 M), (rM_k6 M), (rM_n6 M), (rM_r507 M), (rM_k7 M), (rM_n7 M), (rM_r508 M), (rM_k8 M), (rM_n8 M), (rM_r509 M), (rM_k9 M), (rM_n9 M), (rM_r510 M), (rM_k10 M), (rM_n10 M), (rM_r511 M), (rM_k11 M), (rM_n11 M), (rM_r512 M), (rM_k12 M), (rM_n12 M), (rM_r515 M), (rM_k13 M), (rM_n13 M), (rM_r516 M), (rM_k14 M), (rM_n14 M), (rM_r517 M), (rM_k15 M), (rM_n15 M), (rM_r518 M), (rM_k16 M), (rM_n16 M), (rM_r524 M), (rM_k17 M), (rM_n17 M), (rM_r525 M), (rM_k18 M), (rM_n18 M), (rM_r526 M), (rM_k19 M), (rM_n19 M), (rM_r528 M), (rM_k20 M), (rM_n20 M), (rM_r529 M), (rM_k21 M), (rM_n21 M), (rM_r531 M), (rM_k22 M), (rM_n22 M), (rM_r532 M), (rM_k23 M), (rM_n23 M), (rM_r533 M), (rM_k24 M), (rM_n24 M), q_clamp, q_in, nI_leI, nI_ltI, nI_eq, ql_0, qL_0, qt_0, qT_0, qe_0, qc_0, qi_0, ql_1, qL_1, qt_1, qT_1, qe_1, qc_1, qi_1, ql_2, qL_2, qt_2, qT_2, qe_2, qc_2, qi_2, ql_3, qL_3, qt_3, qT_3, qe_3, qc_3, qi_3, ql_4, qL_4, qt_4, qT_4, qe_4, qc_4, qi_4, ql_6, qL_6, qt_6, qT_6, qe_6, qc_6, qi_6, ql_8, qL_8, qt_8, qT_8, qe_8, qc_8, qi_8, ql_10, qL_10, qt_10, qT_10, qe_10, qc_10, qi_10, ql_24, qL_24, qt_24, qT_24, qe_24, qc_24, qi_24, ql_60, qL_60, qt_60, qT_60, qe_60, qc_60, qi_60, ql_100, qL_100, qt_100, qT_100, qe_100, qc_100, qi_100, ql_200, qL_200, qt_200, qT_200, qe_200, qc_200, qi_200, ql_400, qL_400, qt_400, qT_400, qe_400, qc_400, qi_400, ql_600, qL_600, qt_600, qT_600, qe_600, qc_600, qi_600, ql_900, qL_900, qt_900, qT_900, qe_900, qc_900, qi_900, ql_1200, qL_1200, qt_1200, qT_1200, qe_1200, qc_1200, qi_1200, ql_65536, qL_65536, qt_65536, qT_65536, qe_65536, qc_65536, qi_65536, v1, v2, ho, htt, hh, hv, true_and, and_true, eq_self, forall_eq, forall_eq_apply_imp_iff]
  refine ⟨fun c => ⟨fun c2 => ?_, fun c2 => ?_⟩, fun c => ?_⟩
  · have e : s.vPl k = s.their := by unfold St.vPl; rw [if_neg c, if_neg c2]
    rw [e] at fin; exact fin
  · have e : s.vPl k = s.hN s.hand := by unfold St.vPl; rw [if_neg c, if_pos c2]
    rw [e] at fin; exact fin
  · have e : s.vPl k = s.old := by unfold St.vPl; rw [if_pos c]
    rw [e] at fin; exact fin
theorem rw4_colOf {g j : Nat} {r : Row} (hj : j < 3) (e : rw4 h m g = r) : jI h 1000 (m + 2) (3 * g + j) = colOf r j := by
  rcases (show j = 0 ∨ j = 1 ∨ j = 2 by omega) with q | q | q <;> subst q <;> rw [← e] <;> rfl
theorem r_version {i w c : Int32} (R : Rr h m s) (hw : s.wf) (H : ∀ h', Rr h' m s → rfr h h' m → Q (.long (a_version s i w c)) h') : jj_C mX10_version 0 0 [.ref m, .int i, .int w, .int c] h Q := by
  refine EX10_version _ _ _ _ fun d => r_start R fun h1 R1 F1 => ?_
  have HH := H h1 R1 F1
  have M := R1.1
  have hm := hw.1.2
  have hl : s.cf.length ≤ 900 := hw.2.2.2.2.2.2.2.1.2.2.2.1
  have hc : jI h1 523 m 0 = nI s.cf.length := R1.g.2.2.1.2.2.1
  have bad : a_version s i w c = nth → jj_WP d mX10_version 0 0 67 [(0, .ref m), (3, .int c)] [.int (-1)] h1 Q := fun e => by
    rw [e] at HH
    exact VX10_version_67 _ _ _ ⟨fun q => absurd q (by decide), fun _ => HH⟩
  rw [hc]
  refine s_isIn (n := s.cf.length) (by omega) rfl (fun j hj => ?_) (fun hj => ?_)
  · refine ⟨fun c => absurd c (by decide), fun _ => s_isIn (n := 3) (by decide) rfl (fun k hk => ?_) (fun hk => ?_)⟩
    · refine ⟨fun c => absurd c (by decide), fun _ => s_isIn (n := 3) (by decide) rfl (fun q hq => ?_) (fun hq => ?_)⟩
      · refine ⟨fun c => absurd c (by decide), fun _ => ⟨R1.K, ?_⟩⟩
        obtain ⟨e1, hj2⟩ := lim_some (by omega) hj
        obtain ⟨e2, hk2⟩ := lim_some (by decide) hk
        obtain ⟨e3, hq2⟩ := lim_some (by decide) hq
        simp only [a_version, hj, hk, hq] at HH bad
        rw [e1, e2]
        refine s_rowOf R1 hw hj2 hk2 (fun r hr p1 p2 p3 p4 => ?_) (fun hr => ?_)
        · simp only [hr] at HH
          refine VX10_version_67 _ _ _ ?_
          have v := rw4_colOf hq2 p4
          rw [e3]
          simp (disch := omega) only [(rM_k M), (rM_r501 M), (rM_k1 M), (rM_n1 M), (rM_r502 M), (rM_k2 M), (rM_n2 M), (rM_r503 M), (rM_k3 M), (rM_n3 M), (rM_r504 M), (rM_k4 M), (rM_n4 M), (rM_r505 M), (rM_k5 M), (rM_n5 M), (rM_r506 M), (rM_k6 M), (rM_n6 M), (rM_r507 M), (rM_k7 M), (rM_n7 M), (rM_r508 M), (rM_k8 M), (rM_n8 M), (rM_r509 M), (rM_k9 M), (rM_n9 M), (rM_r510 M), (rM_k10 M), (rM_n10 M), (rM_r511 M), (rM_k11 M), (rM_n11 M), (rM_r512 M), (rM_k12 M), (rM_n12 M), (rM_r515 M), (rM_k13 M), (rM_n13 M), (rM_r516 M), (rM_k14 M), (rM_n14 M), (rM_r517 M), (rM_k15 M), (rM_n15 M), (rM_r518 M), (rM_k16 M), (rM_n16 M), (rM_r524 M), (rM_k17 M), (rM_n17 M), (rM_r525 M), (rM_k18 M), (rM_n18 M), (rM_r526 M), (rM_k19 M), (rM_n19 M), (rM_r528 M), (rM_k20 M), (rM_n20 M), (rM_r529 M), (rM_k21 M), (rM_n21 M), (rM_r531 M), (rM_k22 M), (rM_n22 M), (rM_r532 M), (rM_k23 M), (rM_n23 M), (rM_r533 M), (rM_k24 M), (rM_n24 M), qm_3, qm_4, qm_16, qm_600, qm_200, qm_8, qn_210, qn_3, qa_0, qb_0, qa_1, qb_1, qa_2, qb_2, qa_3, qb_3, qa_4, qb_4, qa_16, qb_16, qa_180, qb_180, qs_1, qs_2, qs_3, qs_4, qs_6, qs_24, nI_add, q_sub, q_pred, q_clamp, q_in, nI_leI, nI_ltI, nI_eq, ql_0, qL_0, qt_0, qT_0, qe_0, qc_0, qi_0, ql_1, qL_1, qt_1, qT_1, qe_1, qc_1, qi_1, ql_2, qL_2, qt_2, qT_2, qe_2, qc_2, qi_2, ql_3, qL_3, qt_3, qT_3, qe_3, qc_3, qi_3, ql_4, qL_4, qt_4, qT_4, qe_4, qc_4, qi_4, ql_6, qL_6, qt_6, qT_6, qe_6, qc_6, qi_6, ql_8, qL_8, qt_8, qT_8, qe_8, qc_8, qi_8, ql_10, qL_10, qt_10, qT_10, qe_10, qc_10, qi_10, ql_24, qL_24, qt_24, qT_24, qe_24, qc_24, qi_24, ql_60, qL_60, qt_60, qT_60, qe_60, qc_60, qi_60, ql_100, qL_100, qt_100, qT_100, qe_100, qc_100, qi_100, ql_200, qL_200, qt_200, qT_200, qe_200, qc_200, qi_200, ql_400, qL_400, qt_400, qT_400, qe_400, qc_400, qi_400, ql_600, qL_600, qt_600, qT_600, qe_600, qc_600, qi_600, ql_900, qL_900, qt_900, qT_900, qe_900, qc_900, qi_900, ql_1200, qL_1200, qt_1200, qT_1200, qe_1200, qc_1200, qi_1200, ql_65536, qL_65536, qt_65536, qT_65536, qe_65536, qc_65536, qi_65536, v, true_and, and_true, eq_self, forall_eq, forall_eq_apply_imp_iff]
          exact ⟨fun _ => HH, fun c => absurd (Nat.zero_le _) c⟩
        · exact bad (by simp only [hr])
      · exact ⟨fun _ => bad (by simp only [a_version, hj, hk, hq]), fun c => absurd rfl c⟩
    · exact ⟨fun _ => bad (by simp only [a_version, hj, hk]), fun c => absurd rfl c⟩
  · exact ⟨fun _ => bad (by simp only [a_version, hj]), fun c => absurd rfl c⟩
theorem Rr.cls {j : Nat} (R : Rr h m s) (hj : j < s.cf.length) : Rr (wI h 1000 (m + 19) j 0) m (s.cls j) := by
  refine Rr.mk (R.t.wI (s := s) (by omega)) ⟨R.g.1.wI (by omega), R.g.2.1.wI (by omega), ⟨?_, fun q => ⟨?_, ?_⟩, ?_, fun i c hc => ?_⟩, R.g.2.2.2.1.wI (by omega), R.g.2.2.2.2.wI (by omega)⟩
  · rw [jI_wI, if_neg (by omega)]; exact R.g.2.2.1.1
  · rw [jI_wI, if_neg (by omega)]; exact (R.g.2.2.1.2.1 q).1
  · rw [jI_wI, if_neg (by omega)]; exact (R.g.2.2.1.2.1 q).2
  · rw [jI_wI, if_neg (by omega)]
    show _ = nI (s.cf.set j _).length
    rw [List.length_set]
    exact R.g.2.2.1.2.2.1
  · have hc' : (s.cf.set j (s.cft j, s.cfk j, false))[i]? = some c := hc
    rw [List.getElem?_set] at hc'
    have q1 : jI (wI h 1000 (m + 19) j 0) 1000 (m + 17) i = jI h 1000 (m + 17) i := by rw [jI_wI, if_neg (by omega)]
    have q2 : jI (wI h 1000 (m + 19) j 0) 1000 (m + 18) i = jI h 1000 (m + 18) i := by rw [jI_wI, if_neg (by omega)]
    have q3 : jI (wI h 1000 (m + 19) j 0) 1000 (m + 19) i = if i = j then 0 else jI h 1000 (m + 19) i := by rw [jI_wI]; simp
    rw [q1, q2, q3]
    by_cases e : j = i
    · rw [if_pos e, if_pos hj] at hc'
      cases hc'
      have v := R.g.2.2.1.2.2.2 j _ (cf_at hj)
      rw [if_pos e.symm, ← e]
      exact ⟨v.1, v.2.1, rfl⟩
    · rw [if_neg e] at hc'
      rw [if_neg (fun z => e z.symm)]
      exact R.g.2.2.1.2.2.2 i c hc'
theorem wk_wf {t : Nat} {l : List Row} (hw : s.wf) (hl : Srt l) (hl2 : l.length ≤ 200) : (s.wk t l).wf := by
  refine ⟨hw.1, fun q u hq hu => ?_, hw.2.2⟩
  show Srt (if q = 60 ∧ u = t then l else s.T q u) ∧ (if q = 60 ∧ u = t then l else s.T q u).length ≤ 200
  split
  · exact ⟨hl, hl2⟩
  · exact hw.2.1 q u hq hu
theorem r_settle {i w : Int32} (R : Rr h m s) (hw : s.wf) (H : ∀ h', Rr h' m (a_settle s i w).2 → rfr h h' m → Q (.int (a_settle s i w).1) h') : jj_C mX10_settle 0 0 [.ref m, .int i, .int w] h Q := by
  refine EX10_settle _ _ _ fun d => r_start R fun h1 R1 F1 => ?_
  have bad : ∀ v', a_settle s i w = (v', s) → Q (.int v') h1 := fun v' e => by
    have := H h1 (by rw [e]; exact R1) F1
    rw [e] at this
    exact this
  have M := R1.1
  have hm := hw.1.2
  have hl : s.cf.length ≤ 900 := hw.2.2.2.2.2.2.2.1.2.2.2.1
  have hc : jI h1 523 m 0 = nI s.cf.length := R1.g.2.2.1.2.2.1
  rw [hc]
  refine s_isIn (n := s.cf.length) (by omega) rfl (fun j hj => ?_) (fun hj => ?_)
  · refine ⟨fun c => absurd c (by decide), fun _ => s_isIn (n := 3) (by decide) rfl (fun k hk => ?_) (fun hk => ?_)⟩
    · refine ⟨fun _ => ?_, fun c => absurd c (by decide)⟩
      obtain ⟨e1, hj2⟩ := lim_some (by omega) hj
      obtain ⟨e2, hk2⟩ := lim_some (by decide) hk
      have v := R1.g.2.2.1.2.2.2 j _ (cf_at hj2)
      have v1 : jI h1 1000 (m + 17) j = nI (s.cft j) := v.1
      have v2 : jI h1 1000 (m + 18) j = s.cfk j := v.2.1
      have ht3 : s.cft j < 3 := hw.2.2.2.2.2.2.2.1.2.2.2.2 _ (List.mem_of_getElem? (cf_at hj2))
      have T := R1.2.1 60 (Or.inr rfl) (s.cft j) ht3
      have hz : jI h1 1000 (m + 3) (180 + s.cft j) = nI (s.T 60 (s.cft j)).length := T.1
      have hn := T.2.1
      -- the end
      have fin : ∀ (h2 : jj_H) (l' : List Row), a_settle s i w = (if s.cfo j then 1 else 0, (s.wk (s.cft j) l').cls j) → rTb h2 m 60 (s.cft j) l' → rFr h1 h2 m 60 (s.cft j) → jj_WP d mX10_settle 0 0 151 [(0, .ref m), (1, .int (nI j))] [] h2 Q := by
        intro h2 l' e T2 F2
        have R2 := R1.fr1 hw ht3 F2 T2
        have M2 := R2.1
        have v3 : jI h2 1000 (m + 19) j = if s.cfo j then 1 else 0 := (R2.g.2.2.1.2.2.2 j _ (cf_at (s := s) hj2)).2.2
        refine VX10_settle_151 _ _ ?_
        simp (disch := omega) only [(rM_k M2), (rM_r501 M2), (rM_k1 M2), (rM_n1 M2), (rM_r502 M2), (rM_k2 M2), (rM_n2 M2), (rM_r503 M2), (rM_k3 M2), (rM_n3 M2), (rM_r504 M2), (rM_k4 M2), (rM_n4 M2), (rM_r505 M2), (rM_k5 M2), (rM_n5 M2), (rM_r506 M2), (rM_k6 M2), (rM_n6 M2), (rM_r507 M2), (rM_k7 M2), (rM_n7 M2), (rM_r508 M2), (rM_k8 M2), (rM_n8 M2), (rM_r509 M2), (rM_k9 M2), (rM_n9 M2), (rM_r510 M2), (rM_k10 M2), (rM_n10 M2), (rM_r511 M2), (rM_k11 M2), (rM_n11 M2), (rM_r512 M2), (rM_k12 M2), (rM_n12 M2), (rM_r515 M2), (rM_k13 M2), (rM_n13 M2), (rM_r516 M2), (rM_k14 M2), (rM_n14 M2), (rM_r517 M2), (rM_k15 M2), (rM_n15 M2), (rM_r518 M2), (rM_k16 M2), (rM_n16 M2), (rM_r524 M2), (rM_k17 M2), (rM_n17 M2), (rM_r525 M2), (rM_k18 M2), (rM_n18 M2), (rM_r526 M2), (rM_k19 M2), (rM_n19 M2), (rM_r528 M2), (rM_k20 M2), (rM_n20 M2), (rM_r529 M2), (rM_k21 M2), (rM_n21 M2), (rM_r531 M2), (rM_k22 M2), (rM_n22 M2), (rM_r532 M2), (rM_k23 M2), (rM_n23 M2), (rM_r533 M2), (rM_k24 M2), (rM_n24 M2), q_clamp, q_in, nI_leI, nI_ltI, nI_eq, ql_0, qL_0, qt_0, qT_0, qe_0, qc_0, qi_0, ql_1, qL_1, qt_1, qT_1, qe_1, qc_1, qi_1, ql_2, qL_2, qt_2, qT_2, qe_2, qc_2, qi_2, ql_3, qL_3, qt_3, qT_3, qe_3, qc_3, qi_3, ql_4, qL_4, qt_4, qT_4, qe_4, qc_4, qi_4, ql_6, qL_6, qt_6, qT_6, qe_6, qc_6, qi_6, ql_8, qL_8, qt_8, qT_8, qe_8, qc_8, qi_8, ql_10, qL_10, qt_10, qT_10, qe_10, qc_10, qi_10, ql_24, qL_24, qt_24, qT_24, qe_24, qc_24, qi_24, ql_60, qL_60, qt_60, qT_60, qe_60, qc_60, qi_60, ql_100, qL_100, qt_100, qT_100, qe_100, qc_100, qi_100, ql_200, qL_200, qt_200, qT_200, qe_200, qc_200, qi_200, ql_400, qL_400, qt_400, qT_400, qe_400, qc_400, qi_400, ql_600, qL_600, qt_600, qT_600, qe_600, qc_600, qi_600, ql_900, qL_900, qt_900, qT_900, qe_900, qc_900, qi_900, ql_1200, qL_1200, qt_1200, qT_1200, qe_1200, qc_1200, qi_1200, ql_65536, qL_65536, qt_65536, qT_65536, qe_65536, qc_65536, qi_65536, v3, true_and, and_true, eq_self, forall_eq, forall_eq_apply_imp_iff]
        have := H _ (by rw [e]; exact R2.cls (s := s.wk (s.cft j) l') hj2) (F1.trans ((F2.s ht3).fr.trans (rfr.wI (by omega) (by omega))))
        rw [e] at this
        cases q : s.cfo j with
        | false => rw [q] at this; exact ⟨fun _ => this, fun c => absurd rfl c⟩
        | true => rw [q] at this; exact ⟨fun c => absurd c (by decide), fun _ => this⟩
      rw [e1, e2]
      simp (disch := omega) only [(rM_k M), (rM_r501 M), (rM_k1 M), (rM_n1 M), (rM_r502 M), (rM_k2 M), (rM_n2 M), (rM_r503 M), (rM_k3 M), (rM_n3 M), (rM_r504 M), (rM_k4 M), (rM_n4 M), (rM_r505 M), (rM_k5 M), (rM_n5 M), (rM_r506 M), (rM_k6 M), (rM_n6 M), (rM_r507 M), (rM_k7 M), (rM_n7 M), (rM_r508 M), (rM_k8 M), (rM_n8 M), (rM_r509 M), (rM_k9 M), (rM_n9 M), (rM_r510 M), (rM_k10 M), (rM_n10 M), (rM_r511 M), (rM_k11 M), (rM_n11 M), (rM_r512 M), (rM_k12 M), (rM_n12 M), (rM_r515 M), (rM_k13 M), (rM_n13 M), (rM_r516 M), (rM_k14 M), (rM_n14 M), (rM_r517 M), (rM_k15 M), (rM_n15 M), (rM_r518 M), (rM_k16 M), (rM_n16 M), (rM_r524 M), (rM_k17 M), (rM_n17 M), (rM_r525 M), (rM_k18 M), (rM_n18 M), (rM_r526 M), (rM_k19 M), (rM_n19 M), (rM_r528 M), (rM_k20 M), (rM_n20 M), (rM_r529 M), (rM_k21 M), (rM_n21 M), (rM_r531 M), (rM_k22 M), (rM_n22 M), (rM_r532 M), (rM_k23 M), (rM_n23 M), (rM_r533 M), (rM_k24 M), (rM_n24 M), qm_3, qm_4, qm_16, qm_600, qm_200, qm_8, qn_210, qn_3, qa_0, qb_0, qa_1, qb_1, qa_2, qb_2, qa_3, qb_3, qa_4, qb_4, qa_16, qb_16, qa_180, qb_180, qs_1, qs_2, qs_3, qs_4, qs_6, qs_24, nI_add, q_sub, q_pred, q_clamp, q_in, nI_leI, nI_ltI, nI_eq, ql_0, qL_0, qt_0, qT_0, qe_0, qc_0, qi_0, ql_1, qL_1, qt_1, qT_1, qe_1, qc_1, qi_1, ql_2, qL_2, qt_2, qT_2, qe_2, qc_2, qi_2, ql_3, qL_3, qt_3, qT_3, qe_3, qc_3, qi_3, ql_4, qL_4, qt_4, qT_4, qe_4, qc_4, qi_4, ql_6, qL_6, qt_6, qT_6, qe_6, qc_6, qi_6, ql_8, qL_8, qt_8, qT_8, qe_8, qc_8, qi_8, ql_10, qL_10, qt_10, qT_10, qe_10, qc_10, qi_10, ql_24, qL_24, qt_24, qT_24, qe_24, qc_24, qi_24, ql_60, qL_60, qt_60, qT_60, qe_60, qc_60, qi_60, ql_100, qL_100, qt_100, qT_100, qe_100, qc_100, qi_100, ql_200, qL_200, qt_200, qT_200, qe_200, qc_200, qi_200, ql_400, qL_400, qt_400, qT_400, qe_400, qc_400, qi_400, ql_600, qL_600, qt_600, qT_600, qe_600, qc_600, qi_600, ql_900, qL_900, qt_900, qT_900, qe_900, qc_900, qi_900, ql_1200, qL_1200, qt_1200, qT_1200, qe_1200, qc_1200, qi_1200, ql_65536, qL_65536, qt_65536, qT_65536, qe_65536, qc_65536, qi_65536, v1, v2, true_and, and_true, eq_self, forall_eq, forall_eq_apply_imp_iff]
      refine s_rowOf R1 hw hj2 hk2 (fun r hr p1 p2 p3 p4 => ?_) (fun hr => ?_)
      · have hrk : r.1 = s.cfk j := (lk_some hr).2
        have w0 : jI h1 1000 (m + 2) (3 * (600 * s.vPl k + 200 * s.cft j + rk (s.T (s.vPl k) (s.cft j)) (s.cfk j))) = r.2.1 := rw4_colOf (j := 0) (by omega) p4
        have w1 : jI h1 1000 (m + 2) (3 * (600 * s.vPl k + 200 * s.cft j + rk (s.T (s.vPl k) (s.cft j)) (s.cfk j)) + 1) = r.2.2.1 := rw4_colOf (j := 1) (by omega) p4
        have w2 : jI h1 1000 (m + 2) (3 * (600 * s.vPl k + 200 * s.cft j + rk (s.T (s.vPl k) (s.cft j)) (s.cfk j)) + 2) = r.2.2.2 := rw4_colOf (j := 2) (by omega) p4
        have put : ¬ ((s.T 60 (s.cft j)).length = 200 ∧ (lk (s.T 60 (s.cft j)) (s.cfk j)).isNone = true) → jj_WP d mX10_settle 0 0 109 [(0, .ref m), (1, .int (nI j)), (3, .int (nI (s.cft j))), (4, .int (s.cfk j)), (5, .int (nI (600 * s.vPl k + 200 * s.cft j + rk (s.T (s.vPl k) (s.cft j)) (s.cfk j))))] [] h1 Q := by
          intro hroom
          refine VX10_settle_109 _ _ _ _ _ ?_
          simp (disch := omega) only [(rM_k M), (rM_r501 M), (rM_k1 M), (rM_n1 M), (rM_r502 M), (rM_k2 M), (rM_n2 M), (rM_r503 M), (rM_k3 M), (rM_n3 M), (rM_r504 M), (rM_k4 M), (rM_n4 M), (rM_r505 M), (rM_k5 M), (rM_n5 M), (rM_r506 M), (rM_k6 M), (rM_n6 M), (rM_r507 M), (rM_k7 M), (rM_n7 M), (rM_r508 M), (rM_k8 M), (rM_n8 M), (rM_r509 M), (rM_k9 M), (rM_n9 M), (rM_r510 M), (rM_k10 M), (rM_n10 M), (rM_r511 M), (rM_k11 M), (rM_n11 M), (rM_r512 M), (rM_k12 M), (rM_n12 M), (rM_r515 M), (rM_k13 M), (rM_n13 M), (rM_r516 M), (rM_k14 M), (rM_n14 M), (rM_r517 M), (rM_k15 M), (rM_n15 M), (rM_r518 M), (rM_k16 M), (rM_n16 M), (rM_r524 M), (rM_k17 M), (rM_n17 M), (rM_r525 M), (rM_k18 M), (rM_n18 M), (rM_r526 M), (rM_k19 M), (rM_n19 M), (rM_r528 M), (rM_k20 M), (rM_n20 M), (rM_r529 M), (rM_k21 M), (rM_n21 M), (rM_r531 M), (rM_k22 M), (rM_n22 M), (rM_r532 M), (rM_k23 M), (rM_n23 M), (rM_r533 M), (rM_k24 M), (rM_n24 M), qm_3, qm_4, qm_16, qm_600, qm_200, qm_8, qn_210, qn_3, qa_0, qb_0, qa_1, qb_1, qa_2, qb_2, qa_3, qb_3, qa_4, qb_4, qa_16, qb_16, qa_180, qb_180, qs_1, qs_2, qs_3, qs_4, qs_6, qs_24, nI_add, q_sub, q_pred, q_clamp, q_in, nI_leI, nI_ltI, nI_eq, ql_0, qL_0, qt_0, qT_0, qe_0, qc_0, qi_0, ql_1, qL_1, qt_1, qT_1, qe_1, qc_1, qi_1, ql_2, qL_2, qt_2, qT_2, qe_2, qc_2, qi_2, ql_3, qL_3, qt_3, qT_3, qe_3, qc_3, qi_3, ql_4, qL_4, qt_4, qT_4, qe_4, qc_4, qi_4, ql_6, qL_6, qt_6, qT_6, qe_6, qc_6, qi_6, ql_8, qL_8, qt_8, qT_8, qe_8, qc_8, qi_8, ql_10, qL_10, qt_10, qT_10, qe_10, qc_10, qi_10, ql_24, qL_24, qt_24, qT_24, qe_24, qc_24, qi_24, ql_60, qL_60, qt_60, qT_60, qe_60, qc_60, qi_60, ql_100, qL_100, qt_100, qT_100, qe_100, qc_100, qi_100, ql_200, qL_200, qt_200, qT_200, qe_200, qc_200, qi_200, ql_400, qL_400, qt_400, qT_400, qe_400, qc_400, qi_400, ql_600, qL_600, qt_600, qT_600, qe_600, qc_600, qi_600, ql_900, qL_900, qt_900, qT_900, qe_900, qc_900, qi_900, ql_1200, qL_1200, qt_1200, qT_1200, qe_1200, qc_1200, qi_1200, ql_65536, qL_65536, qt_65536, qT_65536, qe_65536, qc_65536, qi_65536, w0, w1, w2, true_and, and_true, eq_self, forall_eq, forall_eq_apply_imp_iff]
          rw [← hrk]
          refine s_lay (s := 60) M (by omega) ht3 T (fun z => ?_) fun h2 T2 F2 => ?_
          · rcases Nat.lt_or_ge (s.T 60 (s.cft j)).length 200 with y | y
            · exact y
            · exact absurd ⟨by omega, by rw [← hrk, z]; rfl⟩ hroom
          · exact fin h2 _ (by simp only [a_settle, hj, hk, hr, if_neg hroom]) T2 F2
        simp (disch := omega) only [jj_vi, (rM_k M), (rM_r501 M), (rM_k1 M), (rM_n1 M), (rM_r502 M), (rM_k2 M), (rM_n2 M), (rM_r503 M), (rM_k3 M), (rM_n3 M), (rM_r504 M), (rM_k4 M), (rM_n4 M), (rM_r505 M), (rM_k5 M), (rM_n5 M), (rM_r506 M), (rM_k6 M), (rM_n6 M), (rM_r507 M), (rM_k7 M), (rM_n7 M), (rM_r508 M), (rM_k8 M), (rM_n8 M), (rM_r509 M), (rM_k9 M), (rM_n9 M), (rM_r510 M), (rM_k10 M), (rM_n10 M), (rM_r511 M), (rM_k11 M), (rM_n11 M), (rM_r512 M), (rM_k12 M), (rM_n12 M), (rM_r515 M), (rM_k13 M), (rM_n13 M), (rM_r516 M), (rM_k14 M), (rM_n14 M), (rM_r517 M), (rM_k15 M), (rM_n15 M), (rM_r518 M), (rM_k16 M), (rM_n16 M), (rM_r524 M), (rM_k17 M), (rM_n17 M), (rM_r525 M), (rM_k18 M), (rM_n18 M), (rM_r526 M), (rM_k19 M), (rM_n19 M), (rM_r528 M), (rM_k20 M), (rM_n20 M), (rM_r529 M), (rM_k21 M), (rM_n21 M), (rM_r531 M), (rM_k22 M), (rM_n22 M), (rM_r532 M), (rM_k23 M), (rM_n23 M), (rM_r533 M), (rM_k24 M), (rM_n24 M), qm_3, qm_4, qm_16, qm_600, qm_200, qm_8, qn_210, qn_3, qa_0, qb_0, qa_1, qb_1, qa_2, qb_2, qa_3, qb_3, qa_4, qb_4, qa_16, qb_16, qa_180, qb_180, qs_1, qs_2, qs_3, qs_4, qs_6, qs_24, nI_add, q_sub, q_pred, q_clamp, q_in, nI_leI, nI_ltI, nI_eq, ql_0, qL_0, qt_0, qT_0, qe_0, qc_0, qi_0, ql_1, qL_1, qt_1, qT_1, qe_1, qc_1, qi_1, ql_2, qL_2, qt_2, qT_2, qe_2, qc_2, qi_2, ql_3, qL_3, qt_3, qT_3, qe_3, qc_3, qi_3, ql_4, qL_4, qt_4, qT_4, qe_4, qc_4, qi_4, ql_6, qL_6, qt_6, qT_6, qe_6, qc_6, qi_6, ql_8, qL_8, qt_8, qT_8, qe_8, qc_8, qi_8, ql_10, qL_10, qt_10, qT_10, qe_10, qc_10, qi_10, ql_24, qL_24, qt_24, qT_24, qe_24, qc_24, qi_24, ql_60, qL_60, qt_60, qT_60, qe_60, qc_60, qi_60, ql_100, qL_100, qt_100, qT_100, qe_100, qc_100, qi_100, ql_200, qL_200, qt_200, qT_200, qe_200, qc_200, qi_200, ql_400, qL_400, qt_400, qT_400, qe_400, qc_400, qi_400, ql_600, qL_600, qt_600, qT_600, qe_600, qc_600, qi_600, ql_900, qL_900, qt_900, qT_900, qe_900, qc_900, qi_900, ql_1200, qL_1200, qt_1200, qT_1200, qe_1200, qc_1200, qi_1200, ql_65536, qL_65536, qt_65536, qT_65536, qe_65536, qc_65536, qi_65536, hz, true_and, and_true, eq_self, forall_eq, forall_eq_apply_imp_iff]
        refine ⟨fun _ => ⟨fun c => put (fun z => c z.1), fun c => ?_⟩, fun c => absurd (Nat.zero_le _) c⟩
        refine s_find (s := 60) M (by omega) ht3 T (fun r' hr' => ?_) (fun hr' => ?_)
        · refine ⟨fun _ => put (fun z => by rw [hr'] at z; exact Bool.noConfusion z.2), fun q => absurd ?_ q⟩
          have := rk_le (s.T 60 (s.cft j)) (s.cfk j)
          rw [qL_0 (by omega)]
          exact Nat.zero_le _
        · exact ⟨fun q => absurd q (by decide), fun _ => bad _ (by simp only [a_settle, hj, hk, hr]; rw [if_pos ⟨c, by rw [hr']; rfl⟩])⟩
      · refine ⟨fun q => absurd q (by decide), fun _ => ⟨R1.K, ?_⟩⟩
        refine s_takeAway (s := 60) M (by omega) ht3 T fun h2 T2 F2 => ?_
        exact fin h2 _ (by simp only [a_settle, hj, hk, hr]) T2 F2
    · exact ⟨fun c => absurd rfl c, fun _ => bad _ (by simp only [a_settle, hj, hk])⟩
  · exact ⟨fun _ => bad _ (by simp only [a_settle, hj]), fun c => absurd rfl c⟩
end JP8
