/-! the class: what exists -/
theorem jV_C {K : jj_M} {bc bs : Nat} {as : List Value} {h : jj_H} {Q : Value → jj_H → Prop} (hy : plainName K.1.cls = true) (k : jj_V h → jj_C K bc bs as h Q) : jj_C K bc bs as h Q := by
  by_cases hv : jj_V h
  · exact k hv
  · intro l d
    refine Met.ofW (cc := K.2.1) (maxL := K.2.2.1) (ret := K.2.2.2.1) hy rfl ?_
    intro p e s m args below meth c s₁ B hml hp
    obtain ⟨rfl, hK, hX, hbB, hBs, hP⟩ := hp
    exact absurd hP.2.1 hv
theorem jV_WP {d : jj_D} {K : jj_M} {bc bs pc : Nat} {L : List (Nat × Value)} {st : List Value} {h : jj_H} {Q : Value → jj_H → Prop} (k : jj_V h → jj_WP d K bc bs pc L st h Q) : jj_WP d K bc bs pc L st h Q :=
  fun p l e R s m args below meth c mc ms Z X RR H locs cells slots ls S => k S.1.2.1 p l e R s m args below meth c mc ms Z X RR H locs cells slots ls S
theorem jV_le {h : jj_H} {a : Nat} (V : jj_V h) (k : jK h a ≠ 0) : 1 ≤ a ∧ a ≤ jZ h := by
  obtain ⟨i, e, hi⟩ := V a k
  omega
/-! the class: nodes -/
def ndO (h : jj_H) (a r w : Nat) (k : NK) (e : Nat) : Prop := jK h a = 4 ∧ jR h 150 a 0 = r ∧ 0 < r ∧ jI h 151 a 0 = nI k.1 ∧ k.1 < 1000 ∧ jI h 153 a 0 = nI k.2.2.length ∧ jI h 154 a 0 = nI e ∧ jL h 155 a 0 = k.2.1 ∧ ∃ l f, rwO h r w l ∧ jI h 152 a 0 = nI f ∧ f + k.2.2.length ≤ l.length ∧ (l.drop f).take k.2.2.length = k.2.2 ∧ (k.2.2.length = 0 → f = 0)
theorem ndO.len {h : jj_H} {a r w e : Nat} {k : NK} (N : ndO h a r w k e) : k.2.2.length ≤ 200 := by
  obtain ⟨_, _, _, _, _, _, _, _, l, f, R, _, c, _⟩ := N
  have := R.2.2.2.2.2.2.1
  omega
section JN
variable {a a' r r' w w' e e' : Nat} {k k' : NK} {h : jj_H} {Q : Value → jj_H → Prop}
theorem c_nodeSame (N : ndO h a r w k e) (N' : ndO h a' r' w' k' e') (H : Q (.int (if k = k' then 1 else 0)) h) : jj_C mX3_isSame 0 0 [.ref a, .ref a'] h Q := by
  have hl := N.len
  have hl' := N'.len
  obtain ⟨n1, n2, n3, n4, n5, n6, n7, n8, l, f, R, f1, f2, f3, f4⟩ := N
  obtain ⟨n1', n2', n3', n4', n5', n6', n7', n8', l', f', R', f1', f2', f3', f4'⟩ := N'
  have no : k ≠ k' → Q (.int 0) h := fun q => by rw [if_neg q] at H; exact H
  have hll := R.2.2.2.2.2.2.1
  have hll' := R'.2.2.2.2.2.2.1
  refine EX3_isSame _ _ fun d => ?_
  simp (disch := omega) only [n1, n1', n2, n2', n4, n4', n6, n6', n8, n8', f1, f1', q_clamp, q_in, nI_leI, nI_ltI, nI_eq, ql_0, qL_0, qt_0, qT_0, qe_0, qc_0, qi_0, ql_1, qL_1, qt_1, qT_1, qe_1, qc_1, qi_1, ql_2, qL_2, qt_2, qT_2, qe_2, qc_2, qi_2, ql_3, qL_3, qt_3, qT_3, qe_3, qc_3, qi_3, ql_4, qL_4, qt_4, qT_4, qe_4, qc_4, qi_4, ql_6, qL_6, qt_6, qT_6, qe_6, qc_6, qi_6, ql_8, qL_8, qt_8, qT_8, qe_8, qc_8, qi_8, ql_10, qL_10, qt_10, qT_10, qe_10, qc_10, qi_10, ql_24, qL_24, qt_24, qT_24, qe_24, qc_24, qi_24, ql_60, qL_60, qt_60, qT_60, qe_60, qc_60, qi_60, ql_100, qL_100, qt_100, qT_100, qe_100, qc_100, qi_100, ql_200, qL_200, qt_200, qT_200, qe_200, qc_200, qi_200, ql_400, qL_400, qt_400, qT_400, qe_400, qc_400, qi_400, ql_600, qL_600, qt_600, qT_600, qe_600, qc_600, qi_600, ql_900, qL_900, qt_900, qT_900, qe_900, qc_900, qi_900, ql_1200, qL_1200, qt_1200, qT_1200, qe_1200, qc_1200, qi_1200, ql_65536, qL_65536, qt_65536, qT_65536, qe_65536, qc_65536, qi_65536, true_and, and_true, eq_self, forall_eq, forall_eq_apply_imp_iff]
  refine ⟨fun c => no fun q => c (by rw [q]), fun c1 => ⟨fun c => no fun q => c (by rw [q]), fun c2 => ⟨fun c3 => ⟨fun c => by omega, fun _ => ⟨fun c => by omega, fun _ => ⟨R.1, ?_⟩⟩⟩, fun c => no fun q => c (by rw [q])⟩⟩⟩
  refine c_matches R R' (by omega) (by omega) (by omega) ?_
  by_cases q : k = k'
  · rw [if_pos q] at H
    rw [if_pos ⟨f2, by omega, by rw [f3, c3, f3', q]⟩]
    exact ⟨fun c => absurd c (by decide), fun _ => H⟩
  · rw [if_neg]
    · exact ⟨fun _ => no q, fun c => absurd rfl c⟩
    · rintro ⟨_, _, z⟩
      rw [f3, c3, f3'] at z
      exact q (Prod.ext c2 (Prod.ext c1 z))
def lastK (k : NK) : Int64 := match k.2.2.getLast? with
  | some y => Int32.toInt64 y.1
  | none => nth
theorem c_lastKey (N : ndO h a r w k e) (H : Q (.long (lastK k)) h) : jj_C mX3_lastKey 0 0 [.ref a] h Q := by
  have hl := N.len
  obtain ⟨n1, n2, n3, n4, n5, n6, n7, n8, l, f, R, f1, f2, f3, f4⟩ := N
  have hll := R.2.2.2.2.2.2.1
  refine EX3_lastKey _ fun d => ?_
  simp only [n1, n2, f1, n6, true_and, and_true, eq_self, forall_eq, forall_eq_apply_imp_iff]
  refine ⟨fun _ => ⟨R.1, ?_⟩, fun c => by omega⟩
  by_cases h0 : k.2.2.length = 0
  · rw [f4 h0, h0]
    have e0 : k.2.2 = [] := List.length_eq_zero_iff.mp h0
    unfold lastK at H
    rw [e0] at H
    exact c_keyAtN H
  · rw [nI_add, qs_1 (by omega)]
    refine c_keyAt R (by omega) ?_
    have eL : k.2.2.getLast? = l[f + k.2.2.length - 1]? := by
      rw [List.getLast?_eq_getElem?]
      have e2 : k.2.2[k.2.2.length - 1]? = ((l.drop f).take k.2.2.length)[k.2.2.length - 1]? := by rw [f3]
      rw [e2, List.getElem?_take, if_pos (by omega), List.getElem?_drop]
      congr 1
      omega
    unfold lastK at H
    rw [eL] at H
    unfold kAt
    exact H
end JN
/-! the class: tables with their nodes -/
def off (X : List (List Nd)) (lv : Nat) : Nat := (flat (X.take lv)).length
theorem off_0 (X : List (List Nd)) : off X 0 = 0 := by unfold off flat; simp
theorem off_succ {X : List (List Nd)} {lv : Nat} {ns : List Nd} (h : X[lv]? = some ns) : off X (lv + 1) = off X lv + ns.length := by
  unfold off flat
  rw [List.take_succ, h]
  simp
theorem off_all (X : List (List Nd)) : off X X.length = (flat X).length := by unfold off; rw [List.take_length]
theorem off_le (X : List (List Nd)) (lv : Nat) : off X lv ≤ (flat X).length := by
  unfold off flat
  conv => rhs; rw [← List.take_append_drop lv X]
  rw [List.flatten_append, List.length_append]
  omega
theorem flat_at {X : List (List Nd)} {lv i : Nat} {ns : List Nd} {nd : Nd} (h : X[lv]? = some ns) (hi : ns[i]? = some nd) : (flat X)[off X lv + i]? = some nd := by
  have hl := (List.getElem?_eq_some_iff.mp h).1
  have hil := (List.getElem?_eq_some_iff.mp hi).1
  have e : X = X.take lv ++ (ns :: X.drop (lv + 1)) := by
    conv => lhs; rw [← List.take_append_drop lv X]
    congr 1
    rw [List.drop_eq_getElem_cons hl]
    congr 1
    exact (List.getElem?_eq_some_iff.mp h).2
  unfold off
  conv => lhs; rw [e]
  unfold flat
  rw [List.flatten_append, List.getElem?_append_right (by rw [← e]; omega), ← e]
  rw [show (X.take lv).flatten.length + i - (X.take lv).flatten.length = i by omega, List.flatten_cons, List.getElem?_append_left hil]
  exact hi
/-- S: what is known of the nodes, their rows and what they are known by -/
def tbX (S : Nat → Nat → Nat → NK → Prop) (h : jj_H) (tb na st : Nat) (l : List Row) (X : List (List Nd)) : Prop := jK h tb = 8 ∧ jR h 351 tb 0 = na ∧ jR h 352 tb 0 = st ∧ jK h na = 25 ∧ jK h st = 21 ∧ X.length < jN h st ∧ jN h st ≤ 9 ∧ (flat X).length ≤ jN h na ∧ jN h na ≤ 202 ∧ jI h 353 tb 0 = nI X.length ∧ (∀ lv, lv ≤ X.length → jI h 1000 st lv = nI (off X lv)) ∧ ∀ i nd, (flat X)[i]? = some nd → ∃ r w, S (jR h 1000 na i) r w (nk l nd) ∧ ndO h (jR h 1000 na i) r w (nk l nd) nd.2.1
section JT
variable {S : Nat → Nat → Nat → NK → Prop} {tb na st : Nat} {l : List Row} {X : List (List Nd)} {h : jj_H} {Q : Value → jj_H → Prop}
theorem c_hasLevel {x : Int32} (R : tbX S h tb na st l X) (H1 : ∀ lv, lim X.length x = some lv → Q (.int 1) h) (H0 : lim X.length x = none → Q (.int 0) h) : jj_C mX7_hasLevel 0 0 [.ref tb, .int x] h Q := by
  obtain ⟨k1, r1, r2, k2, k3, n1, n2, n3, n4, c1, c2, c3⟩ := R
  refine EX7_hasLevel _ _ fun d => ?_
  simp only [k1, c1, true_and, and_true, eq_self, forall_eq, forall_eq_apply_imp_iff]
  exact ⟨fun c => H0 (lim_no1 c), fun c => ⟨fun c2 => H0 (lim_no2 c2), fun c2 => (lim_of (by omega) c c2).elim H1⟩⟩
theorem c_nodesOn {x : Int32} (R : tbX S h tb na st l X) (H1 : ∀ lv ns, lim X.length x = some lv → X[lv]? = some ns → Q (.int (nI ns.length)) h) (H0 : lim X.length x = none → Q (.int 0) h) : jj_C mX7_nodesOn 0 0 [.ref tb, .int x] h Q := by
  refine EX7_nodesOn _ _ fun d => ⟨R.1, c_hasLevel R (fun lv hlv => ?_) (fun hlv => ?_)⟩
  · obtain ⟨k1, r1, r2, k2, k3, n1, n2, n3, n4, c1, c2, c3⟩ := R
    refine ⟨fun c => absurd c (by decide), fun _ => ?_⟩
    obtain ⟨e, hx⟩ := lim_some (by omega) hlv
    obtain ⟨ns, hns⟩ : ∃ ns, X[lv]? = some ns := ⟨_, List.getElem?_eq_getElem hx⟩
    have o1 := c2 lv (by omega)
    have o2 := c2 (lv + 1) (by omega)
    have o3 := off_succ hns
    rw [e]
    simp (disch := omega) only [k1, r2, k3, qm_3, qm_4, qm_16, qm_600, qm_200, qm_8, qn_210, qn_3, qa_0, qb_0, qa_1, qb_1, qa_2, qb_2, qa_3, qb_3, qa_4, qb_4, qa_16, qb_16, qa_180, qb_180, qs_1, qs_2, qs_3, qs_4, qs_6, qs_24, nI_add, q_sub, q_pred, q_clamp, q_in, nI_leI, nI_ltI, nI_eq, ql_0, qL_0, qt_0, qT_0, qe_0, qc_0, qi_0, ql_1, qL_1, qt_1, qT_1, qe_1, qc_1, qi_1, ql_2, qL_2, qt_2, qT_2, qe_2, qc_2, qi_2, ql_3, qL_3, qt_3, qT_3, qe_3, qc_3, qi_3, ql_4, qL_4, qt_4, qT_4, qe_4, qc_4, qi_4, ql_6, qL_6, qt_6, qT_6, qe_6, qc_6, qi_6, ql_8, qL_8, qt_8, qT_8, qe_8, qc_8, qi_8, ql_10, qL_10, qt_10, qT_10, qe_10, qc_10, qi_10, ql_24, qL_24, qt_24, qT_24, qe_24, qc_24, qi_24, ql_60, qL_60, qt_60, qT_60, qe_60, qc_60, qi_60, ql_100, qL_100, qt_100, qT_100, qe_100, qc_100, qi_100, ql_200, qL_200, qt_200, qT_200, qe_200, qc_200, qi_200, ql_400, qL_400, qt_400, qT_400, qe_400, qc_400, qi_400, ql_600, qL_600, qt_600, qT_600, qe_600, qc_600, qi_600, ql_900, qL_900, qt_900, qT_900, qe_900, qc_900, qi_900, ql_1200, qL_1200, qt_1200, qT_1200, qe_1200, qc_1200, qi_1200, ql_65536, qL_65536, qt_65536, qT_65536, qe_65536, qc_65536, qi_65536, o1, o2, true_and, and_true, eq_self, forall_eq, forall_eq_apply_imp_iff]
    have := H1 lv ns hlv hns
    rw [o3, show off X lv + ns.length - off X lv = ns.length by omega]
    exact this
  · exact ⟨fun _ => H0 hlv, fun c => absurd rfl c⟩
theorem c_nodesInAll (R : tbX S h tb na st l X) (H : Q (.int (nI (flat X).length)) h) : jj_C mX7_nodesInAll 0 0 [.ref tb] h Q := by
  obtain ⟨k1, r1, r2, k2, k3, n1, n2, n3, n4, c1, c2, c3⟩ := R
  refine EX7_nodesInAll _ fun d => ?_
  have o1 := c2 _ (Nat.le_refl _)
  rw [off_all] at o1
  simp (disch := omega) only [k1, r2, k3, c1, q_clamp, q_in, nI_leI, nI_ltI, nI_eq, ql_0, qL_0, qt_0, qT_0, qe_0, qc_0, qi_0, ql_1, qL_1, qt_1, qT_1, qe_1, qc_1, qi_1, ql_2, qL_2, qt_2, qT_2, qe_2, qc_2, qi_2, ql_3, qL_3, qt_3, qT_3, qe_3, qc_3, qi_3, ql_4, qL_4, qt_4, qT_4, qe_4, qc_4, qi_4, ql_6, qL_6, qt_6, qT_6, qe_6, qc_6, qi_6, ql_8, qL_8, qt_8, qT_8, qe_8, qc_8, qi_8, ql_10, qL_10, qt_10, qT_10, qe_10, qc_10, qi_10, ql_24, qL_24, qt_24, qT_24, qe_24, qc_24, qi_24, ql_60, qL_60, qt_60, qT_60, qe_60, qc_60, qi_60, ql_100, qL_100, qt_100, qT_100, qe_100, qc_100, qi_100, ql_200, qL_200, qt_200, qT_200, qe_200, qc_200, qi_200, ql_400, qL_400, qt_400, qT_400, qe_400, qc_400, qi_400, ql_600, qL_600, qt_600, qT_600, qe_600, qc_600, qi_600, ql_900, qL_900, qt_900, qT_900, qe_900, qc_900, qi_900, ql_1200, qL_1200, qt_1200, qT_1200, qe_1200, qc_1200, qi_1200, ql_65536, qL_65536, qt_65536, qT_65536, qe_65536, qc_65536, qi_65536, o1, true_and, and_true, eq_self, forall_eq, forall_eq_apply_imp_iff]
  exact H
theorem c_nodeAt {x y : Int32} (R : tbX S h tb na st l X) (H1 : ∀ lv ns i nd, lim X.length x = some lv → X[lv]? = some ns → lim ns.length y = some i → ns[i]? = some nd → Q (.ref (jR h 1000 na (off X lv + i))) h) (H0 : (lim X.length x = none ∨ ∃ lv ns, lim X.length x = some lv ∧ X[lv]? = some ns ∧ lim ns.length y = none) ∨ y < 0 → Q (.ref 0) h) : jj_C mX7_nodeAt 0 0 [.ref tb, .int x, .int y] h Q := by
  refine EX7_nodeAt _ _ _ fun d => ⟨fun c => H0 (Or.inr c), fun cy => ⟨R.1, c_nodesOn R (fun lv ns hlv hns => ?_) (fun hlv => ?_)⟩⟩
  · refine ⟨fun c => H0 (Or.inl (Or.inr ⟨lv, ns, hlv, hns, lim_no2 c⟩)), fun c => ?_⟩
    obtain ⟨k1, r1, r2, k2, k3, n1, n2, n3, n4, c1, c2, c3⟩ := R
    have o3 := off_succ hns
    have o4 := off_le X (lv + 1)
    obtain ⟨i, hi⟩ := lim_of (by omega) cy c
    obtain ⟨e, hx⟩ := lim_some (by omega) hlv
    obtain ⟨e2, hx2⟩ := lim_some (by omega) hi
    obtain ⟨nd, hnd⟩ : ∃ nd, ns[i]? = some nd := ⟨_, List.getElem?_eq_getElem hx2⟩
    have o1 := c2 lv (by omega)
    have := H1 lv ns i nd hlv hns hi hnd
    rw [e, e2]
    simp (disch := omega) only [k1, r1, r2, k2, k3, qm_3, qm_4, qm_16, qm_600, qm_200, qm_8, qn_210, qn_3, qa_0, qb_0, qa_1, qb_1, qa_2, qb_2, qa_3, qb_3, qa_4, qb_4, qa_16, qb_16, qa_180, qb_180, qs_1, qs_2, qs_3, qs_4, qs_6, qs_24, nI_add, q_sub, q_pred, q_clamp, q_in, nI_leI, nI_ltI, nI_eq, ql_0, qL_0, qt_0, qT_0, qe_0, qc_0, qi_0, ql_1, qL_1, qt_1, qT_1, qe_1, qc_1, qi_1, ql_2, qL_2, qt_2, qT_2, qe_2, qc_2, qi_2, ql_3, qL_3, qt_3, qT_3, qe_3, qc_3, qi_3, ql_4, qL_4, qt_4, qT_4, qe_4, qc_4, qi_4, ql_6, qL_6, qt_6, qT_6, qe_6, qc_6, qi_6, ql_8, qL_8, qt_8, qT_8, qe_8, qc_8, qi_8, ql_10, qL_10, qt_10, qT_10, qe_10, qc_10, qi_10, ql_24, qL_24, qt_24, qT_24, qe_24, qc_24, qi_24, ql_60, qL_60, qt_60, qT_60, qe_60, qc_60, qi_60, ql_100, qL_100, qt_100, qT_100, qe_100, qc_100, qi_100, ql_200, qL_200, qt_200, qT_200, qe_200, qc_200, qi_200, ql_400, qL_400, qt_400, qT_400, qe_400, qc_400, qi_400, ql_600, qL_600, qt_600, qT_600, qe_600, qc_600, qi_600, ql_900, qL_900, qt_900, qT_900, qe_900, qc_900, qi_900, ql_1200, qL_1200, qt_1200, qT_1200, qe_1200, qc_1200, qi_1200, ql_65536, qL_65536, qt_65536, qT_65536, qe_65536, qc_65536, qi_65536, o1, true_and, and_true, eq_self, forall_eq, forall_eq_apply_imp_iff]
    exact this
  · refine ⟨fun _ => H0 (Or.inl (Or.inl hlv)), fun c => absurd (Int32.not_lt.mp cy) c⟩
theorem c_hasSame {a r w e : Nat} {k : NK} (R : tbX S h tb na st l X) (hX : ∀ (lv : Nat) (ns : List Nd), X[lv]? = some ns → ∀ nd ∈ ns, nd.1 = lv) (N : ndO h a r w k e) (H1 : (∃ nd ∈ flat X, nk l nd = k) → Q (.int 1) h) (H0 : (¬ ∃ nd ∈ flat X, nk l nd = k) → Q (.int 0) h) : jj_C mX7_hasSame 0 0 [.ref tb, .ref a] h Q := by
  refine EX7_hasSame _ _ fun d => ?_
  obtain ⟨k1, r1, r2, k2, k3, n1, n2, n3, n4, c1, c2, c3⟩ := id R
  have nk1 := N.1
  have nl := N.2.2.2.1
  have nl2 := N.2.2.2.2.1
  have away : ∀ nd ∈ flat X, nk l nd = k → ∃ ns, X[k.1]? = some ns ∧ nd ∈ ns := by
    intro nd hnd e
    obtain ⟨ns, h1, h2⟩ := List.mem_flatten.mp hnd
    obtain ⟨j, hj⟩ := List.getElem?_of_mem h1
    have := hX j ns hj nd h2
    have e1 : nd.1 = k.1 := congrArg (fun x : NK => x.1) e
    exact ⟨ns, by rw [← e1, this]; exact hj, h2⟩
  have fin : ∀ i, (∀ ns, X[k.1]? = some ns → ns.length ≤ i ∧ ∀ j nd, j < i → ns[j]? = some nd → nk l nd ≠ k) → Q (.int 0) h := by
    intro i hi
    refine H0 ?_
    rintro ⟨nd, h1, h2⟩
    obtain ⟨ns, h3, h4⟩ := away nd h1 h2
    obtain ⟨j, hj⟩ := List.getElem?_of_mem h4
    have hjl := (List.getElem?_eq_some_iff.mp hj).1
    exact (hi ns h3).2 j nd (by have := (hi ns h3).1; omega) hj h2
  have loop : ∀ q i, i + q = 203 → (∀ ns, X[k.1]? = some ns → ∀ j nd, j < i → ns[j]? = some nd → nk l nd ≠ k) → jj_WP d mX7_hasSame 0 0 2 [(0, .ref tb), (1, .ref a), (2, .int (nI i))] [] h Q := by
    intro q
    induction q with
    | zero =>
      intro i hq hi
      refine VX7_hasSame_2 _ _ _ ⟨nk1, k1, ?_⟩
      rw [nl]
      refine c_nodesOn R (fun lv ns hlv hns => ?_) (fun hlv => ?_)
      · obtain ⟨e, hx⟩ := lim_some (by omega) hlv
        have e2 : k.1 = lv := (nI_eq (by omega) (by omega)).mp e
        subst e2
        have o3 := off_succ hns
        have o4 := off_le X (k.1 + 1)
        refine ⟨fun _ => fin i fun ns' hns' => ?_, fun c => absurd ?_ c⟩
        · rw [hns] at hns'; cases hns'
          exact ⟨by omega, hi ns hns⟩
        · exact (nI_leI (by omega) (by omega)).mpr (by omega)
      · refine ⟨fun _ => fin i fun ns' hns' => ?_, fun c => absurd ?_ c⟩
        · have := (List.getElem?_eq_some_iff.mp hns').1
          rw [lim_nI (by omega) this] at hlv
          cases hlv
        · show (0 : Int32) ≤ nI i
          rw [qL_0 (by omega)]; exact Nat.zero_le _
    | succ q ih =>
      intro i hq hi
      refine VX7_hasSame_2 _ _ _ ⟨nk1, k1, ?_⟩
      rw [nl]
      refine c_nodesOn R (fun lv ns hlv hns => ?_) (fun hlv => ?_)
      · obtain ⟨e, hx⟩ := lim_some (by omega) hlv
        have e2 : k.1 = lv := (nI_eq (by omega) (by omega)).mp e
        subst e2
        have o3 := off_succ hns
        have o4 := off_le X (k.1 + 1)
        have o1 := c2 k.1 (by omega)
        simp only [jj_vi]
        rw [nI_leI (by omega) (by omega)]
        refine ⟨fun c => fin i fun ns' hns' => ?_, fun c => ?_⟩
        · rw [hns] at hns'; cases hns'
          exact ⟨c, hi ns hns⟩
        · obtain ⟨nd, hnd⟩ : ∃ nd, ns[i]? = some nd := ⟨_, List.getElem?_eq_getElem (by omega)⟩
          have hf := flat_at hns hnd
          obtain ⟨r', w', _, N'⟩ := c3 _ nd hf
          simp (disch := omega) only [k1, nk1, r1, r2, k2, k3, nl, qm_3, qm_4, qm_16, qm_600, qm_200, qm_8, qn_210, qn_3, qa_0, qb_0, qa_1, qb_1, qa_2, qb_2, qa_3, qb_3, qa_4, qb_4, qa_16, qb_16, qa_180, qb_180, qs_1, qs_2, qs_3, qs_4, qs_6, qs_24, nI_add, q_sub, q_pred, q_clamp, q_in, nI_leI, nI_ltI, nI_eq, ql_0, qL_0, qt_0, qT_0, qe_0, qc_0, qi_0, ql_1, qL_1, qt_1, qT_1, qe_1, qc_1, qi_1, ql_2, qL_2, qt_2, qT_2, qe_2, qc_2, qi_2, ql_3, qL_3, qt_3, qT_3, qe_3, qc_3, qi_3, ql_4, qL_4, qt_4, qT_4, qe_4, qc_4, qi_4, ql_6, qL_6, qt_6, qT_6, qe_6, qc_6, qi_6, ql_8, qL_8, qt_8, qT_8, qe_8, qc_8, qi_8, ql_10, qL_10, qt_10, qT_10, qe_10, qc_10, qi_10, ql_24, qL_24, qt_24, qT_24, qe_24, qc_24, qi_24, ql_60, qL_60, qt_60, qT_60, qe_60, qc_60, qi_60, ql_100, qL_100, qt_100, qT_100, qe_100, qc_100, qi_100, ql_200, qL_200, qt_200, qT_200, qe_200, qc_200, qi_200, ql_400, qL_400, qt_400, qT_400, qe_400, qc_400, qi_400, ql_600, qL_600, qt_600, qT_600, qe_600, qc_600, qi_600, ql_900, qL_900, qt_900, qT_900, qe_900, qc_900, qi_900, ql_1200, qL_1200, qt_1200, qT_1200, qe_1200, qc_1200, qi_1200, ql_65536, qL_65536, qt_65536, qT_65536, qe_65536, qc_65536, qi_65536, o1, true_and, and_true, eq_self, forall_eq, forall_eq_apply_imp_iff]
          refine ⟨N'.1, c_nodeSame N' N ?_⟩
          by_cases z : nk l nd = k
          · rw [if_pos z]
            exact ⟨fun c => absurd c (by decide), fun _ => H1 ⟨nd, List.mem_of_getElem? hf, z⟩⟩
          · rw [if_neg z]
            refine ⟨fun _ => ih (i + 1) (by omega) fun ns' hns' j nd' hj hnd' => ?_, fun c => absurd rfl c⟩
            by_cases e : j = i
            · subst e
              rw [hns] at hns'; cases hns'
              rw [hnd] at hnd'; cases hnd'
              exact z
            · exact hi ns' hns' j nd' (by omega) hnd'
      · refine ⟨fun _ => fin i fun ns' hns' => ?_, fun c => absurd ?_ c⟩
        · have := (List.getElem?_eq_some_iff.mp hns').1
          rw [lim_nI (by omega) this] at hlv
          cases hlv
        · show (0 : Int32) ≤ nI i
          rw [qL_0 (by omega)]; exact Nat.zero_le _
  exact loop 203 0 (by omega) fun ns hns j nd hj => by omega
end JT
