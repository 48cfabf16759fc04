/-! the class: rows -/
theorem rk_iff {l : List Row} (hs : Srt l) {k : Int32} {j : Nat} {x : Row} (hx : l[j]? = some x) : x.1 < k ↔ j < rk l k := by
  constructor
  · intro h
    rcases Nat.lt_or_ge j (rk l k) with q | q
    · exact q
    · have hjl := (List.getElem?_eq_some_iff.mp hx).1
      obtain ⟨y, hy⟩ : ∃ y, l[rk l k]? = some y := ⟨_, List.getElem?_eq_getElem (by omega)⟩
      have hn := rk_at l k y hy
      by_cases e : j = rk l k
      · rw [e, hy] at hx; cases hx; exact absurd h hn
      · exact absurd (Int32.lt_trans (hs _ _ _ _ (by omega) hy hx) h) hn
  · intro h
    exact rk_lt l k j x h hx
/-- the Rows at r, with its words at w, hold these rows -/
def rwO (h : jj_H) (r w : Nat) (l : List Row) : Prop := jK h r = 7 ∧ jR h 300 r 0 = w ∧ jK h w = 21 ∧ 4 * l.length ≤ jN h w ∧ jN h w ≤ 800 ∧ jI h 301 r 0 = nI l.length ∧ l.length ≤ 200 ∧ ∀ i x c, l[i]? = some x → c < 4 → jI h 1000 w (4 * i + c) = wd x c
def kAt (l : List Row) (i : Nat) : Int64 := match l[i]? with
  | some x => Int32.toInt64 x.1
  | none => nth
/-- only the rows of one Rows have changed -/
def wFr (h h' : jj_H) (r w : Nat) : Prop := h'.2 = h.2 ∧ ∀ tg a i, ¬ (tg = 1000 ∧ a = w) → ¬ (tg = 301 ∧ a = r) → jI h' tg a i = jI h tg a i
theorem wFr.rf {h : jj_H} {r w : Nat} : wFr h h r w := ⟨rfl, fun _ _ _ _ _ => rfl⟩
theorem wFr.trans {h h1 h2 : jj_H} {r w : Nat} (a : wFr h h1 r w) (b : wFr h1 h2 r w) : wFr h h2 r w := ⟨b.1.trans a.1, fun tg x i p q => (b.2 tg x i p q).trans (a.2 tg x i p q)⟩
theorem wFr.w {h : jj_H} {r w i : Nat} {v : Int32} : wFr h (wI h 1000 w i v) r w := ⟨rfl, fun tg a j p q => by rw [jI_wI, if_neg (fun z => p ⟨z.1, z.2.1⟩)]⟩
theorem wFr.n {h : jj_H} {r w : Nat} {v : Int32} : wFr h (wI h 301 r 0 v) r w := ⟨rfl, fun tg a j p q => by rw [jI_wI, if_neg (fun z => q ⟨z.1, z.2.1⟩)]⟩
theorem wFr.c {h : jj_H} {r w a sp dp n : Nat} : wFr h (wC h a sp w dp n) r w := ⟨rfl, fun tg b j p q => by rw [jI_wC, if_neg p]⟩
section JR
variable {r w : Nat} {l : List Row} {h : jj_H} {Q : Value → jj_H → Prop}
theorem c_keyAt {i : Nat} (R : rwO h r w l) (hi : i < 100000) (H : Q (.long (kAt l i)) h) : jj_C mX6_keyAt 0 0 [.ref r, .int (nI i)] h Q := by
  obtain ⟨k1, rw_, k2, n1, n2, c1, l1, ws⟩ := R
  refine EX6_keyAt _ _ fun d => ?_
  simp (disch := omega) only [k1, rw_, k2, c1, qm_3, qm_4, qm_16, qm_600, qm_200, qm_8, qn_210, qn_3, qa_0, qb_0, qa_1, qb_1, qa_2, qb_2, qa_3, qb_3, qa_4, qb_4, qa_16, qb_16, qa_180, qb_180, qs_1, qs_2, qs_3, qs_4, qs_6, qs_24, nI_add, q_sub, q_pred, q_clamp, q_in, nI_leI, nI_ltI, nI_eq, ql_0, qL_0, qt_0, qT_0, qe_0, qc_0, qi_0, ql_1, qL_1, qt_1, qT_1, qe_1, qc_1, qi_1, ql_2, qL_2, qt_2, qT_2, qe_2, qc_2, qi_2, ql_3, qL_3, qt_3, qT_3, qe_3, qc_3, qi_3, ql_4, qL_4, qt_4, qT_4, qe_4, qc_4, qi_4, ql_6, qL_6, qt_6, qT_6, qe_6, qc_6, qi_6, ql_8, qL_8, qt_8, qT_8, qe_8, qc_8, qi_8, ql_10, qL_10, qt_10, qT_10, qe_10, qc_10, qi_10, ql_24, qL_24, qt_24, qT_24, qe_24, qc_24, qi_24, ql_60, qL_60, qt_60, qT_60, qe_60, qc_60, qi_60, ql_100, qL_100, qt_100, qT_100, qe_100, qc_100, qi_100, ql_200, qL_200, qt_200, qT_200, qe_200, qc_200, qi_200, ql_400, qL_400, qt_400, qT_400, qe_400, qc_400, qi_400, ql_600, qL_600, qt_600, qT_600, qe_600, qc_600, qi_600, ql_900, qL_900, qt_900, qT_900, qe_900, qc_900, qi_900, ql_1200, qL_1200, qt_1200, qT_1200, qe_1200, qc_1200, qi_1200, ql_65536, qL_65536, qt_65536, qT_65536, qe_65536, qc_65536, qi_65536, true_and, and_true, eq_self, forall_eq, forall_eq_apply_imp_iff]
  refine ⟨fun c => absurd c (Nat.not_lt_zero _), fun _ => ⟨fun c => ?_, fun c => ?_⟩⟩
  · unfold kAt at H; rw [List.getElem?_eq_none (by omega)] at H; exact H
  · obtain ⟨x, hx⟩ : ∃ x, l[i]? = some x := ⟨_, List.getElem?_eq_getElem (by omega)⟩
    have v : jI h 1000 w (4 * i) = x.1 := ws i x 0 hx (by omega)
    unfold kAt at H
    rw [hx] at H
    simp (disch := omega) only [q_clamp, q_in, nI_leI, nI_ltI, nI_eq, ql_0, qL_0, qt_0, qT_0, qe_0, qc_0, qi_0, ql_1, qL_1, qt_1, qT_1, qe_1, qc_1, qi_1, ql_2, qL_2, qt_2, qT_2, qe_2, qc_2, qi_2, ql_3, qL_3, qt_3, qT_3, qe_3, qc_3, qi_3, ql_4, qL_4, qt_4, qT_4, qe_4, qc_4, qi_4, ql_6, qL_6, qt_6, qT_6, qe_6, qc_6, qi_6, ql_8, qL_8, qt_8, qT_8, qe_8, qc_8, qi_8, ql_10, qL_10, qt_10, qT_10, qe_10, qc_10, qi_10, ql_24, qL_24, qt_24, qT_24, qe_24, qc_24, qi_24, ql_60, qL_60, qt_60, qT_60, qe_60, qc_60, qi_60, ql_100, qL_100, qt_100, qT_100, qe_100, qc_100, qi_100, ql_200, qL_200, qt_200, qT_200, qe_200, qc_200, qi_200, ql_400, qL_400, qt_400, qT_400, qe_400, qc_400, qi_400, ql_600, qL_600, qt_600, qT_600, qe_600, qc_600, qi_600, ql_900, qL_900, qt_900, qT_900, qe_900, qc_900, qi_900, ql_1200, qL_1200, qt_1200, qT_1200, qe_1200, qc_1200, qi_1200, ql_65536, qL_65536, qt_65536, qT_65536, qe_65536, qc_65536, qi_65536, v, true_and, and_true, eq_self, forall_eq, forall_eq_apply_imp_iff]
    exact H
theorem c_keyAtN (H : Q (.long nth) h) : jj_C mX6_keyAt 0 0 [.ref r, .int (-1)] h Q := EX6_keyAt _ _ fun d => ⟨fun _ => H, fun c => absurd (by decide) c⟩
theorem c_placeOf {k : Int32} (R : rwO h r w l) (hs : Srt l) (H : Q (.int (nI (rk l k))) h) : jj_C mX6_placeOf 0 0 [.ref r, .int k] h Q := by
  obtain ⟨k1, rw_, k2, n1, n2, c1, l1, ws⟩ := R
  refine EX6_placeOf _ _ fun d => ?_
  have hle := rk_le l k
  have loop : ∀ e p, e ≤ 8 → p ≤ rk l k → rk l k < p + 2 ^ e → jj_WP d mX6_placeOf 0 0 6 [(0, .ref r), (1, .int k), (2, .int (nI p)), (3, .int (if e = 0 then 0 else nI (2 ^ (e - 1))))] [] h Q := by
    intro e
    induction e with
    | zero =>
      intro p he h1 h2
      refine VX6_placeOf_6 _ _ _ _ ⟨fun _ => ?_, fun c => absurd (by decide) c⟩
      rw [show p = rk l k by omega]
      exact H
    | succ e ih =>
      intro p he h1 h2
      have sh : ∀ e, e < 8 → (nI (2 ^ e)) >>> (1 &&& 31) = (if e = 0 then 0 else nI (2 ^ (e - 1))) := by decide
      have hpw : 2 ^ e ≤ 128 := Nat.pow_le_pow_right (by omega) (show e ≤ 7 by omega)
      have hpos : 0 < 2 ^ e := Nat.two_pow_pos e
      have h2' : rk l k < p + 2 * 2 ^ e := by rw [Nat.pow_succ] at h2; omega
      rw [if_neg (by omega), show e + 1 - 1 = e by omega]
      refine VX6_placeOf_6 _ _ _ _ ?_
      rw [sh e (by omega)]
      generalize 2 ^ e = q at *
      simp (disch := omega) only [k1, rw_, k2, c1, qm_3, qm_4, qm_16, qm_600, qm_200, qm_8, qn_210, qn_3, qa_0, qb_0, qa_1, qb_1, qa_2, qb_2, qa_3, qb_3, qa_4, qb_4, qa_16, qb_16, qa_180, qb_180, qs_1, qs_2, qs_3, qs_4, qs_6, qs_24, nI_add, q_sub, q_pred, q_clamp, q_in, nI_leI, nI_ltI, nI_eq, ql_0, qL_0, qt_0, qT_0, qe_0, qc_0, qi_0, ql_1, qL_1, qt_1, qT_1, qe_1, qc_1, qi_1, ql_2, qL_2, qt_2, qT_2, qe_2, qc_2, qi_2, ql_3, qL_3, qt_3, qT_3, qe_3, qc_3, qi_3, ql_4, qL_4, qt_4, qT_4, qe_4, qc_4, qi_4, ql_6, qL_6, qt_6, qT_6, qe_6, qc_6, qi_6, ql_8, qL_8, qt_8, qT_8, qe_8, qc_8, qi_8, ql_10, qL_10, qt_10, qT_10, qe_10, qc_10, qi_10, ql_24, qL_24, qt_24, qT_24, qe_24, qc_24, qi_24, ql_60, qL_60, qt_60, qT_60, qe_60, qc_60, qi_60, ql_100, qL_100, qt_100, qT_100, qe_100, qc_100, qi_100, ql_200, qL_200, qt_200, qT_200, qe_200, qc_200, qi_200, ql_400, qL_400, qt_400, qT_400, qe_400, qc_400, qi_400, ql_600, qL_600, qt_600, qT_600, qe_600, qc_600, qi_600, ql_900, qL_900, qt_900, qT_900, qe_900, qc_900, qi_900, ql_1200, qL_1200, qt_1200, qT_1200, qe_1200, qc_1200, qi_1200, ql_65536, qL_65536, qt_65536, qT_65536, qe_65536, qc_65536, qi_65536, true_and, and_true, eq_self, forall_eq, forall_eq_apply_imp_iff]
      refine ⟨fun c => by omega, fun _ => ⟨fun c => ih p (by omega) h1 (by omega), fun c => ?_⟩⟩
      obtain ⟨x, hx⟩ : ∃ x, l[p + q - 1]? = some x := ⟨_, List.getElem?_eq_getElem (by omega)⟩
      have v : jI h 1000 w (4 * (p + q - 1)) = x.1 := ws _ x 0 hx (by omega)
      have hi := rk_iff hs (k := k) hx
      simp (disch := omega) only [q_clamp, q_in, nI_leI, nI_ltI, nI_eq, ql_0, qL_0, qt_0, qT_0, qe_0, qc_0, qi_0, ql_1, qL_1, qt_1, qT_1, qe_1, qc_1, qi_1, ql_2, qL_2, qt_2, qT_2, qe_2, qc_2, qi_2, ql_3, qL_3, qt_3, qT_3, qe_3, qc_3, qi_3, ql_4, qL_4, qt_4, qT_4, qe_4, qc_4, qi_4, ql_6, qL_6, qt_6, qT_6, qe_6, qc_6, qi_6, ql_8, qL_8, qt_8, qT_8, qe_8, qc_8, qi_8, ql_10, qL_10, qt_10, qT_10, qe_10, qc_10, qi_10, ql_24, qL_24, qt_24, qT_24, qe_24, qc_24, qi_24, ql_60, qL_60, qt_60, qT_60, qe_60, qc_60, qi_60, ql_100, qL_100, qt_100, qT_100, qe_100, qc_100, qi_100, ql_200, qL_200, qt_200, qT_200, qe_200, qc_200, qi_200, ql_400, qL_400, qt_400, qT_400, qe_400, qc_400, qi_400, ql_600, qL_600, qt_600, qT_600, qe_600, qc_600, qi_600, ql_900, qL_900, qt_900, qT_900, qe_900, qc_900, qi_900, ql_1200, qL_1200, qt_1200, qT_1200, qe_1200, qc_1200, qi_1200, ql_65536, qL_65536, qt_65536, qT_65536, qe_65536, qc_65536, qi_65536, v, true_and, and_true, eq_self, forall_eq, forall_eq_apply_imp_iff]
      refine ⟨fun c2 => ih p (by omega) h1 ?_, fun c2 => ih (p + q) (by omega) ?_ (by omega)⟩
      · have : ¬ (p + q - 1 < rk l k) := fun z => Int32.not_lt.mpr c2 (hi.mpr z)
        omega
      · have := hi.mp (Int32.not_le.mp c2)
        omega
  exact loop 8 0 (by omega) (by omega) (by show rk l k < 0 + 256; omega)
theorem c_find {k : Int32} (R : rwO h r w l) (hs : Srt l) (H1 : ∀ x, lk l k = some x → Q (.int (nI (rk l k))) h) (H0 : lk l k = none → Q (.int (-1)) h) : jj_C mX6_find 0 0 [.ref r, .int k] h Q := by
  have hle := rk_le l k
  have hl := R.2.2.2.2.2.2.1
  refine EX6_find _ _ fun d => ⟨R.1, c_placeOf R hs ⟨R.1, c_keyAt R (by omega) ?_⟩⟩
  unfold kAt
  cases e : l[rk l k]? with
  | none => exact ⟨fun _ => H0 (lk_no fun r hr => by rw [e] at hr; cases hr), fun c => by have := lt_nth k; have c' : nth = Int32.toInt64 k := c; rw [← c'] at this; exact absurd this (i64_lt_irrefl _)⟩
  | some x =>
    refine ⟨fun c => H0 (lk_no fun r hr => ?_), fun c => H1 x (lk_of e ?_)⟩
    · rw [e] at hr; cases hr
      intro q
      exact c (by show Int32.toInt64 x.1 = _; rw [q])
    · have c' : Int32.toInt64 x.1 = Int32.toInt64 k := c
      have := congrArg Int64.toInt32 c'
      rw [Int32.toInt32_toInt64, Int32.toInt32_toInt64] at this
      exact this
theorem c_isColumn {x : Int32} (H1 : ∀ j, lim 3 x = some j → Q (.int 1) h) (H0 : lim 3 x = none → Q (.int 0) h) : jj_C mX9_isColumn 0 0 [.int x] h Q :=
  EX9_isColumn _ fun d => ⟨fun c => H0 (lim_no1 c), fun c => ⟨fun c2 => H0 (lim_no2 c2), fun c2 => (lim_of (by decide) c c2).elim H1⟩⟩
theorem c_columnOf {k x : Int32} (R : rwO h r w l) (hs : Srt l) (H : Q (.long (match lim 3 x with | some j => (match lk l k with | some y => Int32.toInt64 (colOf y j) | none => nth) | none => nth)) h) : jj_C mX6_columnOf 0 0 [.ref r, .int k, .int x] h Q := by
  have hle := rk_le l k
  have hl := R.2.2.2.2.2.2.1
  refine EX6_columnOf _ _ _ fun d => ⟨R.1, c_find R hs (fun y hy => ?_) (fun hy => ?_)⟩
  · obtain ⟨k1, rw_, k2, n1, n2, c1, l1, ws⟩ := R
    obtain ⟨y1, y2⟩ := lk_some hy
    have hlt := (List.getElem?_eq_some_iff.mp y1).1
    refine ⟨fun c => absurd c (nI_m1 (by omega)), fun _ => c_isColumn (fun j hj => ?_) (fun hj => ?_)⟩
    · obtain ⟨e, hj3⟩ := lim_some (by decide) hj
      rw [hj, hy] at H
      simp only at H
      rw [e]
      refine ⟨fun _ => ?_, fun c => absurd c (by decide)⟩
      have v : jI h 1000 w (4 * rk l k + 1 + j) = colOf y j := by rw [Nat.add_assoc, ws _ y (1 + j) y1 (by omega)]; unfold colOf; rw [Nat.add_comm]
      simp (disch := omega) only [k1, rw_, k2, qm_3, qm_4, qm_16, qm_600, qm_200, qm_8, qn_210, qn_3, qa_0, qb_0, qa_1, qb_1, qa_2, qb_2, qa_3, qb_3, qa_4, qb_4, qa_16, qb_16, qa_180, qb_180, qs_1, qs_2, qs_3, qs_4, qs_6, qs_24, nI_add, q_sub, q_pred, q_clamp, q_in, nI_leI, nI_ltI, nI_eq, ql_0, qL_0, qt_0, qT_0, qe_0, qc_0, qi_0, ql_1, qL_1, qt_1, qT_1, qe_1, qc_1, qi_1, ql_2, qL_2, qt_2, qT_2, qe_2, qc_2, qi_2, ql_3, qL_3, qt_3, qT_3, qe_3, qc_3, qi_3, ql_4, qL_4, qt_4, qT_4, qe_4, qc_4, qi_4, ql_6, qL_6, qt_6, qT_6, qe_6, qc_6, qi_6, ql_8, qL_8, qt_8, qT_8, qe_8, qc_8, qi_8, ql_10, qL_10, qt_10, qT_10, qe_10, qc_10, qi_10, ql_24, qL_24, qt_24, qT_24, qe_24, qc_24, qi_24, ql_60, qL_60, qt_60, qT_60, qe_60, qc_60, qi_60, ql_100, qL_100, qt_100, qT_100, qe_100, qc_100, qi_100, ql_200, qL_200, qt_200, qT_200, qe_200, qc_200, qi_200, ql_400, qL_400, qt_400, qT_400, qe_400, qc_400, qi_400, ql_600, qL_600, qt_600, qT_600, qe_600, qc_600, qi_600, ql_900, qL_900, qt_900, qT_900, qe_900, qc_900, qi_900, ql_1200, qL_1200, qt_1200, qT_1200, qe_1200, qc_1200, qi_1200, ql_65536, qL_65536, qt_65536, qT_65536, qe_65536, qc_65536, qi_65536, v, true_and, and_true, eq_self, forall_eq, forall_eq_apply_imp_iff]
      exact H
    · rw [hj] at H
      exact ⟨fun c => absurd rfl c, fun _ => H⟩
  · refine ⟨fun _ => ?_, fun c => absurd rfl c⟩
    rw [hy] at H
    cases hj : lim 3 x with
    | none => rw [hj] at H; exact H
    | some j => rw [hj] at H; exact H
/-- one row written over -/
theorem c_words {i : Nat} {x : Row} (hN : jN h w = 800) (R : rwO h r w l) (hi : i < l.length) (k : Int32) (c0 c1 c2 : Int32) (hx : x = (k, c0, c1, c2)) : rwO (wI (wI (wI (wI h 1000 w (4 * i) k) 1000 w (4 * i + 1) c0) 1000 w (4 * i + 2) c1) 1000 w (4 * i + 3) c2) r w (l.set i x) := by
  obtain ⟨k1, rw_, k2, n1, n2, cc, l1, ws⟩ := R
  refine ⟨k1, rw_, k2, by rw [List.length_set]; exact n1, n2, ?_, by rw [List.length_set]; exact l1, fun j y c hy hc => ?_⟩
  · rw [jI_wI, if_neg (by omega), jI_wI, if_neg (by omega), jI_wI, if_neg (by omega), jI_wI, if_neg (by omega), List.length_set]; exact cc
  · rw [List.getElem?_set] at hy
    by_cases e : i = j
    · rw [if_pos e, if_pos hi] at hy
      cases hy
      subst e
      rw [hx]
      rcases (show c = 0 ∨ c = 1 ∨ c = 2 ∨ c = 3 by omega) with q | q | q | q <;> subst q
      · rw [jI_wI, if_neg (by omega), jI_wI, if_neg (by omega), jI_wI, if_neg (by omega), jI_wI, if_pos ⟨rfl, rfl, rfl⟩]; rfl
      · rw [jI_wI, if_neg (by omega), jI_wI, if_neg (by omega), jI_wI, if_pos ⟨rfl, rfl, rfl⟩]; rfl
      · rw [jI_wI, if_neg (by omega), jI_wI, if_pos ⟨rfl, rfl, rfl⟩]; rfl
      · rw [jI_wI, if_pos ⟨rfl, rfl, rfl⟩]; rfl
    · rw [if_neg e] at hy
      rw [jI_wI, if_neg (by omega), jI_wI, if_neg (by omega), jI_wI, if_neg (by omega), jI_wI, if_neg (by omega)]
      exact ws j y c hy hc
/-- a gap made -/
theorem c_gap {p : Nat} {x : Row} {h3 : jj_H} (hN : jN h w = 800) (R : rwO h r w l) (hp : p ≤ l.length) (hl : l.length < 200) (e3 : h3 = wI (wC h w (4 * p) w (4 * p + 4) (4 * (l.length - p))) 301 r 0 (nI (l.length + 1))) (k : Int32) (c0 c1 c2 : Int32) (hx : x = (k, c0, c1, c2)) : rwO (wI (wI (wI (wI h3 1000 w (4 * p) k) 1000 w (4 * p + 1) c0) 1000 w (4 * p + 2) c1) 1000 w (4 * p + 3) c2) r w (l.take p ++ x :: l.drop p) := by
  obtain ⟨k1, rw_, k2, n1, n2, cc, l1, ws⟩ := R
  have hlen : (l.take p ++ x :: l.drop p).length = l.length + 1 := by simp; omega
  subst e3
  refine ⟨k1, rw_, k2, by rw [hlen]; show 4 * (l.length + 1) ≤ jN h w; omega, n2, ?_, by omega, fun j y c hy hc => ?_⟩
  · rw [jI_wI, if_neg (by omega), jI_wI, if_neg (by omega), jI_wI, if_neg (by omega), jI_wI, if_neg (by omega), jI_wI, if_pos ⟨rfl, rfl, rfl⟩, hlen]
  · have base : ∀ i, jI (wI (wC h w (4 * p) w (4 * p + 4) (4 * (l.length - p))) 301 r 0 (nI (l.length + 1))) 1000 w i = va_cpy (jI h 1000 w) (jI h 1000 w) (4 * p) (4 * p + 4) (4 * (l.length - p)) i := fun i => by rw [jI_wI, if_neg (by omega), jI_wC, if_pos ⟨rfl, rfl⟩]
    rcases Nat.lt_trichotomy j p with q | q | q
    · have hy' : l[j]? = some y := by
        rw [List.getElem?_append_left (by rw [List.length_take]; omega), List.getElem?_take, if_pos q] at hy
        exact hy
      rw [jI_wI, if_neg (by omega), jI_wI, if_neg (by omega), jI_wI, if_neg (by omega), jI_wI, if_neg (by omega), base, pk_cpy_out (by omega)]
      exact ws j y c hy' hc
    · subst q
      have hy' : x = y := by
        rw [List.getElem?_append_right (by rw [List.length_take]; omega), List.length_take, Nat.min_eq_left hp, Nat.sub_self] at hy
        simpa using hy
      rw [← hy', hx]
      rcases (show c = 0 ∨ c = 1 ∨ c = 2 ∨ c = 3 by omega) with q | q | q | q <;> subst q
      · rw [jI_wI, if_neg (by omega), jI_wI, if_neg (by omega), jI_wI, if_neg (by omega), jI_wI, if_pos ⟨rfl, rfl, rfl⟩]; rfl
      · rw [jI_wI, if_neg (by omega), jI_wI, if_neg (by omega), jI_wI, if_pos ⟨rfl, rfl, rfl⟩]; rfl
      · rw [jI_wI, if_neg (by omega), jI_wI, if_pos ⟨rfl, rfl, rfl⟩]; rfl
      · rw [jI_wI, if_pos ⟨rfl, rfl, rfl⟩]; rfl
    · have hy' : l[j - 1]? = some y := by
        rw [List.getElem?_append_right (by rw [List.length_take]; omega), List.length_take, Nat.min_eq_left hp, show j - p = (j - 1 - p) + 1 by omega, List.getElem?_cons_succ, List.getElem?_drop, show p + (j - 1 - p) = j - 1 by omega] at hy
        exact hy
      have hjl := (List.getElem?_eq_some_iff.mp hy').1
      rw [jI_wI, if_neg (by omega), jI_wI, if_neg (by omega), jI_wI, if_neg (by omega), jI_wI, if_neg (by omega), base, pk_cpy_in (by omega) (by omega), show 4 * p + (4 * j + c - (4 * p + 4)) = 4 * (j - 1) + c by omega]
      exact ws (j - 1) y c hy' hc
theorem c_setRow {k c0 c1 c2 : Int32} (hN : jN h w = 800) (R : rwO h r w l) (hs : Srt l) (H1 : ∀ h', ¬ (l.length = 200 ∧ (lk l k).isNone = true) → rwO h' r w (insT l (k, c0, c1, c2)) → wFr h h' r w → Q (.int (if (lk l k).isSome then 0 else 1)) h') (H0 : l.length = 200 ∧ (lk l k).isNone = true → Q (.int (-2)) h) : jj_C mX6_setRow 0 0 [.ref r, .int k, .int c0, .int c1, .int c2] h Q := by
  have hle := rk_le l k
  have hl := R.2.2.2.2.2.2.1
  obtain ⟨k1, rw_, k2, n1, n2, cc, l1, ws⟩ := id R
  refine EX6_setRow _ _ _ _ _ fun d => ⟨R.1, c_placeOf R hs ⟨R.1, c_keyAt R (by omega) ?_⟩⟩
  have hne : ∀ x : Int64, x = nth → ¬ x = Int32.toInt64 k := fun x e q => by have := lt_nth k; rw [← q, e] at this; exact absurd this (i64_lt_irrefl _)
  have key : ∀ x : Row, Int32.toInt64 x.1 = Int32.toInt64 k ↔ x.1 = k := fun x => ⟨fun q => by
    have := congrArg Int64.toInt32 q
    rw [Int32.toInt32_toInt64, Int32.toInt32_toInt64] at this
    exact this, fun q => by rw [q]⟩
  have yes : ∀ x, lk l k = some x → jj_WP d mX6_setRow 0 0 43 [(0, .ref r), (1, .int k), (2, .int c0), (3, .int c1), (4, .int c2), (5, .int (nI (rk l k))), (6, .int 0)] [] h Q := by
    intro x hx
    have hlt := (List.getElem?_eq_some_iff.mp (lk_some hx).1).1
    refine VX6_setRow_43 _ _ _ _ _ _ _ ?_
    simp (disch := omega) only [k1, rw_, k2, hN, qm_3, qm_4, qm_16, qm_600, qm_200, qm_8, qn_210, qn_3, qa_0, qb_0, qa_1, qb_1, qa_2, qb_2, qa_3, qb_3, qa_4, qb_4, qa_16, qb_16, qa_180, qb_180, qs_1, qs_2, qs_3, qs_4, qs_6, qs_24, nI_add, q_sub, q_pred, q_clamp, q_in, nI_leI, nI_ltI, nI_eq, ql_0, qL_0, qt_0, qT_0, qe_0, qc_0, qi_0, ql_1, qL_1, qt_1, qT_1, qe_1, qc_1, qi_1, ql_2, qL_2, qt_2, qT_2, qe_2, qc_2, qi_2, ql_3, qL_3, qt_3, qT_3, qe_3, qc_3, qi_3, ql_4, qL_4, qt_4, qT_4, qe_4, qc_4, qi_4, ql_6, qL_6, qt_6, qT_6, qe_6, qc_6, qi_6, ql_8, qL_8, qt_8, qT_8, qe_8, qc_8, qi_8, ql_10, qL_10, qt_10, qT_10, qe_10, qc_10, qi_10, ql_24, qL_24, qt_24, qT_24, qe_24, qc_24, qi_24, ql_60, qL_60, qt_60, qT_60, qe_60, qc_60, qi_60, ql_100, qL_100, qt_100, qT_100, qe_100, qc_100, qi_100, ql_200, qL_200, qt_200, qT_200, qe_200, qc_200, qi_200, ql_400, qL_400, qt_400, qT_400, qe_400, qc_400, qi_400, ql_600, qL_600, qt_600, qT_600, qe_600, qc_600, qi_600, ql_900, qL_900, qt_900, qT_900, qe_900, qc_900, qi_900, ql_1200, qL_1200, qt_1200, qT_1200, qe_1200, qc_1200, qi_1200, ql_65536, qL_65536, qt_65536, qT_65536, qe_65536, qc_65536, qi_65536, true_and, and_true, eq_self, forall_eq, forall_eq_apply_imp_iff, jR_wI]
    refine ⟨fun _ => ?_, fun c => absurd trivial c⟩
    have := H1 _ (by rw [hx]; simp) (by rw [insT_set l (k, c0, c1, c2) hx]; exact c_words hN R hlt k c0 c1 c2 rfl) (((wFr.w.trans wFr.w).trans wFr.w).trans wFr.w)
    rw [hx] at this
    exact this
  have no : lk l k = none → jj_C mX6_makeRoom 0 0 [.ref r, .int (nI (rk l k))] h (fun v13 h12 => jj_vi (fun y14 => (¬ y14 = 0 → jj_WP d mX6_setRow 0 0 43 [(0, .ref r), (1, .int k), (2, .int c0), (3, .int c1), (4, .int c2), (5, .int (nI (rk l k))), (6, .int 1)] [] h12 Q) ∧ (y14 = 0 → Q (.int (-2)) h12)) v13) := by
    intro hx
    refine EX6_makeRoom _ _ fun d2 => ?_
    simp (disch := omega) only [k1, rw_, k2, hN, cc, qm_3, qm_4, qm_16, qm_600, qm_200, qm_8, qn_210, qn_3, qa_0, qb_0, qa_1, qb_1, qa_2, qb_2, qa_3, qb_3, qa_4, qb_4, qa_16, qb_16, qa_180, qb_180, qs_1, qs_2, qs_3, qs_4, qs_6, qs_24, nI_add, q_sub, q_pred, q_clamp, q_in, nI_leI, nI_ltI, nI_eq, ql_0, qL_0, qt_0, qT_0, qe_0, qc_0, qi_0, ql_1, qL_1, qt_1, qT_1, qe_1, qc_1, qi_1, ql_2, qL_2, qt_2, qT_2, qe_2, qc_2, qi_2, ql_3, qL_3, qt_3, qT_3, qe_3, qc_3, qi_3, ql_4, qL_4, qt_4, qT_4, qe_4, qc_4, qi_4, ql_6, qL_6, qt_6, qT_6, qe_6, qc_6, qi_6, ql_8, qL_8, qt_8, qT_8, qe_8, qc_8, qi_8, ql_10, qL_10, qt_10, qT_10, qe_10, qc_10, qi_10, ql_24, qL_24, qt_24, qT_24, qe_24, qc_24, qi_24, ql_60, qL_60, qt_60, qT_60, qe_60, qc_60, qi_60, ql_100, qL_100, qt_100, qT_100, qe_100, qc_100, qi_100, ql_200, qL_200, qt_200, qT_200, qe_200, qc_200, qi_200, ql_400, qL_400, qt_400, qT_400, qe_400, qc_400, qi_400, ql_600, qL_600, qt_600, qT_600, qe_600, qc_600, qi_600, ql_900, qL_900, qt_900, qT_900, qe_900, qc_900, qi_900, ql_1200, qL_1200, qt_1200, qT_1200, qe_1200, qc_1200, qi_1200, ql_65536, qL_65536, qt_65536, qT_65536, qe_65536, qc_65536, qi_65536, true_and, and_true, eq_self, forall_eq, forall_eq_apply_imp_iff]
    refine ⟨fun c => ⟨Nat.not_lt_zero _, Nat.not_lt_zero _, Nat.not_lt_zero _, by omega, by omega, ?_⟩, fun c => ?_⟩
    · have ccC : jI (wC h w (4 * rk l k) w (4 * rk l k + 4) (4 * (l.length - rk l k))) 301 r 0 = nI l.length := by rw [jI_wC, if_neg (by omega)]; exact cc
      rw [ccC, qa_1]
      refine ⟨fun _ => ?_, fun c => absurd c (by decide)⟩
      generalize e3 : wI (wC h w (4 * rk l k) w (4 * rk l k + 4) (4 * (l.length - rk l k))) 301 r 0 (nI (l.length + 1)) = h3
      have f3 : h3.2 = h.2 := by rw [← e3]; rfl
      have k1' : jK h3 r = 7 := by unfold jK; rw [f3]; exact k1
      have rw' : jR h3 300 r 0 = w := by unfold jR; rw [f3]; exact rw_
      have k2' : jK h3 w = 21 := by unfold jK; rw [f3]; exact k2
      have hN' : jN h3 w = 800 := by unfold jN; rw [f3]; exact hN
      refine VX6_setRow_43 _ _ _ _ _ _ _ ?_
      simp (disch := omega) only [k1', rw', k2', hN', qm_3, qm_4, qm_16, qm_600, qm_200, qm_8, qn_210, qn_3, qa_0, qb_0, qa_1, qb_1, qa_2, qb_2, qa_3, qb_3, qa_4, qb_4, qa_16, qb_16, qa_180, qb_180, qs_1, qs_2, qs_3, qs_4, qs_6, qs_24, nI_add, q_sub, q_pred, q_clamp, q_in, nI_leI, nI_ltI, nI_eq, ql_0, qL_0, qt_0, qT_0, qe_0, qc_0, qi_0, ql_1, qL_1, qt_1, qT_1, qe_1, qc_1, qi_1, ql_2, qL_2, qt_2, qT_2, qe_2, qc_2, qi_2, ql_3, qL_3, qt_3, qT_3, qe_3, qc_3, qi_3, ql_4, qL_4, qt_4, qT_4, qe_4, qc_4, qi_4, ql_6, qL_6, qt_6, qT_6, qe_6, qc_6, qi_6, ql_8, qL_8, qt_8, qT_8, qe_8, qc_8, qi_8, ql_10, qL_10, qt_10, qT_10, qe_10, qc_10, qi_10, ql_24, qL_24, qt_24, qT_24, qe_24, qc_24, qi_24, ql_60, qL_60, qt_60, qT_60, qe_60, qc_60, qi_60, ql_100, qL_100, qt_100, qT_100, qe_100, qc_100, qi_100, ql_200, qL_200, qt_200, qT_200, qe_200, qc_200, qi_200, ql_400, qL_400, qt_400, qT_400, qe_400, qc_400, qi_400, ql_600, qL_600, qt_600, qT_600, qe_600, qc_600, qi_600, ql_900, qL_900, qt_900, qT_900, qe_900, qc_900, qi_900, ql_1200, qL_1200, qt_1200, qT_1200, qe_1200, qc_1200, qi_1200, ql_65536, qL_65536, qt_65536, qT_65536, qe_65536, qc_65536, qi_65536, true_and, and_true, eq_self, forall_eq, forall_eq_apply_imp_iff, jR_wI]
      refine ⟨fun c => absurd c (by decide), fun _ => ?_⟩
      have eins : insT l (k, c0, c1, c2) = l.take (rk l k) ++ (k, c0, c1, c2) :: l.drop (rk l k) := by unfold insT; rw [hx]; rfl
      have := H1 _ (fun z => by omega) (by rw [eins]; exact c_gap hN R hle (by omega) e3.symm k c0 c1 c2 rfl) ((((((by rw [← e3]; exact wFr.c.trans wFr.n : wFr h h3 r w)).trans wFr.w).trans wFr.w).trans wFr.w).trans wFr.w)
      rw [hx] at this
      exact this
    · exact ⟨fun c => absurd rfl c, fun _ => H0 ⟨by omega, by rw [hx]; rfl⟩⟩
  unfold kAt
  cases e : l[rk l k]? with
  | none =>
    refine ⟨fun c => absurd c (hne _ rfl), fun _ => ⟨k1, no (lk_no fun x hx => by rw [e] at hx; cases hx)⟩⟩
  | some x =>
    refine ⟨fun c => yes x (lk_of e ((key x).mp c)), fun c => ⟨k1, no (lk_no fun y hy => ?_)⟩⟩
    rw [e] at hy; cases hy
    exact fun q => c ((key x).mpr q)
end JR
