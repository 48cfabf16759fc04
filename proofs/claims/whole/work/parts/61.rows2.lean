/-! the class: rows, the rest -/
theorem rwO.of {h h' : jj_H} {r w : Nat} {l : List Row} (R : rwO h r w l) (e1 : jK h' r = jK h r) (e2 : jR h' 300 r 0 = jR h 300 r 0) (e3 : jK h' w = jK h w) (e4 : jN h' w = jN h w) (e5 : jI h' 301 r 0 = jI h 301 r 0) (e6 : ∀ i, jI h' 1000 w i = jI h 1000 w i) : rwO h' r w l := by
  obtain ⟨k1, rw_, k2, n1, n2, cc, l1, ws⟩ := R
  exact ⟨e1.trans k1, e2.trans rw_, e3.trans k2, by rw [e4]; exact n1, by rw [e4]; exact n2, e5.trans cc, l1, fun i x c hx hc => (e6 _).trans (ws i x c hx hc)⟩
theorem rwO.ot {h h' : jj_H} {r w r' w' : Nat} {l : List Row} (R : rwO h r w l) (F : wFr h h' r' w') (h1 : r ≠ r') (h2 : w ≠ w') : rwO h' r w l :=
  R.of (by unfold jK; rw [F.1]) (by unfold jR; rw [F.1]) (by unfold jK; rw [F.1]) (by unfold jN; rw [F.1]) (F.2 _ _ _ (fun z => absurd z.1 (by decide)) (fun z => h1 z.2)) (fun i => F.2 _ _ _ (fun z => h2 z.2) (fun z => absurd z.1 (by decide)))
section JR2
variable {r w r' w' : Nat} {l l' : List Row} {h : jj_H} {Q : Value → jj_H → Prop}
theorem c_setColumn {k x v : Int32} {j : Nat} (hN : jN h w = 800) (R : rwO h r w l) (hs : Srt l) (hx : lim 3 x = some j) (H1 : ∀ h', (lk l k).isSome = true → rwO h' r w (colT l k j v) → wFr h h' r w → Q (.int 1) h') (H0 : (lk l k).isNone = true → Q (.int 0) h) : jj_C mX6_setColumn 0 0 [.ref r, .int k, .int x, .int v] h Q := by
  have hle := rk_le l k
  have hl := R.2.2.2.2.2.2.1
  obtain ⟨k1, rw_, k2, n1, n2, cc, l1, ws⟩ := id R
  obtain ⟨e, hj3⟩ := lim_some (by decide) hx
  refine EX6_setColumn _ _ _ _ fun d => ⟨R.1, c_find R hs (fun y hy => ?_) (fun hy => ?_)⟩
  · obtain ⟨y1, y2⟩ := lk_some hy
    have hlt := (List.getElem?_eq_some_iff.mp y1).1
    refine ⟨fun c => absurd c (nI_m1 (by omega)), fun _ => c_isColumn (fun j' hj' => ?_) (fun hj' => by rw [hx] at hj'; cases hj')⟩
    refine ⟨fun _ => ?_, fun c => absurd c (by decide)⟩
    rw [e]
    simp (disch := omega) only [k1, rw_, k2, hN, qm_3, qm_4, qm_16, qm_600, qm_200, qm_8, qn_210, qn_3, qa_0, qb_0, qa_1, qb_1, qa_2, qb_2, qa_3, qb_3, qa_4, qb_4, qa_16, qb_16, qa_180, qb_180, qs_1, qs_2, qs_3, qs_4, qs_6, qs_24, nI_add, q_sub, q_pred, q_clamp, q_in, nI_leI, nI_ltI, nI_eq, ql_0, qL_0, qt_0, qT_0, qe_0, qc_0, qi_0, ql_1, qL_1, qt_1, qT_1, qe_1, qc_1, qi_1, ql_2, qL_2, qt_2, qT_2, qe_2, qc_2, qi_2, ql_3, qL_3, qt_3, qT_3, qe_3, qc_3, qi_3, ql_4, qL_4, qt_4, qT_4, qe_4, qc_4, qi_4, ql_6, qL_6, qt_6, qT_6, qe_6, qc_6, qi_6, ql_8, qL_8, qt_8, qT_8, qe_8, qc_8, qi_8, ql_10, qL_10, qt_10, qT_10, qe_10, qc_10, qi_10, ql_24, qL_24, qt_24, qT_24, qe_24, qc_24, qi_24, ql_60, qL_60, qt_60, qT_60, qe_60, qc_60, qi_60, ql_100, qL_100, qt_100, qT_100, qe_100, qc_100, qi_100, ql_200, qL_200, qt_200, qT_200, qe_200, qc_200, qi_200, ql_400, qL_400, qt_400, qT_400, qe_400, qc_400, qi_400, ql_600, qL_600, qt_600, qT_600, qe_600, qc_600, qi_600, ql_900, qL_900, qt_900, qT_900, qe_900, qc_900, qi_900, ql_1200, qL_1200, qt_1200, qT_1200, qe_1200, qc_1200, qi_1200, ql_65536, qL_65536, qt_65536, qT_65536, qe_65536, qc_65536, qi_65536, true_and, and_true, eq_self, forall_eq, forall_eq_apply_imp_iff]
    refine H1 _ (by rw [hy]; rfl) ?_ wFr.w
    have ec : colT l k j v = l.set (rk l k) (updC y j v) := by
      have h1 : (updC y j v).1 = k := by rw [updC_1]; exact y2
      unfold colT
      rw [hy]
      simp only
      rw [insT_set _ _ (by rw [h1]; exact hy), h1]
    rw [ec]
    refine ⟨k1, rw_, k2, by rw [List.length_set]; exact n1, n2, ?_, by rw [List.length_set]; exact l1, fun i z c hz hc => ?_⟩
    · rw [jI_wI, if_neg (by omega), List.length_set]; exact cc
    · rw [List.getElem?_set] at hz
      by_cases ei : rk l k = i
      · rw [if_pos ei, if_pos hlt] at hz
        cases hz
        subst ei
        have v0 := ws _ y c y1 hc
        rcases (show j = 0 ∨ j = 1 ∨ j = 2 by omega) with q | q | q <;> subst q <;> rcases (show c = 0 ∨ c = 1 ∨ c = 2 ∨ c = 3 by omega) with q | q | q | q <;> subst q
        all_goals first
          | (rw [jI_wI, if_pos ⟨rfl, rfl, rfl⟩]; rfl)
          | (rw [jI_wI, if_neg (by omega)]; exact v0)
      · rw [if_neg ei] at hz
        rw [jI_wI, if_neg (by omega)]
        exact ws i z c hz hc
  · exact ⟨fun _ => H0 (by rw [hy]; rfl), fun c => absurd rfl c⟩
theorem c_removeRow {k : Int32} (hN : jN h w = 800) (R : rwO h r w l) (hs : Srt l) (H : ∀ h', rwO h' r w (delT l k) → wFr h h' r w → Q (.int (if (lk l k).isSome then 1 else 0)) h') : jj_C mX6_removeRow 0 0 [.ref r, .int k] h Q := by
  have hle := rk_le l k
  have hl := R.2.2.2.2.2.2.1
  obtain ⟨k1, rw_, k2, n1, n2, cc, l1, ws⟩ := id R
  refine EX6_removeRow _ _ fun d => ⟨R.1, c_find R hs (fun y hy => ?_) (fun hy => ?_)⟩
  · obtain ⟨y1, y2⟩ := lk_some hy
    have hlt := (List.getElem?_eq_some_iff.mp y1).1
    have hdl := length_delT l k hy
    refine ⟨fun _ => ?_, fun c => absurd c (nI_m1 (by omega))⟩
    simp (disch := omega) only [k1, rw_, k2, hN, cc, qm_3, qm_4, qm_16, qm_600, qm_200, qm_8, qn_210, qn_3, qa_0, qb_0, qa_1, qb_1, qa_2, qb_2, qa_3, qb_3, qa_4, qb_4, qa_16, qb_16, qa_180, qb_180, qs_1, qs_2, qs_3, qs_4, qs_6, qs_24, nI_add, q_sub, q_pred, q_clamp, q_in, nI_leI, nI_ltI, nI_eq, ql_0, qL_0, qt_0, qT_0, qe_0, qc_0, qi_0, ql_1, qL_1, qt_1, qT_1, qe_1, qc_1, qi_1, ql_2, qL_2, qt_2, qT_2, qe_2, qc_2, qi_2, ql_3, qL_3, qt_3, qT_3, qe_3, qc_3, qi_3, ql_4, qL_4, qt_4, qT_4, qe_4, qc_4, qi_4, ql_6, qL_6, qt_6, qT_6, qe_6, qc_6, qi_6, ql_8, qL_8, qt_8, qT_8, qe_8, qc_8, qi_8, ql_10, qL_10, qt_10, qT_10, qe_10, qc_10, qi_10, ql_24, qL_24, qt_24, qT_24, qe_24, qc_24, qi_24, ql_60, qL_60, qt_60, qT_60, qe_60, qc_60, qi_60, ql_100, qL_100, qt_100, qT_100, qe_100, qc_100, qi_100, ql_200, qL_200, qt_200, qT_200, qe_200, qc_200, qi_200, ql_400, qL_400, qt_400, qT_400, qe_400, qc_400, qi_400, ql_600, qL_600, qt_600, qT_600, qe_600, qc_600, qi_600, ql_900, qL_900, qt_900, qT_900, qe_900, qc_900, qi_900, ql_1200, qL_1200, qt_1200, qT_1200, qe_1200, qc_1200, qi_1200, ql_65536, qL_65536, qt_65536, qT_65536, qe_65536, qc_65536, qi_65536, true_and, and_true, eq_self, forall_eq, forall_eq_apply_imp_iff]
    refine ⟨Nat.not_lt_zero _, Nat.not_lt_zero _, Nat.not_lt_zero _, by omega, by omega, ?_⟩
    have ccC : jI (wC h w (4 * rk l k + 4) w (4 * rk l k) (4 * (l.length - rk l k - 1))) 301 r 0 = nI l.length := by rw [jI_wC, if_neg (by omega)]; exact cc
    rw [ccC, qs_1 (by omega)]
    have := H (wI (wC h w (4 * rk l k + 4) w (4 * rk l k) (4 * (l.length - rk l k - 1))) 301 r 0 (nI (l.length - 1))) ?_ (wFr.c.trans wFr.n)
    · rw [hy] at this; exact this
    · refine ⟨k1, rw_, k2, by show 4 * (delT l k).length ≤ jN h w; omega, n2, ?_, by omega, fun i x c hx hc => ?_⟩
      · rw [jI_wI, if_pos ⟨rfl, rfl, rfl⟩]; congr 1; omega
      · have hil := (List.getElem?_eq_some_iff.mp hx).1
        rw [jI_wI, if_neg (by omega), jI_wC, if_pos ⟨rfl, rfl⟩]
        rw [getElem?_delT l k hy] at hx
        by_cases q : i < rk l k
        · rw [if_pos q] at hx
          rw [pk_cpy_out (by omega)]
          exact ws i x c hx hc
        · rw [if_neg q] at hx
          rw [pk_cpy_in (by omega) (by omega), show 4 * rk l k + 4 + (4 * i + c - 4 * rk l k) = 4 * (i + 1) + c by omega]
          exact ws (i + 1) x c hx hc
  · refine ⟨fun c => absurd rfl c, fun _ => ?_⟩
    have hd : delT l k = l := by unfold delT; rw [hy]; rfl
    have := H h (by rw [hd]; exact R) wFr.rf
    rw [hy] at this
    exact this
theorem c_takeRow {k : Int32} (hN : jN h w = 800) (R : rwO h r w l) (hs : Srt l) (R' : rwO h r' w' l') (hs' : Srt l') (H1 : ∀ h' l2, (match lk l' k with | some x => ¬ (l.length = 200 ∧ (lk l k).isNone = true) ∧ l2 = insT l x | none => l2 = delT l k) → rwO h' r w l2 → wFr h h' r w → Q (.int 1) h') (H0 : (lk l' k).isSome = true → l.length = 200 ∧ (lk l k).isNone = true → Q (.int 0) h) : jj_C mX6_takeRow 0 0 [.ref r, .ref r', .int k] h Q := by
  have hle := rk_le l' k
  have hl := R'.2.2.2.2.2.2.1
  refine EX6_takeRow _ _ _ fun d => ⟨R'.1, c_find R' hs' (fun y hy => ?_) (fun hy => ?_)⟩
  · obtain ⟨k1, rw_, k2, n1, n2, cc, l1, ws⟩ := id R'
    obtain ⟨y1, y2⟩ := lk_some hy
    have hlt := (List.getElem?_eq_some_iff.mp y1).1
    have v1 : jI h 1000 w' (4 * rk l' k + 1) = y.2.1 := ws _ y 1 y1 (by omega)
    have v2 : jI h 1000 w' (4 * rk l' k + 2) = y.2.2.1 := ws _ y 2 y1 (by omega)
    have v3 : jI h 1000 w' (4 * rk l' k + 3) = y.2.2.2 := ws _ y 3 y1 (by omega)
    refine ⟨fun _ => ?_, fun c => absurd c (nI_m1 (by omega))⟩
    have kr := R.1
    simp (disch := omega) only [k1, rw_, k2, kr, qm_3, qm_4, qm_16, qm_600, qm_200, qm_8, qn_210, qn_3, qa_0, qb_0, qa_1, qb_1, qa_2, qb_2, qa_3, qb_3, qa_4, qb_4, qa_16, qb_16, qa_180, qb_180, qs_1, qs_2, qs_3, qs_4, qs_6, qs_24, nI_add, q_sub, q_pred, q_clamp, q_in, nI_leI, nI_ltI, nI_eq, ql_0, qL_0, qt_0, qT_0, qe_0, qc_0, qi_0, ql_1, qL_1, qt_1, qT_1, qe_1, qc_1, qi_1, ql_2, qL_2, qt_2, qT_2, qe_2, qc_2, qi_2, ql_3, qL_3, qt_3, qT_3, qe_3, qc_3, qi_3, ql_4, qL_4, qt_4, qT_4, qe_4, qc_4, qi_4, ql_6, qL_6, qt_6, qT_6, qe_6, qc_6, qi_6, ql_8, qL_8, qt_8, qT_8, qe_8, qc_8, qi_8, ql_10, qL_10, qt_10, qT_10, qe_10, qc_10, qi_10, ql_24, qL_24, qt_24, qT_24, qe_24, qc_24, qi_24, ql_60, qL_60, qt_60, qT_60, qe_60, qc_60, qi_60, ql_100, qL_100, qt_100, qT_100, qe_100, qc_100, qi_100, ql_200, qL_200, qt_200, qT_200, qe_200, qc_200, qi_200, ql_400, qL_400, qt_400, qT_400, qe_400, qc_400, qi_400, ql_600, qL_600, qt_600, qT_600, qe_600, qc_600, qi_600, ql_900, qL_900, qt_900, qT_900, qe_900, qc_900, qi_900, ql_1200, qL_1200, qt_1200, qT_1200, qe_1200, qc_1200, qi_1200, ql_65536, qL_65536, qt_65536, qT_65536, qe_65536, qc_65536, qi_65536, v1, v2, v3, true_and, and_true, eq_self, forall_eq, forall_eq_apply_imp_iff]
    have ey : y = (k, y.2.1, y.2.2.1, y.2.2.2) := by rw [← y2]
    refine c_setRow hN R hs (fun h2 hroom R2 F2 => ?_) (fun hfull => ?_)
    · have HH := H1 h2 (insT l y) (by rw [hy]; exact ⟨hroom, rfl⟩) (by rw [ey]; exact R2) F2
      split
      · exact ⟨fun c => absurd c (by decide), fun _ => HH⟩
      · exact ⟨fun c => absurd c (by decide), fun _ => HH⟩
    · exact ⟨fun _ => H0 (by rw [hy]; rfl) hfull, fun c => absurd rfl c⟩
  · refine ⟨fun c => absurd rfl c, fun _ => ⟨R.1, c_removeRow hN R hs fun h2 R2 F2 => ?_⟩⟩
    exact H1 h2 (delT l k) (by rw [hy]) R2 F2
/-- a row behind the last -/
theorem c_append {i : Nat} (hN : jN h w = 800) (R : rwO h r w l) (R' : rwO h r' w' l') (hww : w ≠ w') (hi : i < 100000) (H1 : ∀ x, l'[i]? = some x → l.length < 200 → ∀ h', rwO h' r w (l ++ [x]) → wFr h h' r w → Q (.int 1) h') (H0 : ∀ x, l'[i]? = some x → l.length = 200 → Q (.int 0) h) (H2 : l'[i]? = none → Q (.int 1) h) : jj_C mX6_append 0 0 [.ref r, .ref r', .int (nI i)] h Q := by
  obtain ⟨k1, rw_, k2, n1, n2, cc, l1, ws⟩ := id R
  obtain ⟨k1', rw_', k2', n1', n2', cc', l1', ws'⟩ := id R'
  have z4 : ¬ (4 : Int32) < 0 := by decide
  refine EX6_append _ _ _ fun d => ?_
  simp (disch := omega) only [k1, rw_, k2, k1', rw_', k2', hN, cc, cc', z4, qm_3, qm_4, qm_16, qm_600, qm_200, qm_8, qn_210, qn_3, qa_0, qb_0, qa_1, qb_1, qa_2, qb_2, qa_3, qb_3, qa_4, qb_4, qa_16, qb_16, qa_180, qb_180, qs_1, qs_2, qs_3, qs_4, qs_6, qs_24, nI_add, q_sub, q_pred, q_clamp, q_in, nI_leI, nI_ltI, nI_eq, ql_0, qL_0, qt_0, qT_0, qe_0, qc_0, qi_0, ql_1, qL_1, qt_1, qT_1, qe_1, qc_1, qi_1, ql_2, qL_2, qt_2, qT_2, qe_2, qc_2, qi_2, ql_3, qL_3, qt_3, qT_3, qe_3, qc_3, qi_3, ql_4, qL_4, qt_4, qT_4, qe_4, qc_4, qi_4, ql_6, qL_6, qt_6, qT_6, qe_6, qc_6, qi_6, ql_8, qL_8, qt_8, qT_8, qe_8, qc_8, qi_8, ql_10, qL_10, qt_10, qT_10, qe_10, qc_10, qi_10, ql_24, qL_24, qt_24, qT_24, qe_24, qc_24, qi_24, ql_60, qL_60, qt_60, qT_60, qe_60, qc_60, qi_60, ql_100, qL_100, qt_100, qT_100, qe_100, qc_100, qi_100, ql_200, qL_200, qt_200, qT_200, qe_200, qc_200, qi_200, ql_400, qL_400, qt_400, qT_400, qe_400, qc_400, qi_400, ql_600, qL_600, qt_600, qT_600, qe_600, qc_600, qi_600, ql_900, qL_900, qt_900, qT_900, qe_900, qc_900, qi_900, ql_1200, qL_1200, qt_1200, qT_1200, qe_1200, qc_1200, qi_1200, ql_65536, qL_65536, qt_65536, qT_65536, qe_65536, qc_65536, qi_65536, not_false_eq_true, true_and, and_true, eq_self, forall_eq, forall_eq_apply_imp_iff]
  refine ⟨fun c => absurd c (Nat.not_lt_zero _), fun _ => ⟨fun c => ⟨fun c2 => ⟨Nat.not_lt_zero _, Nat.not_lt_zero _, by omega, by omega, ?_⟩, fun c2 => ?_⟩, fun c => H2 (List.getElem?_eq_none (by omega))⟩⟩
  · obtain ⟨x, hx⟩ : ∃ x, l'[i]? = some x := ⟨_, List.getElem?_eq_getElem c⟩
    have ccC : jI (wC h w' (4 * i) w (4 * l.length) 4) 301 r 0 = nI l.length := by rw [jI_wC, if_neg (by omega)]; exact cc
    rw [ccC, qa_1]
    refine H1 x hx (by omega) _ ?_ (wFr.c.trans wFr.n)
    have hlen : (l ++ [x]).length = l.length + 1 := by simp
    refine ⟨k1, rw_, k2, by rw [hlen]; show 4 * (l.length + 1) ≤ jN h w; omega, n2, ?_, by omega, fun j y c3 hy hc => ?_⟩
    · rw [jI_wI, if_pos ⟨rfl, rfl, rfl⟩, hlen]
    · rw [jI_wI, if_neg (by omega), jI_wC, if_pos ⟨rfl, rfl⟩]
      by_cases q : j < l.length
      · rw [List.getElem?_append_left q] at hy
        rw [pk_cpy_out (by omega)]
        exact ws j y c3 hy hc
      · rw [List.getElem?_append_right (by omega)] at hy
        have hz : j - l.length < 1 := (List.getElem?_eq_some_iff.mp hy).1
        have hj : j = l.length := by omega
        rw [hj, Nat.sub_self] at hy
        cases hy
        rw [hj, pk_cpy_in (by omega) (by omega), show 4 * i + (4 * l.length + c3 - 4 * l.length) = 4 * i + c3 by omega]
        exact ws' i x c3 hx hc
  · obtain ⟨x, hx⟩ : ∃ x, l'[i]? = some x := ⟨_, List.getElem?_eq_getElem c⟩
    exact H0 x hx (by omega)
theorem c_appendN (H : Q (.int 1) h) : jj_C mX6_append 0 0 [.ref r, .ref r', .int (-1)] h Q := EX6_append _ _ _ fun d => ⟨fun _ => H, fun c => absurd (by decide) c⟩
theorem c_become (R' : rwO h r' w' l') (k1 : jK h r = 7) (rw_ : jR h 300 r 0 = w) (k2 : jK h w = 21) (n1 : 4 * l'.length ≤ jN h w) (n2 : jN h w ≤ 800) (hrr : r ≠ r') (hww : w ≠ w') (H : ∀ h', rwO h' r w l' → wFr h h' r w → Q (.int 0) h') : jj_C mX6_become 0 0 [.ref r, .ref r'] h Q := by
  obtain ⟨k1', rw_', k2', n1', n2', cc', l1', ws'⟩ := id R'
  have z0 : ¬ (0 : Int32) < 0 := by decide
  refine EX6_become _ _ fun d => ?_
  simp (disch := omega) only [k1, rw_, k2, k1', rw_', k2', cc', z0, qm_3, qm_4, qm_16, qm_600, qm_200, qm_8, qn_210, qn_3, qa_0, qb_0, qa_1, qb_1, qa_2, qb_2, qa_3, qb_3, qa_4, qb_4, qa_16, qb_16, qa_180, qb_180, qs_1, qs_2, qs_3, qs_4, qs_6, qs_24, nI_add, q_sub, q_pred, q_clamp, q_in, nI_leI, nI_ltI, nI_eq, ql_0, qL_0, qt_0, qT_0, qe_0, qc_0, qi_0, ql_1, qL_1, qt_1, qT_1, qe_1, qc_1, qi_1, ql_2, qL_2, qt_2, qT_2, qe_2, qc_2, qi_2, ql_3, qL_3, qt_3, qT_3, qe_3, qc_3, qi_3, ql_4, qL_4, qt_4, qT_4, qe_4, qc_4, qi_4, ql_6, qL_6, qt_6, qT_6, qe_6, qc_6, qi_6, ql_8, qL_8, qt_8, qT_8, qe_8, qc_8, qi_8, ql_10, qL_10, qt_10, qT_10, qe_10, qc_10, qi_10, ql_24, qL_24, qt_24, qT_24, qe_24, qc_24, qi_24, ql_60, qL_60, qt_60, qT_60, qe_60, qc_60, qi_60, ql_100, qL_100, qt_100, qT_100, qe_100, qc_100, qi_100, ql_200, qL_200, qt_200, qT_200, qe_200, qc_200, qi_200, ql_400, qL_400, qt_400, qT_400, qe_400, qc_400, qi_400, ql_600, qL_600, qt_600, qT_600, qe_600, qc_600, qi_600, ql_900, qL_900, qt_900, qT_900, qe_900, qc_900, qi_900, ql_1200, qL_1200, qt_1200, qT_1200, qe_1200, qc_1200, qi_1200, ql_65536, qL_65536, qt_65536, qT_65536, qe_65536, qc_65536, qi_65536, not_false_eq_true, true_and, and_true, eq_self, forall_eq, forall_eq_apply_imp_iff]
  refine ⟨fun c => by omega, fun _ => ⟨Nat.not_lt_zero _, by omega, by omega, ?_⟩⟩
  have ccC : jI (wC h w' 0 w 0 (4 * l'.length)) 301 r' 0 = nI l'.length := by rw [jI_wC, if_neg (by omega)]; exact cc'
  rw [ccC]
  refine H _ ⟨k1, rw_, k2, n1, n2, ?_, l1', fun i x c hx hc => ?_⟩ (wFr.c.trans wFr.n)
  · rw [jI_wI, if_pos ⟨rfl, rfl, rfl⟩]
  · have hil := (List.getElem?_eq_some_iff.mp hx).1
    rw [jI_wI, if_neg (by omega), jI_wC, if_pos ⟨rfl, rfl⟩, pk_cpy_in (by omega) (by omega), Nat.zero_add, Nat.sub_zero]
    exact ws' i x c hx hc
theorem wd_ext {x y : Row} (h : ∀ c, c < 4 → wd x c = wd y c) : x = y := Prod.ext (h 0 (by omega)) (Prod.ext (h 1 (by omega)) (Prod.ext (h 2 (by omega)) (h 3 (by omega))))
/-- n rows of the one are n rows of the other -/
theorem c_matches {p p' n : Nat} (R : rwO h r w l) (R' : rwO h r' w' l') (hp : p < 100000) (hp' : p' < 100000) (hn : n < 100000) (H : Q (.int (if p + n ≤ l.length ∧ p' + n ≤ l'.length ∧ (l.drop p).take n = (l'.drop p').take n then 1 else 0)) h) : jj_C mX6_matches 0 0 [.ref r, .int (nI p), .ref r', .int (nI p'), .int (nI n)] h Q := by
  obtain ⟨k1, rw_, k2, n1, n2, cc, l1, ws⟩ := id R
  obtain ⟨k1', rw_', k2', n1', n2', cc', l1', ws'⟩ := id R'
  refine EX6_matches _ _ _ _ _ fun d => ?_
  have e5 : 4 * (nI p' - nI p) = nI (4 * p') - nI (4 * p) := by
    rw [Int32.mul_sub, show (4 : Int32) * nI p' = nI (4 * p') from pk_mul 4 p', show (4 : Int32) * nI p = nI (4 * p) from pk_mul 4 p]
  rw [e5]
  simp (disch := omega) only [k1, k1', cc, cc', qm_4, nI_add, q_clamp, q_in, nI_leI, nI_ltI, nI_eq, ql_0, qL_0, qt_0, qT_0, qe_0, qc_0, qi_0, ql_1, qL_1, qt_1, qT_1, qe_1, qc_1, qi_1, ql_2, qL_2, qt_2, qT_2, qe_2, qc_2, qi_2, ql_3, qL_3, qt_3, qT_3, qe_3, qc_3, qi_3, ql_4, qL_4, qt_4, qT_4, qe_4, qc_4, qi_4, ql_6, qL_6, qt_6, qT_6, qe_6, qc_6, qi_6, ql_8, qL_8, qt_8, qT_8, qe_8, qc_8, qi_8, ql_10, qL_10, qt_10, qT_10, qe_10, qc_10, qi_10, ql_24, qL_24, qt_24, qT_24, qe_24, qc_24, qi_24, ql_60, qL_60, qt_60, qT_60, qe_60, qc_60, qi_60, ql_100, qL_100, qt_100, qT_100, qe_100, qc_100, qi_100, ql_200, qL_200, qt_200, qT_200, qe_200, qc_200, qi_200, ql_400, qL_400, qt_400, qT_400, qe_400, qc_400, qi_400, ql_600, qL_600, qt_600, qT_600, qe_600, qc_600, qi_600, ql_900, qL_900, qt_900, qT_900, qe_900, qc_900, qi_900, ql_1200, qL_1200, qt_1200, qT_1200, qe_1200, qc_1200, qi_1200, ql_65536, qL_65536, qt_65536, qT_65536, qe_65536, qc_65536, qi_65536, true_and, and_true, eq_self, forall_eq, forall_eq_apply_imp_iff]
  have no : ¬ (p + n ≤ l.length ∧ p' + n ≤ l'.length ∧ (l.drop p).take n = (l'.drop p').take n) → Q (.int 0) h := fun q => by rw [if_neg q] at H; exact H
  refine ⟨fun c => absurd c (Nat.not_lt_zero _), fun _ => ⟨fun c => absurd c (Nat.not_lt_zero _), fun _ => ⟨fun c => no (fun z => by omega), fun c1 => ⟨fun c2 => ?_, fun c2 => no (fun z => c2 z.2.1)⟩⟩⟩⟩
  have g1 : ∀ i, i < n → ((l.drop p).take n)[i]? = l[p + i]? := fun i hi => by rw [List.getElem?_take, if_pos hi, List.getElem?_drop]
  have g2 : ∀ i, i < n → ((l'.drop p').take n)[i]? = l'[p' + i]? := fun i hi => by rw [List.getElem?_take, if_pos hi, List.getElem?_drop]
  have loop : ∀ q v, v + q = 4 * n → (∀ u, u < v → jI h 1000 w (4 * p + u) = jI h 1000 w' (4 * p' + u)) → jj_WP d mX6_matches 0 0 44 [(0, .ref r), (1, .int (nI p)), (2, .ref r'), (4, .int (nI n)), (5, .int (nI (4 * p') - nI (4 * p))), (6, .int (nI (4 * p + v)))] [] h Q := by
    intro q
    induction q with
    | zero =>
      intro v hv lo
      refine VX6_matches_44 _ _ _ _ _ _ ?_
      simp (disch := omega) only [qm_4, nI_add, q_clamp, q_in, nI_leI, nI_ltI, nI_eq, ql_0, qL_0, qt_0, qT_0, qe_0, qc_0, qi_0, ql_1, qL_1, qt_1, qT_1, qe_1, qc_1, qi_1, ql_2, qL_2, qt_2, qT_2, qe_2, qc_2, qi_2, ql_3, qL_3, qt_3, qT_3, qe_3, qc_3, qi_3, ql_4, qL_4, qt_4, qT_4, qe_4, qc_4, qi_4, ql_6, qL_6, qt_6, qT_6, qe_6, qc_6, qi_6, ql_8, qL_8, qt_8, qT_8, qe_8, qc_8, qi_8, ql_10, qL_10, qt_10, qT_10, qe_10, qc_10, qi_10, ql_24, qL_24, qt_24, qT_24, qe_24, qc_24, qi_24, ql_60, qL_60, qt_60, qT_60, qe_60, qc_60, qi_60, ql_100, qL_100, qt_100, qT_100, qe_100, qc_100, qi_100, ql_200, qL_200, qt_200, qT_200, qe_200, qc_200, qi_200, ql_400, qL_400, qt_400, qT_400, qe_400, qc_400, qi_400, ql_600, qL_600, qt_600, qT_600, qe_600, qc_600, qi_600, ql_900, qL_900, qt_900, qT_900, qe_900, qc_900, qi_900, ql_1200, qL_1200, qt_1200, qT_1200, qe_1200, qc_1200, qi_1200, ql_65536, qL_65536, qt_65536, qT_65536, qe_65536, qc_65536, qi_65536]
      refine ⟨fun _ => ?_, fun c => by omega⟩
      rw [if_pos] at H
      · exact H
      · refine ⟨by omega, by omega, List.ext_getElem? fun i => ?_⟩
        by_cases hi : i < n
        · rw [g1 i hi, g2 i hi]
          obtain ⟨x, hx⟩ : ∃ x, l[p + i]? = some x := ⟨_, List.getElem?_eq_getElem (by omega)⟩
          obtain ⟨y, hy⟩ : ∃ x, l'[p' + i]? = some x := ⟨_, List.getElem?_eq_getElem (by omega)⟩
          rw [hx, hy]
          congr 1
          refine wd_ext fun c hc => ?_
          have a1 := ws _ x c hx hc
          have a2 := ws' _ y c hy hc
          have a3 := lo (4 * i + c) (by omega)
          rw [show 4 * p + (4 * i + c) = 4 * (p + i) + c by omega, show 4 * p' + (4 * i + c) = 4 * (p' + i) + c by omega, a1, a2] at a3
          exact a3
        · rw [List.getElem?_eq_none (by rw [List.length_take]; omega), List.getElem?_eq_none (by rw [List.length_take]; omega)]
    | succ q ih =>
      intro v hv lo
      have e6 : nI (4 * p + v) + (nI (4 * p') - nI (4 * p)) = nI (4 * p' + v) := by
        rw [← nI_add, ← nI_add, Int32.add_comm (nI (4 * p')) (nI v), Int32.add_assoc, Int32.add_comm (nI (4 * p)) (nI v + _), Int32.add_assoc]
        congr 1
        rw [Int32.sub_eq_add_neg, Int32.add_assoc, Int32.add_comm (-_) _, Int32.add_right_neg, Int32.add_zero]
      have hlt : v < 4 * n := by omega
      refine VX6_matches_44 _ _ _ _ _ _ ?_
      rw [e6]
      simp (disch := omega) only [k1, rw_, k2, k1', rw_', k2', qm_4, qa_1, nI_add, q_clamp, q_in, nI_leI, nI_ltI, nI_eq, ql_0, qL_0, qt_0, qT_0, qe_0, qc_0, qi_0, ql_1, qL_1, qt_1, qT_1, qe_1, qc_1, qi_1, ql_2, qL_2, qt_2, qT_2, qe_2, qc_2, qi_2, ql_3, qL_3, qt_3, qT_3, qe_3, qc_3, qi_3, ql_4, qL_4, qt_4, qT_4, qe_4, qc_4, qi_4, ql_6, qL_6, qt_6, qT_6, qe_6, qc_6, qi_6, ql_8, qL_8, qt_8, qT_8, qe_8, qc_8, qi_8, ql_10, qL_10, qt_10, qT_10, qe_10, qc_10, qi_10, ql_24, qL_24, qt_24, qT_24, qe_24, qc_24, qi_24, ql_60, qL_60, qt_60, qT_60, qe_60, qc_60, qi_60, ql_100, qL_100, qt_100, qT_100, qe_100, qc_100, qi_100, ql_200, qL_200, qt_200, qT_200, qe_200, qc_200, qi_200, ql_400, qL_400, qt_400, qT_400, qe_400, qc_400, qi_400, ql_600, qL_600, qt_600, qT_600, qe_600, qc_600, qi_600, ql_900, qL_900, qt_900, qT_900, qe_900, qc_900, qi_900, ql_1200, qL_1200, qt_1200, qT_1200, qe_1200, qc_1200, qi_1200, ql_65536, qL_65536, qt_65536, qT_65536, qe_65536, qc_65536, qi_65536, true_and, and_true, eq_self, forall_eq, forall_eq_apply_imp_iff]
      refine ⟨fun c => by omega, fun _ => ⟨fun c => ?_, fun c => no fun z => c ?_⟩⟩
      · refine ih (v + 1) (by omega) fun u hu => ?_
        by_cases e : u = v
        · rw [e]; exact c
        · exact lo u (by omega)
      · have e7 : ((l.drop p).take n)[v / 4]? = ((l'.drop p').take n)[v / 4]? := by rw [z.2.2]
        rw [g1 _ (by omega), g2 _ (by omega)] at e7
        obtain ⟨x, hx⟩ : ∃ x, l[p + v / 4]? = some x := ⟨_, List.getElem?_eq_getElem (by omega)⟩
        rw [hx] at e7
        have a1 := ws _ x (v % 4) hx (by omega)
        have a2 := ws' _ x (v % 4) e7.symm (by omega)
        rw [show 4 * p + v = 4 * (p + v / 4) + v % 4 by omega, show 4 * p' + v = 4 * (p' + v / 4) + v % 4 by omega, a1, a2]
  exact loop (4 * n) 0 (by omega) (fun u hu => by omega)
theorem c_isSame (R : rwO h r w l) (R' : rwO h r' w' l') (H : Q (.int (if l = l' then 1 else 0)) h) : jj_C mX6_isSame 0 0 [.ref r, .ref r'] h Q := by
  have k1 := R.1
  have k1' := R'.1
  have cc := R.2.2.2.2.2.1
  have cc' := R'.2.2.2.2.2.1
  have hl := R.2.2.2.2.2.2.1
  have hl' := R'.2.2.2.2.2.2.1
  refine EX6_isSame _ _ fun d => ?_
  simp (disch := omega) only [k1, k1', cc, cc', q_clamp, q_in, nI_leI, nI_ltI, nI_eq, ql_0, qL_0, qt_0, qT_0, qe_0, qc_0, qi_0, ql_1, qL_1, qt_1, qT_1, qe_1, qc_1, qi_1, ql_2, qL_2, qt_2, qT_2, qe_2, qc_2, qi_2, ql_3, qL_3, qt_3, qT_3, qe_3, qc_3, qi_3, ql_4, qL_4, qt_4, qT_4, qe_4, qc_4, qi_4, ql_6, qL_6, qt_6, qT_6, qe_6, qc_6, qi_6, ql_8, qL_8, qt_8, qT_8, qe_8, qc_8, qi_8, ql_10, qL_10, qt_10, qT_10, qe_10, qc_10, qi_10, ql_24, qL_24, qt_24, qT_24, qe_24, qc_24, qi_24, ql_60, qL_60, qt_60, qT_60, qe_60, qc_60, qi_60, ql_100, qL_100, qt_100, qT_100, qe_100, qc_100, qi_100, ql_200, qL_200, qt_200, qT_200, qe_200, qc_200, qi_200, ql_400, qL_400, qt_400, qT_400, qe_400, qc_400, qi_400, ql_600, qL_600, qt_600, qT_600, qe_600, qc_600, qi_600, ql_900, qL_900, qt_900, qT_900, qe_900, qc_900, qi_900, ql_1200, qL_1200, qt_1200, qT_1200, qe_1200, qc_1200, qi_1200, ql_65536, qL_65536, qt_65536, qT_65536, qe_65536, qc_65536, qi_65536, true_and, and_true, eq_self, forall_eq, forall_eq_apply_imp_iff]
  refine ⟨fun c => ?_, fun c => ?_⟩
  · rw [if_neg (fun e => c (by rw [e]))] at H; exact H
  · refine c_matches (p := 0) (p' := 0) R R' (by omega) (by omega) (by omega) ?_
    by_cases e : l = l'
    · rw [if_pos e] at H
      rw [if_pos ⟨by omega, by omega, by rw [e]⟩]
      exact ⟨fun c => absurd c (by decide), fun _ => H⟩
    · rw [if_neg e] at H
      rw [if_neg]
      · exact ⟨fun _ => H, fun c => absurd rfl c⟩
      · rintro ⟨_, _, z⟩
        rw [List.drop_zero, List.drop_zero, List.take_of_length_le (by omega), List.take_of_length_le (by omega)] at z
        exact e z
/-- where a row lies, or -1 -/
def plR (x : Int32) (l : List Row) (o : Option Row) : Prop := (o = none ∧ x = -1) ∨ ∃ i y, o = some y ∧ x = nI i ∧ l[i]? = some y
theorem c_isSameRow {x x' : Int32} {o o' : Option Row} (R : rwO h r w l) (R' : rwO h r' w' l') (a : plR x l o) (b : plR x' l' o') (H : Q (.int (if o = o' then 1 else 0)) h) : jj_C mX6_isSameRow 0 0 [.ref r, .int x, .ref r', .int x'] h Q := by
  have hl := R.2.2.2.2.2.2.1
  have hl' := R'.2.2.2.2.2.2.1
  refine EX6_isSameRow _ _ _ _ fun d => ?_
  rcases a with ⟨e, rfl⟩ | ⟨i, y, e, rfl, hi⟩
  · rcases b with ⟨e', rfl⟩ | ⟨i', y', e', rfl, hi'⟩
    · rw [e, e', if_pos rfl] at H
      exact ⟨fun _ => ⟨fun c => absurd rfl c, fun _ => H⟩, fun c => absurd rfl c⟩
    · have := (List.getElem?_eq_some_iff.mp hi').1
      rw [e, e', if_neg (fun z => by cases z)] at H
      exact ⟨fun _ => ⟨fun _ => H, fun c => absurd c.symm (nI_m1 (by omega))⟩, fun c => absurd rfl c⟩
  · have h1 := (List.getElem?_eq_some_iff.mp hi).1
    rcases b with ⟨e', rfl⟩ | ⟨i', y', e', rfl, hi'⟩
    · rw [e, e', if_neg (fun z => by cases z)] at H
      exact ⟨fun c => absurd c (nI_m1 (by omega)), fun _ => ⟨fun c => absurd rfl c, fun _ => ⟨fun _ => H, fun c => absurd c (nI_m1 (by omega))⟩⟩⟩
    · have h2 := (List.getElem?_eq_some_iff.mp hi').1
      refine ⟨fun c => absurd c (nI_m1 (by omega)), fun _ => ⟨fun _ => ⟨R.1, c_matches (n := 1) R R' (by omega) (by omega) (by omega) ?_⟩, fun c => absurd c (nI_m1 (by omega))⟩⟩
      have t1 : ∀ (q : List Row) (j : Nat) (z : Row), q[j]? = some z → (q.drop j).take 1 = [z] := fun q j z hz => by
        have hz' := List.getElem?_eq_some_iff.mp hz
        rw [List.drop_eq_getElem_cons hz'.1, List.take_succ_cons, List.take_zero, hz'.2]
      rw [t1 l i y hi, t1 l' i' y' hi']
      rw [e, e'] at H
      by_cases ey : y = y'
      · rw [if_pos (by rw [ey])] at H
        rw [if_pos ⟨by omega, by omega, by rw [ey]⟩]
        exact ⟨Or.inr rfl, H⟩
      · rw [if_neg (fun z => ey (Option.some.inj z))] at H
        rw [if_neg (fun z => ey (by simpa using z.2.2))]
        exact ⟨Or.inl rfl, H⟩
end JR2
