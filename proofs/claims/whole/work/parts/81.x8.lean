/-! the class: what differs -/
def pD (x : Nat) : Nat → Nat → Prop := fun tg a => (tg = 52 ∧ a = x + 23) ∨ (tg = 1000 ∧ (a = x + 24 ∨ a = x + 25))
section JX8
variable {h h' h1 : jj_H} {x m n t r w r' w' : Nat} {s : St} {l l' : List Row} {Q : Value → jj_H → Prop}
theorem c_kind {i j : Nat} {X Y : Row} (R : rwO h r w l) (R' : rwO h r' w' l') (hx : l[i]? = some X) (hy : l'[j]? = some Y) (H : Q (.int (if kd X Y = 8 then 0 else kd X Y)) h) : jj_C mX1_kindOfChange 0 0 [.ref r, .int (nI i), .ref r', .int (nI j)] h Q := by
  obtain ⟨k1, rw_, k2, n1, n2, cc, l1, ws⟩ := id R
  obtain ⟨k1', rw_', k2', n1', n2', cc', l1', ws'⟩ := id R'
  have hil := (List.getElem?_eq_some_iff.mp hx).1
  have hjl := (List.getElem?_eq_some_iff.mp hy).1
  refine EX1_kindOfChange _ _ _ _ fun d => ?_
  have step : ∀ c (b : Int32), c < 3 → (wd X (1 + c) = wd Y (1 + c) → jj_WP d mX1_kindOfChange 0 0 6 [(0, .ref r), (1, .int (nI i)), (2, .ref r'), (3, .int (nI j)), (4, .int b), (5, .int (nI (c + 1)))] [] h Q) → (¬ wd X (1 + c) = wd Y (1 + c) → jj_WP d mX1_kindOfChange 0 0 6 [(0, .ref r), (1, .int (nI i)), (2, .ref r'), (3, .int (nI j)), (4, .int (b ||| (1 <<< (nI c &&& 31)))), (5, .int (nI (c + 1)))] [] h Q) → jj_WP d mX1_kindOfChange 0 0 6 [(0, .ref r), (1, .int (nI i)), (2, .ref r'), (3, .int (nI j)), (4, .int b), (5, .int (nI c))] [] h Q := by
    intro c b hc A B
    have v1 : jI h 1000 w (4 * i + 1 + c) = wd X (1 + c) := by rw [Nat.add_assoc]; exact ws i X (1 + c) hx (by omega)
    have v2 : jI h 1000 w' (4 * j + 1 + c) = wd Y (1 + c) := by rw [Nat.add_assoc]; exact ws' j Y (1 + c) hy (by omega)
    refine VX1_kindOfChange_6 _ _ _ _ _ _ ?_
    simp (disch := omega) only [k1, rw_, k2, k1', rw_', k2', qm_3, qm_4, qm_16, qm_600, qm_200, qm_8, qn_210, qn_3, qa_0, qb_0, qa_1, qb_1, qa_2, qb_2, qa_3, qb_3, qa_4, qb_4, qa_16, qb_16, qa_180, qb_180, qs_1, qs_2, qs_3, qs_4, qs_6, qs_24, nI_add, q_sub, q_pred, q_clamp, q_in, nI_leI, nI_ltI, nI_eq, ql_0, qL_0, qt_0, qT_0, qe_0, qc_0, qi_0, ql_1, qL_1, qt_1, qT_1, qe_1, qc_1, qi_1, ql_2, qL_2, qt_2, qT_2, qe_2, qc_2, qi_2, ql_3, qL_3, qt_3, qT_3, qe_3, qc_3, qi_3, ql_4, qL_4, qt_4, qT_4, qe_4, qc_4, qi_4, ql_6, qL_6, qt_6, qT_6, qe_6, qc_6, qi_6, ql_8, qL_8, qt_8, qT_8, qe_8, qc_8, qi_8, ql_10, qL_10, qt_10, qT_10, qe_10, qc_10, qi_10, ql_24, qL_24, qt_24, qT_24, qe_24, qc_24, qi_24, ql_60, qL_60, qt_60, qT_60, qe_60, qc_60, qi_60, ql_100, qL_100, qt_100, qT_100, qe_100, qc_100, qi_100, ql_200, qL_200, qt_200, qT_200, qe_200, qc_200, qi_200, ql_400, qL_400, qt_400, qT_400, qe_400, qc_400, qi_400, ql_600, qL_600, qt_600, qT_600, qe_600, qc_600, qi_600, ql_900, qL_900, qt_900, qT_900, qe_900, qc_900, qi_900, ql_1200, qL_1200, qt_1200, qT_1200, qe_1200, qc_1200, qi_1200, ql_65536, qL_65536, qt_65536, qT_65536, qe_65536, qc_65536, qi_65536, v1, v2, true_and, and_true, eq_self, forall_eq, forall_eq_apply_imp_iff]
    exact ⟨fun c => by omega, fun _ => ⟨A, B⟩⟩
  have fin : ∀ b : Int32, (if kd X Y = 8 then 0 else kd X Y) = (if b = 0 then 0 else 8 + b) → jj_WP d mX1_kindOfChange 0 0 6 [(0, .ref r), (1, .int (nI i)), (2, .ref r'), (3, .int (nI j)), (4, .int b), (5, .int (nI 3))] [] h Q := by
    intro b hb
    rw [hb] at H
    refine VX1_kindOfChange_6 _ _ _ _ _ _ ⟨fun _ => ⟨fun c => by rw [if_neg c] at H; exact H, fun c => by rw [if_pos c] at H; exact H⟩, fun c => absurd (by decide) c⟩
  have ek : kd X Y = ((8 + kb 0 (wd X 1) (wd Y 1)) + kb 1 (wd X 2) (wd Y 2)) + kb 2 (wd X 3) (wd Y 3) := rfl
  rw [ek] at fin
  unfold kb at fin
  refine step 0 0 (by decide) (fun a0 => ?_) (fun a0 => ?_)
  · refine step 1 0 (by decide) (fun a1 => ?_) (fun a1 => ?_)
    · refine step 2 0 (by decide) (fun a2 => ?_) (fun a2 => ?_)
      · exact fin _ (by rw [if_pos a0, if_pos a1, if_pos a2]; decide)
      · exact fin _ (by rw [if_pos a0, if_pos a1, if_neg a2]; decide)
    · refine step 2 _ (by decide) (fun a2 => ?_) (fun a2 => ?_)
      · exact fin _ (by rw [if_pos a0, if_neg a1, if_pos a2]; decide)
      · exact fin _ (by rw [if_pos a0, if_neg a1, if_neg a2]; decide)
  · refine step 1 _ (by decide) (fun a1 => ?_) (fun a1 => ?_)
    · refine step 2 _ (by decide) (fun a2 => ?_) (fun a2 => ?_)
      · exact fin _ (by rw [if_neg a0, if_pos a1, if_pos a2]; decide)
      · exact fin _ (by rw [if_neg a0, if_pos a1, if_neg a2]; decide)
    · refine step 2 _ (by decide) (fun a2 => ?_) (fun a2 => ?_)
      · exact fin _ (by rw [if_neg a0, if_neg a1, if_pos a2]; decide)
      · exact fin _ (by rw [if_neg a0, if_neg a1, if_neg a2]; decide)
theorem c_dadd {acc : List (Int32 × Int32)} {k v : Int32} (M : cM h x) (K : kD h x acc) (hl : acc.length < 400) (H : ∀ h', kD h' x (if v = 0 then acc else acc ++ [(k, v)]) → cF (pD x) h h' → Q (.int 0) h') : jj_C mX1_add 0 0 [.ref (x + 23), .int k, .int v] h Q := by
  have c1 := K.1
  refine EX1_add _ _ _ fun d => ⟨fun c => H h (by rw [if_pos c]; exact K) cF.rf, fun c => ?_⟩
  have c2 : jI (wI h 1000 (x + 24) acc.length k) 52 (x + 23) 0 = nI acc.length := by rw [jI_wI, if_neg (by omega)]; exact c1
  have c3 : jI (wI (wI h 1000 (x + 24) acc.length k) 1000 (x + 25) acc.length v) 52 (x + 23) 0 = nI acc.length := by rw [jI_wI, if_neg (by omega)]; exact c2
  simp (disch := omega) only [(cM_k M), (cM_r450_0 M), (cM_k1 M), (cM_n1 M), (cM_r451_0 M), (cM_k17 M), (cM_n17 M), (cM_r400_17 M), (cM_k18 M), (cM_n18 M), (cM_r452_0 M), (cM_k19 M), (cM_n19 M), (cM_r200_19 M), (cM_k20 M), (cM_n20 M), (cM_r453_0 M), (cM_k21 M), (cM_n21 M), (cM_r456_0 M), (cM_k22 M), (cM_n22 M), (cM_r458_0 M), (cM_k23 M), (cM_n23 M), (cM_r50_23 M), (cM_k24 M), (cM_n24 M), (cM_r51_23 M), (cM_k25 M), (cM_n25 M), (cM_r459_0 M), (cM_k26 M), (cM_n26 M), (cM_r102_26 M), (cM_k27 M), (cM_n27 M), (cM_r103_26 M), (cM_k28 M), (cM_n28 M), (cM_r104_26 M), (cM_k29 M), (cM_n29 M), (cM_r105_26 M), (cM_k30 M), (cM_n30 M), (cM_r300_30 M), (cM_k31 M), (cM_n31 M), (cM_r106_26 M), (cM_k32 M), (cM_n32 M), (cM_r107_26 M), (cM_k33 M), (cM_n33 M), (cM_r108_26 M), (cM_k34 M), (cM_n34 M), (cM_r460_0 M), (cM_k41 M), (cM_n41 M), (cM_r250_41 M), (cM_k42 M), (cM_n42 M), c1, c2, c3, jR_wI, qm_3, qm_4, qm_16, qm_600, qm_200, qm_8, qn_210, qn_3, qa_0, qb_0, qa_1, qb_1, qa_2, qb_2, qa_3, qb_3, qa_4, qb_4, qa_16, qb_16, qa_180, qb_180, qs_1, qs_2, qs_3, qs_4, qs_6, qs_24, nI_add, q_sub, q_pred, q_clamp, q_in, nI_leI, nI_ltI, nI_eq, ql_0, qL_0, qt_0, qT_0, qe_0, qc_0, qi_0, ql_1, qL_1, qt_1, qT_1, qe_1, qc_1, qi_1, ql_2, qL_2, qt_2, qT_2, qe_2, qc_2, qi_2, ql_3, qL_3, qt_3, qT_3, qe_3, qc_3, qi_3, ql_4, qL_4, qt_4, qT_4, qe_4, qc_4, qi_4, ql_6, qL_6, qt_6, qT_6, qe_6, qc_6, qi_6, ql_8, qL_8, qt_8, qT_8, qe_8, qc_8, qi_8, ql_10, qL_10, qt_10, qT_10, qe_10, qc_10, qi_10, ql_24, qL_24, qt_24, qT_24, qe_24, qc_24, qi_24, ql_60, qL_60, qt_60, qT_60, qe_60, qc_60, qi_60, ql_100, qL_100, qt_100, qT_100, qe_100, qc_100, qi_100, ql_200, qL_200, qt_200, qT_200, qe_200, qc_200, qi_200, ql_400, qL_400, qt_400, qT_400, qe_400, qc_400, qi_400, ql_600, qL_600, qt_600, qT_600, qe_600, qc_600, qi_600, ql_900, qL_900, qt_900, qT_900, qe_900, qc_900, qi_900, ql_1200, qL_1200, qt_1200, qT_1200, qe_1200, qc_1200, qi_1200, ql_65536, qL_65536, qt_65536, qT_65536, qe_65536, qc_65536, qi_65536, true_and, and_true, eq_self, forall_eq, forall_eq_apply_imp_iff]
  refine ⟨fun z => by omega, fun _ => ?_⟩
  refine H _ ?_ (((cF.wI (Or.inr ⟨rfl, Or.inl rfl⟩)).trans (cF.wI (P := pD x) (Or.inr ⟨rfl, Or.inr rfl⟩)) (fun _ _ _ q => q)).trans (cF.wI (P := pD x) (Or.inl ⟨rfl, rfl⟩)) (fun _ _ _ q => q))
  rw [if_neg c]
  refine ⟨?_, fun i c hc => ?_⟩
  · rw [jI_wI, if_pos ⟨rfl, rfl, rfl⟩, List.length_append]; rfl
  · have e1 : jI (wI (wI (wI h 1000 (x + 24) acc.length k) 1000 (x + 25) acc.length v) 52 (x + 23) 0 (nI (acc.length + 1))) 1000 (x + 24) i = if i = acc.length then k else jI h 1000 (x + 24) i := by
      rw [jI_wI, if_neg (by omega), jI_wI, if_neg (by omega), jI_wI]
      by_cases e : i = acc.length
      · rw [if_pos ⟨rfl, rfl, e⟩, if_pos e]
      · rw [if_neg (by omega), if_neg e]
    have e2 : jI (wI (wI (wI h 1000 (x + 24) acc.length k) 1000 (x + 25) acc.length v) 52 (x + 23) 0 (nI (acc.length + 1))) 1000 (x + 25) i = if i = acc.length then v else jI h 1000 (x + 25) i := by
      rw [jI_wI, if_neg (by omega), jI_wI]
      by_cases e : i = acc.length
      · rw [if_pos ⟨rfl, rfl, e⟩, if_pos e]
      · rw [if_neg (by omega), if_neg e, jI_wI, if_neg (by omega)]
    rw [e1, e2]
    by_cases e : i = acc.length
    · rw [List.getElem?_append_right (by omega), e, Nat.sub_self] at hc
      cases hc
      rw [if_pos e, if_pos e]
      exact ⟨rfl, rfl⟩
    · have hil := (List.getElem?_eq_some_iff.mp hc).1
      rw [List.length_append, List.length_singleton] at hil
      rw [List.getElem?_append_left (by omega)] at hc
      rw [if_neg e, if_neg e]
      exact K.2 i c hc
theorem kAt_some {i : Nat} {X : Row} (hx : l[i]? = some X) : kAt l i = Int32.toInt64 X.1 := by unfold kAt; rw [hx]
theorem kAt_none {i : Nat} (hx : l[i]? = none) : kAt l i = nth := by unfold kAt; rw [hx]
theorem drop_hd {i : Nat} {X : Row} (hx : l[i]? = some X) : l.drop i = X :: l.drop (i + 1) := by
  obtain ⟨h1, h2⟩ := List.getElem?_eq_some_iff.mp hx
  rw [List.drop_eq_getElem_cons h1, h2]
theorem k_ne (k : Int32) : Int32.toInt64 k ≠ nth := fun q => by have := lt_nth k; rw [q] at this; exact absurd this (i64_lt_irrefl _)
theorem k_inj {a b : Int32} (h : Int32.toInt64 a = Int32.toInt64 b) : a = b := by
  have := congrArg Int64.toInt32 h
  rw [Int32.toInt32_toInt64, Int32.toInt32_toInt64] at this
  exact this
theorem c_list (M : cM h x) (hz : x + 42 ≤ jZ h) (R : rwO h r w l) (R' : rwO h r' w' l') (hr : r ≤ jZ h) (hw : w ≤ jZ h) (hr' : r' ≤ jZ h) (hw' : w' ≤ jZ h) (dw : w < x + 23 ∨ x + 42 < w) (dw' : w' < x + 23 ∨ x + 42 < w') (H : ∀ h', kD h' x (difT l l') → cF (pD x) h h' → Q (.int 0) h') : jj_C mX1_list 0 0 [.ref (x + 23), .ref r, .ref r'] h Q := by
  have l1 := R.2.2.2.2.2.2.1
  have l2 := R'.2.2.2.2.2.2.1
  refine EX1_list _ _ _ fun d => ⟨cM_k23 M, ?_⟩
  rintro _ rfl
  have loop : ∀ k i j tu (h1 : jj_H) acc, i ≤ l.length → j ≤ l'.length → (l.length - i) + (l'.length - j) ≤ k → tu + k ≤ 400 → acc.length + k ≤ 400 → acc ++ dif k (l.drop i) (l'.drop j) = difT l l' → kD h1 x acc → cF (pD x) h h1 → jj_WP d mX1_list 0 0 13 [(0, .ref (x + 23)), (1, .ref r), (2, .ref r'), (3, .int (nI i)), (4, .int (nI j)), (5, .int (nI tu))] [] h1 Q := by
    intro k
    induction k with
    | zero =>
      intro i j tu h1 acc hi hj hk ht ha he K F
      have M1 : cM h1 x := M.cf F hz (fun tg a q => by
        unfold pD at q
        by_cases e : tg = 1000
        · right; right; omega
        · right; left; simp only [List.mem_cons, List.not_mem_nil, or_false]; omega)
      have R1 := R.cf F hr hw (by unfold pD; omega) (by unfold pD; omega) (by unfold pD; omega)
      have R1' := R'.cf F hr' hw' (by unfold pD; omega) (by unfold pD; omega) (by unfold pD; omega)
      have e0 : difT l l' = acc := by rw [← he, dif, List.append_nil]
      refine VX1_list_13 _ _ _ _ _ _ ?_
      simp (disch := omega) only [(cM_k M1), (cM_r450_0 M1), (cM_k1 M1), (cM_n1 M1), (cM_r451_0 M1), (cM_k17 M1), (cM_n17 M1), (cM_r400_17 M1), (cM_k18 M1), (cM_n18 M1), (cM_r452_0 M1), (cM_k19 M1), (cM_n19 M1), (cM_r200_19 M1), (cM_k20 M1), (cM_n20 M1), (cM_r453_0 M1), (cM_k21 M1), (cM_n21 M1), (cM_r456_0 M1), (cM_k22 M1), (cM_n22 M1), (cM_r458_0 M1), (cM_k23 M1), (cM_n23 M1), (cM_r50_23 M1), (cM_k24 M1), (cM_n24 M1), (cM_r51_23 M1), (cM_k25 M1), (cM_n25 M1), (cM_r459_0 M1), (cM_k26 M1), (cM_n26 M1), (cM_r102_26 M1), (cM_k27 M1), (cM_n27 M1), (cM_r103_26 M1), (cM_k28 M1), (cM_n28 M1), (cM_r104_26 M1), (cM_k29 M1), (cM_n29 M1), (cM_r105_26 M1), (cM_k30 M1), (cM_n30 M1), (cM_r300_30 M1), (cM_k31 M1), (cM_n31 M1), (cM_r106_26 M1), (cM_k32 M1), (cM_n32 M1), (cM_r107_26 M1), (cM_k33 M1), (cM_n33 M1), (cM_r108_26 M1), (cM_k34 M1), (cM_n34 M1), (cM_r460_0 M1), (cM_k41 M1), (cM_n41 M1), (cM_r250_41 M1), (cM_k42 M1), (cM_n42 M1), q_clamp, q_in, nI_leI, nI_ltI, nI_eq, ql_0, qL_0, qt_0, qT_0, qe_0, qc_0, qi_0, ql_1, qL_1, qt_1, qT_1, qe_1, qc_1, qi_1, ql_2, qL_2, qt_2, qT_2, qe_2, qc_2, qi_2, ql_3, qL_3, qt_3, qT_3, qe_3, qc_3, qi_3, ql_4, qL_4, qt_4, qT_4, qe_4, qc_4, qi_4, ql_6, qL_6, qt_6, qT_6, qe_6, qc_6, qi_6, ql_8, qL_8, qt_8, qT_8, qe_8, qc_8, qi_8, ql_10, qL_10, qt_10, qT_10, qe_10, qc_10, qi_10, ql_24, qL_24, qt_24, qT_24, qe_24, qc_24, qi_24, ql_60, qL_60, qt_60, qT_60, qe_60, qc_60, qi_60, ql_100, qL_100, qt_100, qT_100, qe_100, qc_100, qi_100, ql_200, qL_200, qt_200, qT_200, qe_200, qc_200, qi_200, ql_400, qL_400, qt_400, qT_400, qe_400, qc_400, qi_400, ql_600, qL_600, qt_600, qT_600, qe_600, qc_600, qi_600, ql_900, qL_900, qt_900, qT_900, qe_900, qc_900, qi_900, ql_1200, qL_1200, qt_1200, qT_1200, qe_1200, qc_1200, qi_1200, ql_65536, qL_65536, qt_65536, qT_65536, qe_65536, qc_65536, qi_65536, true_and, and_true, eq_self, forall_eq, forall_eq_apply_imp_iff]
      refine ⟨fun _ => H h1 (by rw [e0]; exact K) F, fun _ => ⟨R1.1, c_keyAt R1 (by omega) ⟨R1'.1, c_keyAt R1' (by omega) ?_⟩⟩⟩
      rw [kAt_none (List.getElem?_eq_none (by omega)), kAt_none (List.getElem?_eq_none (by omega))]
      exact ⟨fun c => absurd (if_neg (i64_lt_irrefl _)) c, fun _ => H h1 (by rw [e0]; exact K) F⟩
    | succ k ih =>
      intro i j tu h1 acc hi hj hk ht ha he K F
      have M1 : cM h1 x := M.cf F hz (fun tg a q => by
        unfold pD at q
        by_cases e : tg = 1000
        · right; right; omega
        · right; left; simp only [List.mem_cons, List.not_mem_nil, or_false]; omega)
      have R1 := R.cf F hr hw (by unfold pD; omega) (by unfold pD; omega) (by unfold pD; omega)
      have R1' := R'.cf F hr' hw' (by unfold pD; omega) (by unfold pD; omega) (by unfold pD; omega)
      have nx : ∀ (i' j' : Nat) (k0 v : Int32), i' ≤ l.length → j' ≤ l'.length → (l.length - i') + (l'.length - j') ≤ k → (acc ++ (if v = 0 then [] else [(k0, v)])) ++ dif k (l.drop i') (l'.drop j') = difT l l' → ∀ (b1 b2 : Int32), (b1 = 0 ∧ i' = i ∨ b1 = 1 ∧ i' = i + 1) → (b2 = 0 ∧ j' = j ∨ b2 = 1 ∧ j' = j + 1) → jj_WP d mX1_list 0 0 121 [(0, .ref (x + 23)), (1, .ref r), (2, .ref r'), (3, .int (nI i)), (4, .int (nI j)), (5, .int (nI tu)), (8, .int b1), (9, .int b2)] [.int v, .int k0, .ref (x + 23)] h1 Q := by
        intro i' j' k0 v hi' hj' hk' he' b1 b2 hb1 hb2
        refine VX1_list_121 _ _ _ _ _ _ _ _ _ _ _ ⟨cM_k23 M1, c_dadd M1 K (by omega) fun h2 K2 F2 => ?_⟩
        have go := ih i' j' (tu + 1) h2 (acc ++ (if v = 0 then [] else [(k0, v)])) hi' hj' hk' (by omega) (by rw [List.length_append]; by_cases c : v = 0 <;> simp [c] <;> omega) he' (by by_cases c : v = 0 <;> simp [c] at K2 ⊢ <;> exact K2) (F.trans F2 (fun _ _ _ q => q))
        rcases hb1 with ⟨rfl, rfl⟩ | ⟨rfl, rfl⟩ <;> rcases hb2 with ⟨rfl, rfl⟩ | ⟨rfl, rfl⟩
        · refine ⟨fun _ => ⟨fun _ => ?_, fun c => absurd rfl c⟩, fun c => absurd rfl c⟩
          rw [qa_0, qa_0, qa_1]; exact go
        · refine ⟨fun _ => ⟨fun c => absurd c (by decide), fun _ => ?_⟩, fun c => absurd rfl c⟩
          rw [qa_0, qa_1, qa_1]; exact go
        · refine ⟨fun c => absurd c (by decide), fun _ => ⟨fun _ => ?_, fun c => absurd rfl c⟩⟩
          rw [qa_0, qa_1, qa_1]; exact go
        · refine ⟨fun c => absurd c (by decide), fun _ => ⟨fun c => absurd c (by decide), fun _ => ?_⟩⟩
          rw [qa_1, qa_1, qa_1]; exact go
      refine VX1_list_13 _ _ _ _ _ _ ?_
      simp (disch := omega) only [(cM_k M1), (cM_r450_0 M1), (cM_k1 M1), (cM_n1 M1), (cM_r451_0 M1), (cM_k17 M1), (cM_n17 M1), (cM_r400_17 M1), (cM_k18 M1), (cM_n18 M1), (cM_r452_0 M1), (cM_k19 M1), (cM_n19 M1), (cM_r200_19 M1), (cM_k20 M1), (cM_n20 M1), (cM_r453_0 M1), (cM_k21 M1), (cM_n21 M1), (cM_r456_0 M1), (cM_k22 M1), (cM_n22 M1), (cM_r458_0 M1), (cM_k23 M1), (cM_n23 M1), (cM_r50_23 M1), (cM_k24 M1), (cM_n24 M1), (cM_r51_23 M1), (cM_k25 M1), (cM_n25 M1), (cM_r459_0 M1), (cM_k26 M1), (cM_n26 M1), (cM_r102_26 M1), (cM_k27 M1), (cM_n27 M1), (cM_r103_26 M1), (cM_k28 M1), (cM_n28 M1), (cM_r104_26 M1), (cM_k29 M1), (cM_n29 M1), (cM_r105_26 M1), (cM_k30 M1), (cM_n30 M1), (cM_r300_30 M1), (cM_k31 M1), (cM_n31 M1), (cM_r106_26 M1), (cM_k32 M1), (cM_n32 M1), (cM_r107_26 M1), (cM_k33 M1), (cM_n33 M1), (cM_r108_26 M1), (cM_k34 M1), (cM_n34 M1), (cM_r460_0 M1), (cM_k41 M1), (cM_n41 M1), (cM_r250_41 M1), (cM_k42 M1), (cM_n42 M1), q_clamp, q_in, nI_leI, nI_ltI, nI_eq, ql_0, qL_0, qt_0, qT_0, qe_0, qc_0, qi_0, ql_1, qL_1, qt_1, qT_1, qe_1, qc_1, qi_1, ql_2, qL_2, qt_2, qT_2, qe_2, qc_2, qi_2, ql_3, qL_3, qt_3, qT_3, qe_3, qc_3, qi_3, ql_4, qL_4, qt_4, qT_4, qe_4, qc_4, qi_4, ql_6, qL_6, qt_6, qT_6, qe_6, qc_6, qi_6, ql_8, qL_8, qt_8, qT_8, qe_8, qc_8, qi_8, ql_10, qL_10, qt_10, qT_10, qe_10, qc_10, qi_10, ql_24, qL_24, qt_24, qT_24, qe_24, qc_24, qi_24, ql_60, qL_60, qt_60, qT_60, qe_60, qc_60, qi_60, ql_100, qL_100, qt_100, qT_100, qe_100, qc_100, qi_100, ql_200, qL_200, qt_200, qT_200, qe_200, qc_200, qi_200, ql_400, qL_400, qt_400, qT_400, qe_400, qc_400, qi_400, ql_600, qL_600, qt_600, qT_600, qe_600, qc_600, qi_600, ql_900, qL_900, qt_900, qT_900, qe_900, qc_900, qi_900, ql_1200, qL_1200, qt_1200, qT_1200, qe_1200, qc_1200, qi_1200, ql_65536, qL_65536, qt_65536, qT_65536, qe_65536, qc_65536, qi_65536, true_and, and_true, eq_self, forall_eq, forall_eq_apply_imp_iff]
      refine ⟨fun c => by omega, fun _ => ⟨R1.1, c_keyAt R1 (by omega) ⟨R1'.1, c_keyAt R1' (by omega) ?_⟩⟩⟩
      cases hx : l[i]? with
      | none =>
        have hxl : l.length ≤ i := by
          rcases Nat.lt_or_ge i l.length with z | z
          · rw [List.getElem?_eq_getElem z] at hx; cases hx
          · exact z
        have d1 : l.drop i = [] := List.drop_eq_nil_of_le hxl
        cases hy : l'[j]? with
        | none =>
          have hyl : l'.length ≤ j := by
            rcases Nat.lt_or_ge j l'.length with z | z
            · rw [List.getElem?_eq_getElem z] at hy; cases hy
            · exact z
          rw [d1, List.drop_eq_nil_of_le hyl, dif, List.append_nil] at he
          rw [kAt_none hx, kAt_none hy]
          exact ⟨fun c => absurd (if_neg (i64_lt_irrefl _)) c, fun _ => H h1 (by rw [← he]; exact K) F⟩
        | some Y =>
          have hyl := (List.getElem?_eq_some_iff.mp hy).1
          rw [d1, drop_hd hy, dif] at he
          rw [kAt_none hx, kAt_some hy]
          simp only [jj_vj]
          rw [if_pos (lt_nth Y.1)]
          refine ⟨fun _ => ⟨R1.1, c_keyAt R1 (by omega) ?_⟩, fun c => absurd c (k_ne Y.1)⟩
          rw [kAt_none hx]
          refine ⟨fun _ => ⟨R1'.1, c_keyAt R1' (by omega) ?_⟩, fun c => absurd c.symm (k_ne Y.1)⟩
          rw [kAt_some hy]
          refine ⟨fun c => absurd rfl c, fun _ => ?_⟩
          refine VX1_list_84 _ _ _ _ _ _ _ _ _ ⟨fun _ => ⟨fun c => absurd c (by decide), fun _ => ?_⟩, fun c => absurd rfl c⟩
          rw [Int32.toInt32_toInt64]
          exact nx i (j + 1) Y.1 1 hi (by omega) (by omega) (by rw [d1, if_neg (by decide), List.append_assoc]; exact he) 0 1 (Or.inl ⟨rfl, rfl⟩) (Or.inr ⟨rfl, rfl⟩)
      | some X =>
        have hxl := (List.getElem?_eq_some_iff.mp hx).1
        cases hy : l'[j]? with
        | none =>
          have hyl : l'.length ≤ j := by
            rcases Nat.lt_or_ge j l'.length with z | z
            · rw [List.getElem?_eq_getElem z] at hy; cases hy
            · exact z
          have d1 : l'.drop j = [] := List.drop_eq_nil_of_le hyl
          rw [d1, drop_hd hx, dif] at he
          rw [kAt_some hx, kAt_none hy]
          simp only [jj_vj]
          rw [if_neg (fun z => i64_lt_irrefl _ (Int64.lt_trans z (lt_nth X.1)))]
          refine ⟨fun _ => ⟨R1.1, c_keyAt R1 (by omega) ?_⟩, fun c => absurd c (k_ne X.1)⟩
          rw [kAt_some hx]
          refine ⟨fun c => absurd rfl c, fun _ => ⟨R1'.1, c_keyAt R1' (by omega) ?_⟩⟩
          rw [kAt_none hy]
          refine ⟨fun _ => ?_, fun c => absurd c.symm (k_ne X.1)⟩
          refine VX1_list_84 _ _ _ _ _ _ _ _ _ ⟨fun c => absurd c (by decide), fun _ => ⟨fun _ => ⟨fun _ => ?_, fun c => absurd rfl c⟩, fun c => absurd rfl c⟩⟩
          rw [Int32.toInt32_toInt64]
          exact nx (i + 1) j X.1 2 (by omega) hj (by omega) (by rw [d1, if_neg (by decide), List.append_assoc]; exact he) 1 0 (Or.inr ⟨rfl, rfl⟩) (Or.inl ⟨rfl, rfl⟩)
        | some Y =>
          have hyl := (List.getElem?_eq_some_iff.mp hy).1
          rw [drop_hd hx, drop_hd hy, dif] at he
          rw [kAt_some hx, kAt_some hy]
          simp only [jj_vj, l_lt]
          by_cases c1 : X.1 < Y.1
          · have c1' : ¬ Y.1 < X.1 := fun z => Int32.lt_irrefl (Int32.lt_trans c1 z)
            rw [if_neg c1']
            rw [if_pos c1] at he
            refine ⟨fun _ => ⟨R1.1, c_keyAt R1 (by omega) ?_⟩, fun c => absurd c (k_ne X.1)⟩
            rw [kAt_some hx]
            refine ⟨fun c => absurd rfl c, fun _ => ⟨R1'.1, c_keyAt R1' (by omega) ?_⟩⟩
            rw [kAt_some hy]
            refine ⟨fun _ => ?_, fun c => absurd (k_inj c) (fun z => by rw [z] at c1; exact Int32.lt_irrefl c1)⟩
            refine VX1_list_84 _ _ _ _ _ _ _ _ _ ⟨fun c => absurd c (by decide), fun _ => ⟨fun _ => ⟨fun _ => ?_, fun c => absurd rfl c⟩, fun c => absurd rfl c⟩⟩
            rw [Int32.toInt32_toInt64]
            exact nx (i + 1) j X.1 2 (by omega) hj (by omega) (by rw [if_neg (by decide), List.append_assoc, drop_hd hy]; exact he) 1 0 (Or.inr ⟨rfl, rfl⟩) (Or.inl ⟨rfl, rfl⟩)
          · rw [if_neg c1] at he
            by_cases c2 : Y.1 < X.1
            · rw [if_pos c2]
              rw [if_pos c2] at he
              refine ⟨fun _ => ⟨R1.1, c_keyAt R1 (by omega) ?_⟩, fun c => absurd c (k_ne Y.1)⟩
              rw [kAt_some hx]
              refine ⟨fun _ => ⟨R1'.1, c_keyAt R1' (by omega) ?_⟩, fun c => absurd (k_inj c) (fun z => by rw [z] at c2; exact Int32.lt_irrefl c2)⟩
              rw [kAt_some hy]
              refine ⟨fun c => absurd rfl c, fun _ => ?_⟩
              refine VX1_list_84 _ _ _ _ _ _ _ _ _ ⟨fun _ => ⟨fun c => absurd c (by decide), fun _ => ?_⟩, fun c => absurd rfl c⟩
              rw [Int32.toInt32_toInt64]
              exact nx i (j + 1) Y.1 1 hi (by omega) (by omega) (by rw [if_neg (by decide), List.append_assoc, drop_hd hx]; exact he) 0 1 (Or.inl ⟨rfl, rfl⟩) (Or.inr ⟨rfl, rfl⟩)
            · rw [if_neg c2]
              rw [if_neg c2] at he
              have exy : X.1 = Y.1 := Int32.le_antisymm (Int32.not_lt.mp c2) (Int32.not_lt.mp c1)
              refine ⟨fun _ => ⟨R1.1, c_keyAt R1 (by omega) ?_⟩, fun c => absurd c (k_ne X.1)⟩
              rw [kAt_some hx]
              refine ⟨fun c => absurd rfl c, fun _ => ⟨R1'.1, c_keyAt R1' (by omega) ?_⟩⟩
              rw [kAt_some hy]
              refine ⟨fun c => absurd (by rw [exy]) c, fun _ => ?_⟩
              refine VX1_list_84 _ _ _ _ _ _ _ _ _ ⟨fun c => absurd c (by decide), fun _ => ⟨fun c => absurd c (by decide), fun _ => c_kind R1 R1' hx hy ?_⟩⟩
              rw [Int32.toInt32_toInt64]
              refine nx (i + 1) (j + 1) X.1 (if kd X Y = 8 then 0 else kd X Y) (by omega) (by omega) (by omega) ?_ 1 1 (Or.inr ⟨rfl, rfl⟩) (Or.inr ⟨rfl, rfl⟩)
              rw [List.append_assoc, ← he]
              congr 2
              by_cases c8 : kd X Y = 8
              · rw [if_pos c8, if_pos c8, if_pos rfl]
              · rw [if_neg c8, if_neg c8, if_neg]
                intro z
                have ek : kd X Y = ((8 + kb 0 X.2.1 Y.2.1) + kb 1 X.2.2.1 Y.2.2.1) + kb 2 X.2.2.2 Y.2.2.2 := rfl
                rw [ek] at z
                unfold kb at z
                revert z
                split <;> split <;> split <;> decide
  refine loop (l.length + l'.length) 0 0 0 _ [] (by omega) (by omega) (by omega) (by omega) (by simp; omega) rfl ⟨?_, fun i c hc => by cases hc⟩ (cF.wI (Or.inl ⟨rfl, rfl⟩))
  rw [jI_wI, if_pos ⟨rfl, rfl, rfl⟩]; rfl
end JX8
