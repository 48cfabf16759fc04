/-! the class: diff, conflicts -/
theorem countP_set {cf : List Cf} {j : Nat} {t : Nat} {k : Int32} (h : cf[j]? = some (t, k, true)) : (cf.set j (t, k, false)).countP (fun c => c.2.2) + 1 = cf.countP (fun c => c.2.2) := by
  obtain ⟨h1, h2⟩ := List.getElem?_eq_some_iff.mp h
  have e : cf = cf.take j ++ (t, k, true) :: cf.drop (j + 1) := by
    conv => lhs; rw [← List.take_append_drop j cf]
    congr 1
    rw [List.drop_eq_getElem_cons h1, h2]
  rw [List.set_eq_take_append_cons_drop, if_pos h1]
  conv => rhs; rw [e]
  rw [List.countP_append, List.countP_append, List.countP_cons, List.countP_cons]
  simp
  omega
section JX9
variable {h h' h1 : jj_H} {x m n t r w r' w' : Nat} {s : St} {l l' : List Row} {Q : Value → jj_H → Prop}
theorem Rc.rows {p : Nat} (R : Rc h x m s n) (hp : p < s.made ∨ p = 60) (hm : s.made ≤ 60) (ht : t < 3) : jK h (tad h x p t) = 8 ∧ tad h x p t ≠ 0 ∧ ∃ r w, jR h 350 (tad h x p t) 0 = r ∧ rwO h r w (s.T p t) ∧ r ≤ jZ h ∧ w ≤ jZ h ∧ (w < x + 17 ∨ x + 42 < w) ∧ (r < x + 17 ∨ x + 42 < r) := by
  have z := R.z
  by_cases e : p = 60
  · subst e
    unfold tad
    rw [if_pos rfl]
    have W := R.W ht
    exact ⟨W.1.1, by unfold wb; omega, _, _, W.1.2.1, W.2.2.1, by unfold kZ wb at *; omega, by unfold kZ wb at *; omega, by unfold wb; omega, by unfold wb; omega⟩
  · have hp' := hp.resolve_right e
    unfold tad
    rw [if_neg e]
    obtain ⟨P, K⟩ := R.C hp'
    obtain ⟨s1, r, w, na, st, s2, s3, s4, s5, e1, R', e2, T⟩ := K.2.2.2.2.2.2.2.2 t ht
    exact ⟨T.1, s1.nz, r, w, e1, R', s2.1.2.1, s3.1.2.1, Or.inr s3.1.1, Or.inr s2.1.1⟩
theorem x_diff {y z u : Int32} (R : Rc h x m s n) (hw : s.wf) (H : ∀ h', Rc h' x m (a_diff s y z u).2 n → xF h h' x m → Q (.int (a_diff s y z u).1) h') : jj_C mX9_diff 0 0 [.ref x, .int y, .int z, .int u] h Q := by
  refine jV_C (by decide +kernel) fun V => ?_
  have bad : ∀ v', a_diff s y z u = (v', s) → Q (.int v') h := fun v' e => by
    have := H h (by rw [e]; exact R) xF.rf
    rw [e] at this
    exact this
  have M := R.M
  have hm := hw.1.2
  refine EX9_diff _ _ _ _ fun d => ⟨cM_k M, x_tableOf R hw (fun p t hp ht => ⟨cM_k M, x_tableOf R hw (fun p' t' hp' ht' => ?_) (fun e => ?_)⟩) (fun e => ⟨cM_k M, x_tableOf R hw (fun p' t' hp' ht' => ⟨fun _ => bad _ ?_, fun c => absurd rfl c⟩) (fun e' => ⟨fun _ => bad _ ?_, fun c => absurd rfl c⟩)⟩)⟩
  · obtain ⟨_, ht3⟩ := lim_some (by decide) ht
    rw [ht] at ht'
    cases ht'
    obtain ⟨k1, nz1, r, w, e1, R1, b1, b2, b3, b4⟩ := R.rows (pAt_lt hw hp).1 hm ht3
    obtain ⟨k2, nz2, r', w', e1', R1', b1', b2', b3', b4'⟩ := R.rows (pAt_lt hw hp').1 hm ht3
    refine ⟨fun c => absurd c nz1, fun _ => ⟨fun _ => ⟨cM_k M, k1, k2, by rw [cM_r458_0 M]; exact cM_k23 M, ?_⟩, fun c => absurd c nz2⟩⟩
    rw [cM_r458_0 M, e1, e1']
    refine c_list M R.z.2.1 R1 R1' b1 b2 b1' b2' (by omega) (by omega) fun h2 K2 F2 => ?_
    have zz := R.z
    have G := R.2
    have F' : cF (qF x) h h2 := F2.mono fun tg a _ q => by unfold pD at q; exact ⟨by omega, by omega, by omega⟩
    have g := R.fld (s' := s.set5 (difT (s.T p t) (s.T p' t))) hm V F' (fun P B => B) ⟨G.1.cf F2 zz.2.1 (by unfold pD; omega) (by unfold pD; omega) (by unfold pD; omega) (by unfold pD; omega), K2, G.2.2.1.cf (s := s) F2 zz.2.1 (by unfold pD; omega) (by unfold pD; omega) (by unfold pD; omega) (by unfold pD; omega) (fun a _ _ => by unfold pD; omega) (by unfold pD; omega) (by unfold pD; omega) (by unfold pD; omega), G.2.2.2.cf (s := s) F2 zz.2.1 (by unfold pD; omega) (by unfold pD; omega) (by unfold pD; omega)⟩
    have e2 : a_diff s y z u = (nI (difT (s.T p t) (s.T p' t)).length, s.set5 (difT (s.T p t) (s.T p' t))) := by
      unfold a_diff
      rw [trAt_some hp ht, trAt_some hp' ht]
    have HH := H h2 (by rw [e2]; exact g.1) g.2
    rw [e2] at HH
    have M2 := g.1.M
    refine ⟨cM_k M2, by rw [cM_r458_0 M2]; exact cM_k23 M2, ?_⟩
    rw [cM_r458_0 M2, K2.1]
    exact HH
  · have e2 : a_diff s y z u = (-5, s) := by
      unfold a_diff
      rw [trN e]
      cases trAt s y u <;> rfl
    exact ⟨fun _ => bad _ e2, fun _ => ⟨fun c => absurd rfl c, fun _ => bad _ e2⟩⟩
  · unfold a_diff
    rw [trN e]
  · unfold a_diff
    rw [trN e]
theorem x_dhas {y : Int32} (R : Rc h x m s n) (hw : s.wf) (H1 : ∀ j, lim s.dl.length y = some j → Q (.int 1) h) (H0 : lim s.dl.length y = none → Q (.int 0) h) : jj_C mX1_has 0 0 [.ref (x + 23), .int y] h Q := by
  have hl := hw.2.2.2.2.2.2.2.2.1
  refine EX1_has _ _ fun d => ⟨fun c => H0 (lim_no1 c), fun c => ⟨cM_k23 R.M, ?_⟩⟩
  rw [R.2.2.1.1]
  exact ⟨fun c2 => H0 (lim_no2 c2), fun c2 => (lim_of (by omega) c c2).elim H1⟩
theorem x_diffKey {y : Int32} (R : Rc h x m s n) (hw : s.wf) (H : Q (.long (a_diffKey s y)) h) : jj_C mX9_diffKey 0 0 [.ref x, .int y] h Q := by
  have M := R.M
  have hl := hw.2.2.2.2.2.2.2.2.1
  refine EX9_diffKey _ _ fun d => ⟨cM_k M, by rw [cM_r458_0 M]; exact cM_k23 M, ?_⟩
  rw [cM_r458_0 M]
  refine x_dhas R hw (fun j hj => ⟨fun c => absurd c (by decide), fun _ => ?_⟩) (fun hj => ⟨fun _ => ?_, fun c => absurd rfl c⟩)
  · obtain ⟨e, hj2⟩ := lim_some (by omega) hj
    obtain ⟨c, hc⟩ : ∃ c, s.dl[j]? = some c := ⟨_, List.getElem?_eq_getElem hj2⟩
    have v := (R.2.2.1.2 j c hc).1
    unfold a_diffKey at H
    rw [hj] at H
    simp only at H
    rw [List.getD_eq_getElem?_getD, hc] at H
    rw [e]
    simp (disch := omega) only [(cM_k M), (cM_r450_0 M), (cM_k1 M), (cM_n1 M), (cM_r451_0 M), (cM_k17 M), (cM_n17 M), (cM_r400_17 M), (cM_k18 M), (cM_n18 M), (cM_r452_0 M), (cM_k19 M), (cM_n19 M), (cM_r200_19 M), (cM_k20 M), (cM_n20 M), (cM_r453_0 M), (cM_k21 M), (cM_n21 M), (cM_r456_0 M), (cM_k22 M), (cM_n22 M), (cM_r458_0 M), (cM_k23 M), (cM_n23 M), (cM_r50_23 M), (cM_k24 M), (cM_n24 M), (cM_r51_23 M), (cM_k25 M), (cM_n25 M), (cM_r459_0 M), (cM_k26 M), (cM_n26 M), (cM_r102_26 M), (cM_k27 M), (cM_n27 M), (cM_r103_26 M), (cM_k28 M), (cM_n28 M), (cM_r104_26 M), (cM_k29 M), (cM_n29 M), (cM_r105_26 M), (cM_k30 M), (cM_n30 M), (cM_r300_30 M), (cM_k31 M), (cM_n31 M), (cM_r106_26 M), (cM_k32 M), (cM_n32 M), (cM_r107_26 M), (cM_k33 M), (cM_n33 M), (cM_r108_26 M), (cM_k34 M), (cM_n34 M), (cM_r460_0 M), (cM_k41 M), (cM_n41 M), (cM_r250_41 M), (cM_k42 M), (cM_n42 M), q_clamp, q_in, nI_leI, nI_ltI, nI_eq, ql_0, qL_0, qt_0, qT_0, qe_0, qc_0, qi_0, ql_1, qL_1, qt_1, qT_1, qe_1, qc_1, qi_1, ql_2, qL_2, qt_2, qT_2, qe_2, qc_2, qi_2, ql_3, qL_3, qt_3, qT_3, qe_3, qc_3, qi_3, ql_4, qL_4, qt_4, qT_4, qe_4, qc_4, qi_4, ql_6, qL_6, qt_6, qT_6, qe_6, qc_6, qi_6, ql_8, qL_8, qt_8, qT_8, qe_8, qc_8, qi_8, ql_10, qL_10, qt_10, qT_10, qe_10, qc_10, qi_10, ql_24, qL_24, qt_24, qT_24, qe_24, qc_24, qi_24, ql_60, qL_60, qt_60, qT_60, qe_60, qc_60, qi_60, ql_100, qL_100, qt_100, qT_100, qe_100, qc_100, qi_100, ql_200, qL_200, qt_200, qT_200, qe_200, qc_200, qi_200, ql_400, qL_400, qt_400, qT_400, qe_400, qc_400, qi_400, ql_600, qL_600, qt_600, qT_600, qe_600, qc_600, qi_600, ql_900, qL_900, qt_900, qT_900, qe_900, qc_900, qi_900, ql_1200, qL_1200, qt_1200, qT_1200, qe_1200, qc_1200, qi_1200, ql_65536, qL_65536, qt_65536, qT_65536, qe_65536, qc_65536, qi_65536, v, true_and, and_true, eq_self, forall_eq, forall_eq_apply_imp_iff]
    exact H
  · unfold a_diffKey at H
    rw [hj] at H
    exact H
theorem x_diffKind {y : Int32} (R : Rc h x m s n) (hw : s.wf) (H : Q (.int (a_diffKind s y)) h) : jj_C mX9_diffKind 0 0 [.ref x, .int y] h Q := by
  have M := R.M
  have hl := hw.2.2.2.2.2.2.2.2.1
  refine EX9_diffKind _ _ fun d => ⟨cM_k M, by rw [cM_r458_0 M]; exact cM_k23 M, ?_⟩
  rw [cM_r458_0 M]
  refine x_dhas R hw (fun j hj => ⟨fun c => absurd c (by decide), fun _ => ?_⟩) (fun hj => ⟨fun _ => ?_, fun c => absurd rfl c⟩)
  · obtain ⟨e, hj2⟩ := lim_some (by omega) hj
    obtain ⟨c, hc⟩ : ∃ c, s.dl[j]? = some c := ⟨_, List.getElem?_eq_getElem hj2⟩
    have v := (R.2.2.1.2 j c hc).2
    unfold a_diffKind at H
    rw [hj] at H
    simp only at H
    rw [List.getD_eq_getElem?_getD, hc] at H
    rw [e]
    simp (disch := omega) only [(cM_k M), (cM_r450_0 M), (cM_k1 M), (cM_n1 M), (cM_r451_0 M), (cM_k17 M), (cM_n17 M), (cM_r400_17 M), (cM_k18 M), (cM_n18 M), (cM_r452_0 M), (cM_k19 M), (cM_n19 M), (cM_r200_19 M), (cM_k20 M), (cM_n20 M), (cM_r453_0 M), (cM_k21 M), (cM_n21 M), (cM_r456_0 M), (cM_k22 M), (cM_n22 M), (cM_r458_0 M), (cM_k23 M), (cM_n23 M), (cM_r50_23 M), (cM_k24 M), (cM_n24 M), (cM_r51_23 M), (cM_k25 M), (cM_n25 M), (cM_r459_0 M), (cM_k26 M), (cM_n26 M), (cM_r102_26 M), (cM_k27 M), (cM_n27 M), (cM_r103_26 M), (cM_k28 M), (cM_n28 M), (cM_r104_26 M), (cM_k29 M), (cM_n29 M), (cM_r105_26 M), (cM_k30 M), (cM_n30 M), (cM_r300_30 M), (cM_k31 M), (cM_n31 M), (cM_r106_26 M), (cM_k32 M), (cM_n32 M), (cM_r107_26 M), (cM_k33 M), (cM_n33 M), (cM_r108_26 M), (cM_k34 M), (cM_n34 M), (cM_r460_0 M), (cM_k41 M), (cM_n41 M), (cM_r250_41 M), (cM_k42 M), (cM_n42 M), q_clamp, q_in, nI_leI, nI_ltI, nI_eq, ql_0, qL_0, qt_0, qT_0, qe_0, qc_0, qi_0, ql_1, qL_1, qt_1, qT_1, qe_1, qc_1, qi_1, ql_2, qL_2, qt_2, qT_2, qe_2, qc_2, qi_2, ql_3, qL_3, qt_3, qT_3, qe_3, qc_3, qi_3, ql_4, qL_4, qt_4, qT_4, qe_4, qc_4, qi_4, ql_6, qL_6, qt_6, qT_6, qe_6, qc_6, qi_6, ql_8, qL_8, qt_8, qT_8, qe_8, qc_8, qi_8, ql_10, qL_10, qt_10, qT_10, qe_10, qc_10, qi_10, ql_24, qL_24, qt_24, qT_24, qe_24, qc_24, qi_24, ql_60, qL_60, qt_60, qT_60, qe_60, qc_60, qi_60, ql_100, qL_100, qt_100, qT_100, qe_100, qc_100, qi_100, ql_200, qL_200, qt_200, qT_200, qe_200, qc_200, qi_200, ql_400, qL_400, qt_400, qT_400, qe_400, qc_400, qi_400, ql_600, qL_600, qt_600, qT_600, qe_600, qc_600, qi_600, ql_900, qL_900, qt_900, qT_900, qe_900, qc_900, qi_900, ql_1200, qL_1200, qt_1200, qT_1200, qe_1200, qc_1200, qi_1200, ql_65536, qL_65536, qt_65536, qT_65536, qe_65536, qc_65536, qi_65536, v, true_and, and_true, eq_self, forall_eq, forall_eq_apply_imp_iff]
    exact H
  · unfold a_diffKind at H
    rw [hj] at H
    exact H
theorem x_merging (R : Rc h x m s n) (H : Q (.int (a_merging s)) h) : jj_C mX9_merging 0 0 [.ref x] h Q := by
  have M := R.M
  refine EX9_merging _ fun d => ⟨cM_k M, by rw [cM_r459_0 M]; exact cM_k26 M, ?_⟩
  rw [cM_r459_0 M, R.mg]
  refine ⟨?_, H⟩
  by_cases c : 0 < s.mg
  · rw [if_pos c]; exact Or.inr rfl
  · rw [if_neg c]; exact Or.inl rfl
theorem x_conflicts {y : Int32} (R : Rc h x m s n) (H : Q (.int (a_conflicts s y)) h) : jj_C mX9_conflicts 0 0 [.ref x, .int y] h Q := by
  have M := R.M
  have c1 := R.2.2.2.1.2.2.1.1
  have c2 := R.2.2.2.1.2.2.1.2.1
  have e0 : (y.toInt = 0) = (y = 0) := toInt_eq (k := 0) (by decide)
  have e1 : (y.toInt = 1) = (y = 1) := toInt_eq (k := 1) (by decide)
  unfold a_conflicts at H
  refine EX9_conflicts _ _ fun d => ?_
  rw [e0, e1, cM_r459_0 M, c1, c2]
  refine ⟨fun c => ⟨cM_k M, cM_k26 M, ?_⟩, fun c => ⟨fun c3 => ⟨cM_k M, cM_k26 M, ?_⟩, fun c3 => ?_⟩⟩
  · rw [if_pos c] at H; exact H
  · rw [if_neg c, if_pos c3] at H; exact H
  · rw [if_neg c, if_neg c3] at H; exact H
theorem x_has {y : Int32} (R : Rc h x m s n) (hw : s.wf) (H1 : ∀ j, lim s.cf.length y = some j → 0 < s.mg → Q (.int 1) h) (H0 : lim s.cf.length y = none → Q (.int 0) h) : jj_C mX2_has 0 0 [.ref (x + 26), .int y] h Q := by
  obtain ⟨w1, w2, w3, w4, w5⟩ := hw.2.2.2.2.2.2.2.1
  refine EX2_has _ _ fun d => ⟨cM_k26 R.M, ?_⟩
  rw [R.mg, R.2.2.2.1.2.2.1.1]
  refine ⟨fun c => H0 ?_, fun c => ⟨fun c => H0 (lim_no1 c), fun c2 => ⟨fun c3 => H0 (lim_no2 c3), fun c3 => (lim_of (by omega) c2 c3).elim fun j hj => H1 j hj (mg_1 c)⟩⟩⟩
  have e : s.cf = [] := w3 (by have := mg_0 c; omega)
  rw [e]
  cases z : lim [].length y with
  | none => rfl
  | some j => have := (lim_some (by decide) z).2; simp at this
theorem x_rowsOf {y z : Int32} (R : Rc h x m s n) (hw : s.wf) (H1 : ∀ j k, lim s.cf.length y = some j → lim 3 z = some k → 0 < s.mg → s.cft j < 3 → Q (.ref (jR h 350 (tba h x (s.vPl k) (s.cft j)) 0)) h) (H0 : (lim s.cf.length y = none ∨ lim 3 z = none) → Q (.ref 0) h) : jj_C mX2_rowsOf 0 0 [.ref (x + 26), .int y, .int z] h Q := by
  have M := R.M
  obtain ⟨w1, w2, w3, w4, w5⟩ := hw.2.2.2.2.2.2.2.1
  refine EX2_rowsOf _ _ _ fun d => ⟨cM_k26 M, x_has R hw (fun j hj hg => ⟨fun c => absurd c (by decide), fun _ => ⟨fun c => H0 (Or.inr (lim_no1 c)), fun c => ⟨fun c2 => ?_, fun c2 => H0 (Or.inr (lim_no2 (Int32.not_lt.mp c2)))⟩⟩⟩) (fun hj => ⟨fun _ => H0 (Or.inl hj), fun c => absurd rfl c⟩)⟩
  obtain ⟨k, hk⟩ := lim_of (n := 3) (by decide) c (Int32.not_le.mpr c2)
  obtain ⟨e, hk3⟩ := lim_some (by decide) hk
  obtain ⟨e2, hj2⟩ := lim_some (by omega) hj
  have ca := cf_at hj2
  have v := (R.2.2.2.1.2.2.1.2.2 j _ ca).1
  simp only at v
  have hct : s.cft j < 3 := w5 _ (List.mem_of_getElem? ca)
  have vv := (R.2.2.2.1.2.1 hg).2 k hk3
  obtain ⟨c1, c2, c3, c4, r, w, c5, c6, _⟩ := R.com (vPl_ok hw hg k) hct
  have c4' : jK h (jR h 1000 (jR h 3 (cad h x (s.vPl k)) 0) (s.cft j)) = 8 := c4
  have := H1 j k hj hk hg hct
  rw [e, e2]
  simp (disch := omega) only [(cM_k M), (cM_r450_0 M), (cM_k1 M), (cM_n1 M), (cM_r451_0 M), (cM_k17 M), (cM_n17 M), (cM_r400_17 M), (cM_k18 M), (cM_n18 M), (cM_r452_0 M), (cM_k19 M), (cM_n19 M), (cM_r200_19 M), (cM_k20 M), (cM_n20 M), (cM_r453_0 M), (cM_k21 M), (cM_n21 M), (cM_r456_0 M), (cM_k22 M), (cM_n22 M), (cM_r458_0 M), (cM_k23 M), (cM_n23 M), (cM_r50_23 M), (cM_k24 M), (cM_n24 M), (cM_r51_23 M), (cM_k25 M), (cM_n25 M), (cM_r459_0 M), (cM_k26 M), (cM_n26 M), (cM_r102_26 M), (cM_k27 M), (cM_n27 M), (cM_r103_26 M), (cM_k28 M), (cM_n28 M), (cM_r104_26 M), (cM_k29 M), (cM_n29 M), (cM_r105_26 M), (cM_k30 M), (cM_n30 M), (cM_r300_30 M), (cM_k31 M), (cM_n31 M), (cM_r106_26 M), (cM_k32 M), (cM_n32 M), (cM_r107_26 M), (cM_k33 M), (cM_n33 M), (cM_r108_26 M), (cM_k34 M), (cM_n34 M), (cM_r460_0 M), (cM_k41 M), (cM_n41 M), (cM_r250_41 M), (cM_k42 M), (cM_n42 M), q_clamp, q_in, nI_leI, nI_ltI, nI_eq, ql_0, qL_0, qt_0, qT_0, qe_0, qc_0, qi_0, ql_1, qL_1, qt_1, qT_1, qe_1, qc_1, qi_1, ql_2, qL_2, qt_2, qT_2, qe_2, qc_2, qi_2, ql_3, qL_3, qt_3, qT_3, qe_3, qc_3, qi_3, ql_4, qL_4, qt_4, qT_4, qe_4, qc_4, qi_4, ql_6, qL_6, qt_6, qT_6, qe_6, qc_6, qi_6, ql_8, qL_8, qt_8, qT_8, qe_8, qc_8, qi_8, ql_10, qL_10, qt_10, qT_10, qe_10, qc_10, qi_10, ql_24, qL_24, qt_24, qT_24, qe_24, qc_24, qi_24, ql_60, qL_60, qt_60, qT_60, qe_60, qc_60, qi_60, ql_100, qL_100, qt_100, qT_100, qe_100, qc_100, qi_100, ql_200, qL_200, qt_200, qT_200, qe_200, qc_200, qi_200, ql_400, qL_400, qt_400, qT_400, qe_400, qc_400, qi_400, ql_600, qL_600, qt_600, qT_600, qe_600, qc_600, qi_600, ql_900, qL_900, qt_900, qT_900, qe_900, qc_900, qi_900, ql_1200, qL_1200, qt_1200, qT_1200, qe_1200, qc_1200, qi_1200, ql_65536, qL_65536, qt_65536, qT_65536, qe_65536, qc_65536, qi_65536, v, vv, c1, c2, c3, c4', true_and, and_true, eq_self, forall_eq, forall_eq_apply_imp_iff]
  exact this
theorem x_conflict {y z : Int32} (R : Rc h x m s n) (hw : s.wf) (H : Q (.long (a_conflict s y z)) h) : jj_C mX9_conflict 0 0 [.ref x, .int y, .int z] h Q := by
  have M := R.M
  obtain ⟨w1, w2, w3, w4, w5⟩ := hw.2.2.2.2.2.2.2.1
  refine EX9_conflict _ _ _ fun d => ⟨cM_k M, by rw [cM_r459_0 M]; exact cM_k26 M, ?_⟩
  rw [cM_r459_0 M]
  unfold a_conflict at H
  refine x_has R hw (fun j hj hg => ⟨fun _ => ?_, fun c => absurd c (by decide)⟩) (fun hj => ⟨fun c => absurd rfl c, fun _ => by rw [hj] at H; exact H⟩)
  rw [hj] at H
  simp only at H
  obtain ⟨e2, hj2⟩ := lim_some (by omega) hj
  have ca := cf_at hj2
  obtain ⟨v1, v2, v3⟩ := R.2.2.2.1.2.2.1.2.2 j _ ca
  simp only at v1 v2 v3
  have e0 : (z.toInt = 0) = (z = 0) := toInt_eq (k := 0) (by decide)
  have e1 : (z.toInt = 1) = (z = 1) := toInt_eq (k := 1) (by decide)
  have e3 : (z.toInt = 2) = (z = 2) := toInt_eq (k := 2) (by decide)
  rw [e2]
  simp (disch := omega) only [(cM_k M), (cM_r450_0 M), (cM_k1 M), (cM_n1 M), (cM_r451_0 M), (cM_k17 M), (cM_n17 M), (cM_r400_17 M), (cM_k18 M), (cM_n18 M), (cM_r452_0 M), (cM_k19 M), (cM_n19 M), (cM_r200_19 M), (cM_k20 M), (cM_n20 M), (cM_r453_0 M), (cM_k21 M), (cM_n21 M), (cM_r456_0 M), (cM_k22 M), (cM_n22 M), (cM_r458_0 M), (cM_k23 M), (cM_n23 M), (cM_r50_23 M), (cM_k24 M), (cM_n24 M), (cM_r51_23 M), (cM_k25 M), (cM_n25 M), (cM_r459_0 M), (cM_k26 M), (cM_n26 M), (cM_r102_26 M), (cM_k27 M), (cM_n27 M), (cM_r103_26 M), (cM_k28 M), (cM_n28 M), (cM_r104_26 M), (cM_k29 M), (cM_n29 M), (cM_r105_26 M), (cM_k30 M), (cM_n30 M), (cM_r300_30 M), (cM_k31 M), (cM_n31 M), (cM_r106_26 M), (cM_k32 M), (cM_n32 M), (cM_r107_26 M), (cM_k33 M), (cM_n33 M), (cM_r108_26 M), (cM_k34 M), (cM_n34 M), (cM_r460_0 M), (cM_k41 M), (cM_n41 M), (cM_r250_41 M), (cM_k42 M), (cM_n42 M), q_clamp, q_in, nI_leI, nI_ltI, nI_eq, ql_0, qL_0, qt_0, qT_0, qe_0, qc_0, qi_0, ql_1, qL_1, qt_1, qT_1, qe_1, qc_1, qi_1, ql_2, qL_2, qt_2, qT_2, qe_2, qc_2, qi_2, ql_3, qL_3, qt_3, qT_3, qe_3, qc_3, qi_3, ql_4, qL_4, qt_4, qT_4, qe_4, qc_4, qi_4, ql_6, qL_6, qt_6, qT_6, qe_6, qc_6, qi_6, ql_8, qL_8, qt_8, qT_8, qe_8, qc_8, qi_8, ql_10, qL_10, qt_10, qT_10, qe_10, qc_10, qi_10, ql_24, qL_24, qt_24, qT_24, qe_24, qc_24, qi_24, ql_60, qL_60, qt_60, qT_60, qe_60, qc_60, qi_60, ql_100, qL_100, qt_100, qT_100, qe_100, qc_100, qi_100, ql_200, qL_200, qt_200, qT_200, qe_200, qc_200, qi_200, ql_400, qL_400, qt_400, qT_400, qe_400, qc_400, qi_400, ql_600, qL_600, qt_600, qT_600, qe_600, qc_600, qi_600, ql_900, qL_900, qt_900, qT_900, qe_900, qc_900, qi_900, ql_1200, qL_1200, qt_1200, qT_1200, qe_1200, qc_1200, qi_1200, ql_65536, qL_65536, qt_65536, qT_65536, qe_65536, qc_65536, qi_65536, v1, v2, v3, e0, e1, e3, true_and, and_true, eq_self, forall_eq, forall_eq_apply_imp_iff]
  by_cases z0 : z = 0
  · subst z0
    rw [if_pos rfl] at H
    exact ⟨⟨fun _ => H, fun c => absurd c (by decide), fun c => absurd c (by decide)⟩, fun c => absurd c (by decide)⟩
  · rw [if_neg z0] at H
    by_cases z1 : z = 1
    · subst z1
      rw [if_pos rfl] at H
      exact ⟨⟨fun c => absurd c (by decide), fun _ => H, fun c => absurd c (by decide)⟩, fun c => absurd c (by decide)⟩
    · rw [if_neg z1] at H
      by_cases z2 : z = 2
      · subst z2
        rw [if_pos rfl] at H
        refine ⟨⟨fun c => absurd c (by decide), fun c => absurd c (by decide), fun _ => ⟨fun c => ?_, fun c => ?_⟩⟩, fun c => absurd c (by decide)⟩
        · cases q : s.cfo j with
          | false => have q' : (s.cf.getD j (0, 0, false)).2.2 = false := q; rw [q'] at H; exact H
          | true => rw [q, if_pos rfl] at c; exact absurd c (by decide)
        · cases q : s.cfo j with
          | false => rw [q] at c; exact absurd rfl c
          | true => have q' : (s.cf.getD j (0, 0, false)).2.2 = true := q; rw [q'] at H; exact H
      · rw [if_neg z2] at H
        exact ⟨⟨fun c => absurd c z0, fun c => absurd c z1, fun c => absurd c z2⟩, fun _ => H⟩
theorem x_version {y z u : Int32} (R : Rc h x m s n) (hw : s.wf) (H : Q (.long (a_version s y z u)) h) : jj_C mX9_version 0 0 [.ref x, .int y, .int z, .int u] h Q := by
  have M := R.M
  obtain ⟨w1, w2, w3, w4, w5⟩ := hw.2.2.2.2.2.2.2.1
  refine EX9_version _ _ _ _ fun d => ⟨cM_k M, by rw [cM_r459_0 M]; exact cM_k26 M, ?_⟩
  rw [cM_r459_0 M]
  unfold a_version at H
  refine x_rowsOf R hw (fun j k hj hk hg hct => ?_) (fun e => ⟨fun c => absurd rfl c, fun _ => ?_⟩)
  · obtain ⟨c1, c2, c3, c4, r, w, c5, c6, c7, c8, _⟩ := R.com (vPl_ok hw hg k) hct
    obtain ⟨e2, hj2⟩ := lim_some (by omega) hj
    have ca := cf_at hj2
    have v2 := (R.2.2.2.1.2.2.1.2.2 j _ ca).2.1
    simp only at v2
    have hs := (hw.2.1 (s.vPl k) (s.cft j) (Or.inl (vPl_ok hw hg k)) hct).1
    rw [c5]
    refine ⟨fun _ => ?_, fun c => by omega⟩
    rw [e2]
    simp (disch := omega) only [(cM_k M), (cM_r450_0 M), (cM_k1 M), (cM_n1 M), (cM_r451_0 M), (cM_k17 M), (cM_n17 M), (cM_r400_17 M), (cM_k18 M), (cM_n18 M), (cM_r452_0 M), (cM_k19 M), (cM_n19 M), (cM_r200_19 M), (cM_k20 M), (cM_n20 M), (cM_r453_0 M), (cM_k21 M), (cM_n21 M), (cM_r456_0 M), (cM_k22 M), (cM_n22 M), (cM_r458_0 M), (cM_k23 M), (cM_n23 M), (cM_r50_23 M), (cM_k24 M), (cM_n24 M), (cM_r51_23 M), (cM_k25 M), (cM_n25 M), (cM_r459_0 M), (cM_k26 M), (cM_n26 M), (cM_r102_26 M), (cM_k27 M), (cM_n27 M), (cM_r103_26 M), (cM_k28 M), (cM_n28 M), (cM_r104_26 M), (cM_k29 M), (cM_n29 M), (cM_r105_26 M), (cM_k30 M), (cM_n30 M), (cM_r300_30 M), (cM_k31 M), (cM_n31 M), (cM_r106_26 M), (cM_k32 M), (cM_n32 M), (cM_r107_26 M), (cM_k33 M), (cM_n33 M), (cM_r108_26 M), (cM_k34 M), (cM_n34 M), (cM_r460_0 M), (cM_k41 M), (cM_n41 M), (cM_r250_41 M), (cM_k42 M), (cM_n42 M), q_clamp, q_in, nI_leI, nI_ltI, nI_eq, ql_0, qL_0, qt_0, qT_0, qe_0, qc_0, qi_0, ql_1, qL_1, qt_1, qT_1, qe_1, qc_1, qi_1, ql_2, qL_2, qt_2, qT_2, qe_2, qc_2, qi_2, ql_3, qL_3, qt_3, qT_3, qe_3, qc_3, qi_3, ql_4, qL_4, qt_4, qT_4, qe_4, qc_4, qi_4, ql_6, qL_6, qt_6, qT_6, qe_6, qc_6, qi_6, ql_8, qL_8, qt_8, qT_8, qe_8, qc_8, qi_8, ql_10, qL_10, qt_10, qT_10, qe_10, qc_10, qi_10, ql_24, qL_24, qt_24, qT_24, qe_24, qc_24, qi_24, ql_60, qL_60, qt_60, qT_60, qe_60, qc_60, qi_60, ql_100, qL_100, qt_100, qT_100, qe_100, qc_100, qi_100, ql_200, qL_200, qt_200, qT_200, qe_200, qc_200, qi_200, ql_400, qL_400, qt_400, qT_400, qe_400, qc_400, qi_400, ql_600, qL_600, qt_600, qT_600, qe_600, qc_600, qi_600, ql_900, qL_900, qt_900, qT_900, qe_900, qc_900, qi_900, ql_1200, qL_1200, qt_1200, qT_1200, qe_1200, qc_1200, qi_1200, ql_65536, qL_65536, qt_65536, qT_65536, qe_65536, qc_65536, qi_65536, v2, true_and, and_true, eq_self, forall_eq, forall_eq_apply_imp_iff]
    refine ⟨c6.1, c_columnOf c6 hs ?_⟩
    rw [hj, hk] at H
    cases hu : lim 3 u with
    | none => rw [hu] at H; exact H
    | some q =>
      rw [hu] at H
      exact H
  · rcases e with e | e
    · rw [e] at H; exact H
    · rw [e] at H
      cases e3 : lim s.cf.length y with
      | none => rw [e3] at H; exact H
      | some j => rw [e3] at H; exact H
theorem Rc.row2 (R : Rc h x m s n) (hm : s.made ≤ 60) (V : jj_V h) (ht : t < 3) (F2 : wFr h h' (wb x t + 1) (wb x t + 2)) (R2 : rwO h' (wb x t + 1) (wb x t + 2) l) : Rc (wI h' 354 (wb x t) 0 1) x m (s.wk t l) n ∧ xF h (wI h' 354 (wb x t) 0 1) x m := by
  have F3 : wFr (wI h 354 (wb x t) 0 1) (wI h' 354 (wb x t) 0 1) (wb x t + 1) (wb x t + 2) := by
    refine ⟨F2.1, fun tg a i p q => ?_⟩
    rw [jI_wI, jI_wI]
    by_cases c : tg = 354 ∧ a = wb x t ∧ i = 0
    · rw [if_pos c, if_pos c]
    · rw [if_neg c, if_neg c]; exact F2.2 tg a i p q
  have R3 : rwO (wI h' 354 (wb x t) 0 1) (wb x t + 1) (wb x t + 2) l := by
    obtain ⟨z1, z2, z3, z4, z5, z6, z7, z8⟩ := R2
    exact ⟨z1, z2, z3, z4, z5, by rw [jI_wI, if_neg (by omega)]; exact z6, z7, fun i x c hx hc => by rw [jI_wI, if_neg (by omega)]; exact z8 i x c hx hc⟩
  exact R.row hm V ht F3 R3
theorem x_closeC {j : Nat} (R : Rc h x m s n) (hm : s.made ≤ 60) (hg : 0 < s.mg) (hl : s.cf.length ≤ 900) (hj : j < s.cf.length) (H : ∀ h', Rc h' x m (s.cls j) n → xF h h' x m → Q (.int (if s.cfo j then 1 else 0)) h') : jj_C mX2_closeConflict 0 0 [.ref (x + 26), .int (nI j)] h Q := by
  refine jV_C (by decide +kernel) fun V => ?_
  have M := R.M
  have z := R.z
  have G := R.2
  have ca := cf_at hj
  have v3 := (G.2.2.1.2.2.1.2.2 j _ ca).2.2
  simp only at v3
  have e1 : jI h 109 (x + 26) 0 = nI s.cf.length := G.2.2.1.2.2.1.1
  have hmg : jI h 100 (x + 26) 0 = 1 := by rw [R.mg, if_pos hg]
  refine EX2_closeConflict _ _ fun d => ⟨cM_k26 M, EX2_has _ _ fun d2 => ⟨cM_k26 M, ?_⟩⟩
  rw [hmg, e1, qt_0 (by omega), nI_leI (by omega) (by omega)]
  refine ⟨fun c => absurd c (by decide), fun _ => ⟨fun c => by omega, fun _ => ⟨fun c => by omega, fun _ => ⟨fun c => absurd c (by decide), fun _ => ?_⟩⟩⟩⟩
  simp (disch := omega) only [(cM_k M), (cM_r450_0 M), (cM_k1 M), (cM_n1 M), (cM_r451_0 M), (cM_k17 M), (cM_n17 M), (cM_r400_17 M), (cM_k18 M), (cM_n18 M), (cM_r452_0 M), (cM_k19 M), (cM_n19 M), (cM_r200_19 M), (cM_k20 M), (cM_n20 M), (cM_r453_0 M), (cM_k21 M), (cM_n21 M), (cM_r456_0 M), (cM_k22 M), (cM_n22 M), (cM_r458_0 M), (cM_k23 M), (cM_n23 M), (cM_r50_23 M), (cM_k24 M), (cM_n24 M), (cM_r51_23 M), (cM_k25 M), (cM_n25 M), (cM_r459_0 M), (cM_k26 M), (cM_n26 M), (cM_r102_26 M), (cM_k27 M), (cM_n27 M), (cM_r103_26 M), (cM_k28 M), (cM_n28 M), (cM_r104_26 M), (cM_k29 M), (cM_n29 M), (cM_r105_26 M), (cM_k30 M), (cM_n30 M), (cM_r300_30 M), (cM_k31 M), (cM_n31 M), (cM_r106_26 M), (cM_k32 M), (cM_n32 M), (cM_r107_26 M), (cM_k33 M), (cM_n33 M), (cM_r108_26 M), (cM_k34 M), (cM_n34 M), (cM_r460_0 M), (cM_k41 M), (cM_n41 M), (cM_r250_41 M), (cM_k42 M), (cM_n42 M), q_clamp, q_in, nI_leI, nI_ltI, nI_eq, ql_0, qL_0, qt_0, qT_0, qe_0, qc_0, qi_0, ql_1, qL_1, qt_1, qT_1, qe_1, qc_1, qi_1, ql_2, qL_2, qt_2, qT_2, qe_2, qc_2, qi_2, ql_3, qL_3, qt_3, qT_3, qe_3, qc_3, qi_3, ql_4, qL_4, qt_4, qT_4, qe_4, qc_4, qi_4, ql_6, qL_6, qt_6, qT_6, qe_6, qc_6, qi_6, ql_8, qL_8, qt_8, qT_8, qe_8, qc_8, qi_8, ql_10, qL_10, qt_10, qT_10, qe_10, qc_10, qi_10, ql_24, qL_24, qt_24, qT_24, qe_24, qc_24, qi_24, ql_60, qL_60, qt_60, qT_60, qe_60, qc_60, qi_60, ql_100, qL_100, qt_100, qT_100, qe_100, qc_100, qi_100, ql_200, qL_200, qt_200, qT_200, qe_200, qc_200, qi_200, ql_400, qL_400, qt_400, qT_400, qe_400, qc_400, qi_400, ql_600, qL_600, qt_600, qT_600, qe_600, qc_600, qi_600, ql_900, qL_900, qt_900, qT_900, qe_900, qc_900, qi_900, ql_1200, qL_1200, qt_1200, qT_1200, qe_1200, qc_1200, qi_1200, ql_65536, qL_65536, qt_65536, qT_65536, qe_65536, qc_65536, qi_65536, v3, true_and, and_true, eq_self, forall_eq, forall_eq_apply_imp_iff]
  have same : s.cfo j = false → s.cls j = s := by
    intro q
    have e : s.cf.set j ((s.cf.getD j (0, 0, false)).1, (s.cf.getD j (0, 0, false)).2.1, false) = s.cf := by
      have : ((s.cf.getD j (0, 0, false)).1, (s.cf.getD j (0, 0, false)).2.1, false) = s.cf[j] := by
        rw [q] at ca
        have := List.getElem?_eq_getElem hj
        rw [this] at ca
        exact (Option.some.inj ca).symm
      rw [this, List.set_getElem_self]
    unfold St.cls
    rw [e]
    rfl
  refine ⟨fun c => ?_, fun c => ?_⟩
  · have q : s.cfo j = true := by
      cases q : s.cfo j with
      | true => rfl
      | false => rw [q] at c; exact absurd rfl c
    rw [q] at ca
    have e2 : jI (wI h 1000 (x + 34) j 0) 110 (x + 26) 0 = nI (s.cf.countP (fun c => c.2.2)) := by rw [jI_wI, if_neg (by omega)]; exact G.2.2.1.2.2.1.2.1
    rw [e2]
    have cp := countP_set ca
    have F : cF (fun tg a => (tg = 1000 ∧ a = x + 34) ∨ (tg = 110 ∧ a = x + 26)) h (wI (wI h 1000 (x + 34) j 0) 110 (x + 26) 0 (nI (s.cf.countP (fun c => c.2.2)) - 1)) := (cF.wI (Or.inl ⟨rfl, rfl⟩)).trans (cF.wI (P := fun tg a => (tg = 1000 ∧ a = x + 34) ∨ (tg = 110 ∧ a = x + 26)) (Or.inr ⟨rfl, rfl⟩)) (fun _ _ _ q => q)
    have F' : cF (qF x) h (wI (wI h 1000 (x + 34) j 0) 110 (x + 26) 0 (nI (s.cf.countP (fun c => c.2.2)) - 1)) := F.mono fun tg a _ q => ⟨by omega, by omega, by omega⟩
    have g := R.fld (s' := s.cls j) hm V F' (fun P B => B) ⟨G.1.cf F z.2.1 (by omega) (by omega) (by omega) (by omega), G.2.1.cf F z.2.1 (by omega) (by omega) (by omega), ⟨?_, fun q => ?_, ⟨?_, ?_, fun i c hc => ?_⟩, ?_⟩, G.2.2.2.cf (s := s) F z.2.1 (by omega) (by omega) (by omega)⟩
    · have HH := H _ g.1 g.2
      rw [q] at HH
      exact HH
    · have := z.2.1
      exact (F.ei (tg := 100) (a := x + 26) (by omega) (by omega)).trans G.2.2.1.1
    · have := z.2.1
      refine ⟨(F.ei (tg := 101) (a := x + 26) (by omega) (by omega)).trans (G.2.2.1.2.1 hg).1, fun k hk => ?_⟩
      unfold cad
      rw [F.er (tg := 1000) (a := x + 27) (by omega) (by omega), F.er (tg := 1000) (a := x + 21) (by omega) (by omega)]
      exact (G.2.2.1.2.1 hg).2 k hk
    · have := z.2.1
      rw [F.ei (tg := 109) (a := x + 26) (by omega) (by omega)]
      show _ = nI (s.cf.set j _).length
      rw [List.length_set]
      exact e1
    · rw [jI_wI, if_pos ⟨rfl, rfl, rfl⟩]
      show _ = nI ((s.cf.set j (s.cft j, s.cfk j, false)).countP (fun c => c.2.2))
      have cp2 : (s.cf.set j (s.cft j, s.cfk j, false)).countP (fun c => c.2.2) + 1 = s.cf.countP (fun c => c.2.2) := cp
      rw [← cp2, qs_1 (by omega)]
      rfl
    · have hc' : (s.cf.set j (s.cft j, s.cfk j, false))[i]? = some c := hc
      have := z.2.1
      rw [F.ei (tg := 1000) (a := x + 32) (by omega) (by omega), F.ei (tg := 1000) (a := x + 33) (by omega) (by omega), jI_wI, if_neg (by omega), jI_wI]
      rw [List.getElem?_set] at hc'
      by_cases e : j = i
      · subst e
        rw [if_pos rfl, if_pos hj] at hc'
        cases hc'
        obtain ⟨u1, u2, u3⟩ := G.2.2.1.2.2.1.2.2 j _ ca
        rw [if_pos ⟨rfl, rfl, rfl⟩]
        exact ⟨u1, u2, rfl⟩
      · rw [if_neg e] at hc'
        rw [if_neg (by omega)]
        exact G.2.2.1.2.2.1.2.2 i c hc'
    · have := z.2.1
      exact (F.ei (tg := 301) (a := x + 30) (by omega) (by omega)).trans G.2.2.1.2.2.2
  · have q : s.cfo j = false := by
      cases q : s.cfo j with
      | false => rfl
      | true => rw [q, if_pos rfl] at c; exact absurd c (by decide)
    have HH := H h (by rw [same q]; exact R) xF.rf
    rw [q] at HH
    exact HH
theorem x_settle {y z : Int32} (R : Rc h x m s n) (hw : s.wf) (H : ∀ h', Rc h' x m (a_settle s y z).2 n → xF h h' x m → Q (.int (a_settle s y z).1) h') : jj_C mX9_settle 0 0 [.ref x, .int y, .int z] h Q := by
  refine jV_C (by decide +kernel) fun V => ?_
  have bad : ∀ v', a_settle s y z = (v', s) → Q (.int v') h := fun v' e => by
    have := H h (by rw [e]; exact R) xF.rf
    rw [e] at this
    exact this
  have M := R.M
  obtain ⟨w1, w2, w3, w4, w5⟩ := hw.2.2.2.2.2.2.2.1
  refine EX9_settle _ _ _ fun d => ⟨cM_k M, by rw [cM_r459_0 M]; exact cM_k26 M, ?_⟩
  rw [cM_r459_0 M]
  refine x_rowsOf R hw (fun j k hj hk hg hct => ?_) (fun e => ⟨fun c => absurd rfl c, fun _ => bad _ ?_⟩)
  · obtain ⟨c1, c2, c3, c4, r, w, c5, c6, c7, c8, _⟩ := R.com (vPl_ok hw hg k) hct
    obtain ⟨e2, hj2⟩ := lim_some (by omega) hj
    have ca := cf_at hj2
    obtain ⟨v1, v2, v3⟩ := R.2.2.2.1.2.2.1.2.2 j _ ca
    simp only at v1 v2
    have hs' := hw.2.1 (s.vPl k) (s.cft j) (Or.inl (vPl_ok hw hg k)) hct
    have hs := hw.2.1 60 (s.cft j) (Or.inr rfl) hct
    have W := R.W hct
    have wt := R.wt hct
    have k1 := W.1.1
    have r1 := W.1.2.1
    have k2 := W.1.2.2.2.2.1
    have n8 := W.1.2.2.2.2.2.2.2.1
    rw [c5]
    refine ⟨fun _ => ?_, fun c => by omega⟩
    have ev : s.vRow j k = lk (s.T (s.vPl k) (s.cft j)) (s.cfk j) := rfl
    rw [e2]
    simp (disch := omega) only [(cM_k M), (cM_r450_0 M), (cM_k1 M), (cM_n1 M), (cM_r451_0 M), (cM_k17 M), (cM_n17 M), (cM_r400_17 M), (cM_k18 M), (cM_n18 M), (cM_r452_0 M), (cM_k19 M), (cM_n19 M), (cM_r200_19 M), (cM_k20 M), (cM_n20 M), (cM_r453_0 M), (cM_k21 M), (cM_n21 M), (cM_r456_0 M), (cM_k22 M), (cM_n22 M), (cM_r458_0 M), (cM_k23 M), (cM_n23 M), (cM_r50_23 M), (cM_k24 M), (cM_n24 M), (cM_r51_23 M), (cM_k25 M), (cM_n25 M), (cM_r459_0 M), (cM_k26 M), (cM_n26 M), (cM_r102_26 M), (cM_k27 M), (cM_n27 M), (cM_r103_26 M), (cM_k28 M), (cM_n28 M), (cM_r104_26 M), (cM_k29 M), (cM_n29 M), (cM_r105_26 M), (cM_k30 M), (cM_n30 M), (cM_r300_30 M), (cM_k31 M), (cM_n31 M), (cM_r106_26 M), (cM_k32 M), (cM_n32 M), (cM_r107_26 M), (cM_k33 M), (cM_n33 M), (cM_r108_26 M), (cM_k34 M), (cM_n34 M), (cM_r460_0 M), (cM_k41 M), (cM_n41 M), (cM_r250_41 M), (cM_k42 M), (cM_n42 M), q_clamp, q_in, nI_leI, nI_ltI, nI_eq, ql_0, qL_0, qt_0, qT_0, qe_0, qc_0, qi_0, ql_1, qL_1, qt_1, qT_1, qe_1, qc_1, qi_1, ql_2, qL_2, qt_2, qT_2, qe_2, qc_2, qi_2, ql_3, qL_3, qt_3, qT_3, qe_3, qc_3, qi_3, ql_4, qL_4, qt_4, qT_4, qe_4, qc_4, qi_4, ql_6, qL_6, qt_6, qT_6, qe_6, qc_6, qi_6, ql_8, qL_8, qt_8, qT_8, qe_8, qc_8, qi_8, ql_10, qL_10, qt_10, qT_10, qe_10, qc_10, qi_10, ql_24, qL_24, qt_24, qT_24, qe_24, qc_24, qi_24, ql_60, qL_60, qt_60, qT_60, qe_60, qc_60, qi_60, ql_100, qL_100, qt_100, qT_100, qe_100, qc_100, qi_100, ql_200, qL_200, qt_200, qT_200, qe_200, qc_200, qi_200, ql_400, qL_400, qt_400, qT_400, qe_400, qc_400, qi_400, ql_600, qL_600, qt_600, qT_600, qe_600, qc_600, qi_600, ql_900, qL_900, qt_900, qT_900, qe_900, qc_900, qi_900, ql_1200, qL_1200, qt_1200, qT_1200, qe_1200, qc_1200, qi_1200, ql_65536, qL_65536, qt_65536, qT_65536, qe_65536, qc_65536, qi_65536, v1, v2, wt, k1, r1, k2, true_and, and_true, eq_self, forall_eq, forall_eq_apply_imp_iff]
    refine c_takeRow n8 W.2.2.1 hs.1 c6 hs'.1 (fun h2 l2 hl2 R2 F2 => ?_) (fun hsm hfull => ⟨fun c => absurd rfl c, fun _ => bad _ ?_⟩)
    · have g := R.row2 hw.1.2 V hct F2 R2
      have kk : jK h2 (wb x (s.cft j)) = 8 := by unfold jK at *; rw [F2.1]; exact k1
      refine ⟨fun _ => ⟨kk, ?_⟩, fun c => absurd c (by decide)⟩
      have M2 := g.1.M
      refine ⟨by unfold jK at *; rw [F2.1]; exact cM_k M, ?_⟩
      have e459 : jR (wI h2 354 (wb x (s.cft j)) 0 1) 459 x 0 = x + 26 := cM_r459_0 M2
      rw [e459]
      refine ⟨cM_k26 M2, x_closeC g.1 hw.1.2 hg w4 hj2 fun h3 R3 F3 => ?_⟩
      have e3 : a_settle s y z = (if s.cfo j then 1 else 0, (s.wk (s.cft j) l2).cls j) := by
        simp only [a_settle, hj, hk, ev]
        cases q : lk (s.T (s.vPl k) (s.cft j)) (s.cfk j) with
        | none => rw [q] at hl2; simp only at hl2 ⊢; rw [hl2]
        | some X =>
          rw [q] at hl2
          simp only at hl2 ⊢
          rw [if_neg hl2.1, hl2.2]
      have HH := H h3 (by rw [e3]; exact R3) (g.2.trans F3)
      rw [e3] at HH
      show ((if s.cfo j then (1 : Int32) else 0) = 0 → Q (.int 0) h3) ∧ (¬ (if s.cfo j then (1 : Int32) else 0) = 0 → Q (.int 1) h3)
      cases q : s.cfo j with
      | true => rw [q] at HH; exact ⟨fun c => absurd c (by decide), fun _ => HH⟩
      | false => rw [q] at HH; exact ⟨fun _ => HH, fun c => absurd rfl c⟩
    · simp only [a_settle, hj, hk, ev]
      cases q : lk (s.T (s.vPl k) (s.cft j)) (s.cfk j) with
      | none => rw [q] at hsm; cases hsm
      | some X => simp only; rw [if_pos hfull]
  · unfold a_settle
    rcases e with e | e
    · rw [e]
    · rw [e]
      cases lim s.cf.length y <;> rfl
end JX9
