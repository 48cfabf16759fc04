/-! the class: branches, commits looked at -/
theorem St.wk3_wk (s : St) (f : Nat → List Row) (i : Nat) (l : List Row) : (s.wk3 f).wk i l = s.wk3 (fun u => if u = i then l else f u) := by
  unfold St.wk St.wk3 St.set1
  congr 1
  funext p u
  by_cases h1 : p = 60
  · subst h1
    by_cases h2 : u = i
    · simp [h2, St.T]
    · simp [h2, St.T]
  · simp [h1, St.T]
section JX7
variable {h h' h1 : jj_H} {x m n t : Nat} {s : St} {l : List Row} {Q : Value → jj_H → Prop}
theorem x_loadWork (R : Rc h x m s n) (hw : s.wf) (H : ∀ h', Rc h' x m (s.wk3 (s.T (s.hN s.hand))) n → xF h h' x m → Q (.int 0) h') : jj_C mX9_loadWork 0 0 [.ref x] h Q := by
  have hm := hw.1.2
  have hh := hand_ok hw
  refine EX9_loadWork _ fun d => ⟨cM_k R.M, x_headAtHand R hw ?_⟩
  clear hw
  generalize s.hN s.hand = c at *
  have hc : c < s.made := hh.2.1
  have loop : ∀ q i (h1 : jj_H), i + q = 3 → Rc h1 x m (s.wk3 (fun u => if u < i then s.T c u else s.T 60 u)) n → xF h h1 x m → cad h1 x c = cad h x c → jj_WP d mX9_loadWork 0 0 7 [(0, .ref x), (1, .ref (cad h x c)), (2, .int (nI i))] [] h1 Q := by
    intro q
    induction q with
    | zero =>
      intro i h1 hi R1 F1 e1
      have e3 : i = 3 := by omega
      subst e3
      refine VX9_loadWork_7 _ _ _ ⟨fun _ => H h1 ?_ F1, fun c => absurd (by decide) c⟩
      -- tables above the third are in no one's eye
      obtain ⟨⟨P, B⟩, G⟩ := R1
      refine ⟨⟨P, B.1, B.2.1, ⟨fun t ht => ?_, B.2.2.1.2⟩, B.2.2.2.1, fun c' hc' => ?_, ?_⟩, ?_⟩
      · have := B.2.2.1.1 t ht
        rw [St.wk3_60] at this ⊢
        simp only [if_pos ht] at this
        exact this
      · have hc'' : c' < s.made := hc'
        have := B.2.2.2.2.1 c' hc'
        unfold kC at this ⊢
        rw [St.wk3_T (by omega)] at this ⊢
        exact this
      · refine ⟨B.2.2.2.2.2.1, fun β hβ p hp => ?_⟩
        have := B.2.2.2.2.2.2 β hβ p hp
        rw [thS_wk3 hm] at this ⊢
        exact this
      · refine ⟨G.1, G.2.1, G.2.2.1, G.2.2.2.1, ?_, G.2.2.2.2.2⟩
        have g := G.2.2.2.2.1
        have ee : ∀ ls, (s.wk3 ls).D s.thr = s.D s.thr := fun ls => D_ext fun p hp _ => St.wk3_T hp
        have g' : jI h1 252 (x + 41) 0 = nI ((s.wk3 (fun u => if u < 3 then s.T c u else s.T 60 u)).D s.thr) := g
        show _ = nI ((s.wk3 (s.T c)).D s.thr)
        rw [ee] at g' ⊢
        exact g'
    | succ q ih =>
      intro i h1 hi R1 F1 e1
      have hi3 : i < 3 := by omega
      have M := R1.M
      have W := R1.W hi3
      have wt := R1.wt hi3
      have k1 := W.1.1
      obtain ⟨c1, c2, c3, c4, r, w, c5, c6, c7, c8, c9, c10, _⟩ := R1.com (c := c) hc hi3
      rw [e1] at c1 c2 c3
      have c4' : jK h1 (jR h1 1000 (jR h1 3 (cad h x c) 0) i) = 8 := by rw [← e1]; exact c4
      have c5' : jR h1 350 (jR h1 1000 (jR h1 3 (cad h x c) 0) i) 0 = r := by rw [← e1]; exact c5
      rw [St.wk3_T (by omega)] at c6
      refine VX9_loadWork_7 _ _ _ ?_
      simp (disch := omega) only [(cM_k M), (cM_r450_0 M), (cM_k1 M), (cM_n1 M), (cM_r451_0 M), (cM_k17 M), (cM_n17 M), (cM_r400_17 M), (cM_k18 M), (cM_n18 M), (cM_r452_0 M), (cM_k19 M), (cM_n19 M), (cM_r200_19 M), (cM_k20 M), (cM_n20 M), (cM_r453_0 M), (cM_k21 M), (cM_n21 M), (cM_r456_0 M), (cM_k22 M), (cM_n22 M), (cM_r458_0 M), (cM_k23 M), (cM_n23 M), (cM_r50_23 M), (cM_k24 M), (cM_n24 M), (cM_r51_23 M), (cM_k25 M), (cM_n25 M), (cM_r459_0 M), (cM_k26 M), (cM_n26 M), (cM_r102_26 M), (cM_k27 M), (cM_n27 M), (cM_r103_26 M), (cM_k28 M), (cM_n28 M), (cM_r104_26 M), (cM_k29 M), (cM_n29 M), (cM_r105_26 M), (cM_k30 M), (cM_n30 M), (cM_r300_30 M), (cM_k31 M), (cM_n31 M), (cM_r106_26 M), (cM_k32 M), (cM_n32 M), (cM_r107_26 M), (cM_k33 M), (cM_n33 M), (cM_r108_26 M), (cM_k34 M), (cM_n34 M), (cM_r460_0 M), (cM_k41 M), (cM_n41 M), (cM_r250_41 M), (cM_k42 M), (cM_n42 M), q_clamp, q_in, nI_leI, nI_ltI, nI_eq, ql_0, qL_0, qt_0, qT_0, qe_0, qc_0, qi_0, ql_1, qL_1, qt_1, qT_1, qe_1, qc_1, qi_1, ql_2, qL_2, qt_2, qT_2, qe_2, qc_2, qi_2, ql_3, qL_3, qt_3, qT_3, qe_3, qc_3, qi_3, ql_4, qL_4, qt_4, qT_4, qe_4, qc_4, qi_4, ql_6, qL_6, qt_6, qT_6, qe_6, qc_6, qi_6, ql_8, qL_8, qt_8, qT_8, qe_8, qc_8, qi_8, ql_10, qL_10, qt_10, qT_10, qe_10, qc_10, qi_10, ql_24, qL_24, qt_24, qT_24, qe_24, qc_24, qi_24, ql_60, qL_60, qt_60, qT_60, qe_60, qc_60, qi_60, ql_100, qL_100, qt_100, qT_100, qe_100, qc_100, qi_100, ql_200, qL_200, qt_200, qT_200, qe_200, qc_200, qi_200, ql_400, qL_400, qt_400, qT_400, qe_400, qc_400, qi_400, ql_600, qL_600, qt_600, qT_600, qe_600, qc_600, qi_600, ql_900, qL_900, qt_900, qT_900, qe_900, qc_900, qi_900, ql_1200, qL_1200, qt_1200, qT_1200, qe_1200, qc_1200, qi_1200, ql_65536, qL_65536, qt_65536, qT_65536, qe_65536, qc_65536, qi_65536, wt, k1, c1, c2, c3, c4', c5', true_and, and_true, eq_self, forall_eq, forall_eq_apply_imp_iff]
      refine ⟨fun c => by omega, fun _ => x_become R1 hm hi3 c6 (by omega) (by omega) fun h2 R2 F2 G2 => ?_⟩
      rw [qa_1]
      refine ih (i + 1) h2 (by omega) ?_ (F1.trans F2) ?_
      · rw [St.wk3_wk] at R2
        have : (fun u => if u = i then s.T c i else if u < i then s.T c u else s.T 60 u) = (fun u => if u < i + 1 then s.T c u else s.T 60 u) := by
          funext u
          by_cases e : u = i
          · subst e; simp
          · by_cases e2 : u < i
            · rw [if_neg e, if_pos e2, if_pos (by omega)]
            · rw [if_neg e, if_neg e2, if_neg (by omega)]
        rw [this] at R2
        exact R2
      · rw [← e1]
        unfold cad
        exact G2.er (by have := R1.z.2.1; omega) (fun q => by unfold pW wb at q; omega)
  refine loop 3 0 h (by omega) ?_ xF.rf rfl
  have : (fun u => if u < 0 then s.T c u else s.T 60 u) = s.T 60 := by funext u; rw [if_neg (by omega)]
  rw [this, St.wk3_self]
  exact R
theorem x_open {y : Int32} (R : Rc h x m s n) (hw : s.wf) (H : ∀ h', Rc h' x m (a_open s y).2 n → xF h h' x m → Q (.int (a_open s y).1) h') : jj_C mX9_open 0 0 [.ref x, .int y] h Q := by
  refine jV_C (by decide +kernel) fun V => ?_
  have bad : ∀ v', a_open s y = (v', s) → Q (.int v') h := fun v' e => by
    have := H h (by rw [e]; exact R) xF.rf
    rw [e] at this
    exact this
  have M := R.M
  have hmg := R.mg
  refine EX9_open _ _ fun d => x_isBranch (fun b hb => ?_) (fun hb => ⟨fun c => absurd rfl c, fun _ => bad _ (by simp only [a_open, hb])⟩)
  obtain ⟨e, hb6⟩ := lim_some (by decide) hb
  obtain ⟨o1, o2, o3⟩ := hand_ok hw
  have i1 : jI h 457 x 0 = nI s.hand := R.2.1.2.2.2
  have i2 : jI h 1000 (x + 22) s.hand = s.hd s.hand := R.2.1.2.2.1 s.hand o3
  refine ⟨fun _ => ?_, fun c => absurd c (by decide)⟩
  simp (disch := omega) only [(cM_k M), (cM_r450_0 M), (cM_k1 M), (cM_n1 M), (cM_r451_0 M), (cM_k17 M), (cM_n17 M), (cM_r400_17 M), (cM_k18 M), (cM_n18 M), (cM_r452_0 M), (cM_k19 M), (cM_n19 M), (cM_r200_19 M), (cM_k20 M), (cM_n20 M), (cM_r453_0 M), (cM_k21 M), (cM_n21 M), (cM_r456_0 M), (cM_k22 M), (cM_n22 M), (cM_r458_0 M), (cM_k23 M), (cM_n23 M), (cM_r50_23 M), (cM_k24 M), (cM_n24 M), (cM_r51_23 M), (cM_k25 M), (cM_n25 M), (cM_r459_0 M), (cM_k26 M), (cM_n26 M), (cM_r102_26 M), (cM_k27 M), (cM_n27 M), (cM_r103_26 M), (cM_k28 M), (cM_n28 M), (cM_r104_26 M), (cM_k29 M), (cM_n29 M), (cM_r105_26 M), (cM_k30 M), (cM_n30 M), (cM_r300_30 M), (cM_k31 M), (cM_n31 M), (cM_r106_26 M), (cM_k32 M), (cM_n32 M), (cM_r107_26 M), (cM_k33 M), (cM_n33 M), (cM_r108_26 M), (cM_k34 M), (cM_n34 M), (cM_r460_0 M), (cM_k41 M), (cM_n41 M), (cM_r250_41 M), (cM_k42 M), (cM_n42 M), q_clamp, q_in, nI_leI, nI_ltI, nI_eq, ql_0, qL_0, qt_0, qT_0, qe_0, qc_0, qi_0, ql_1, qL_1, qt_1, qT_1, qe_1, qc_1, qi_1, ql_2, qL_2, qt_2, qT_2, qe_2, qc_2, qi_2, ql_3, qL_3, qt_3, qT_3, qe_3, qc_3, qi_3, ql_4, qL_4, qt_4, qT_4, qe_4, qc_4, qi_4, ql_6, qL_6, qt_6, qT_6, qe_6, qc_6, qi_6, ql_8, qL_8, qt_8, qT_8, qe_8, qc_8, qi_8, ql_10, qL_10, qt_10, qT_10, qe_10, qc_10, qi_10, ql_24, qL_24, qt_24, qT_24, qe_24, qc_24, qi_24, ql_60, qL_60, qt_60, qT_60, qe_60, qc_60, qi_60, ql_100, qL_100, qt_100, qT_100, qe_100, qc_100, qi_100, ql_200, qL_200, qt_200, qT_200, qe_200, qc_200, qi_200, ql_400, qL_400, qt_400, qT_400, qe_400, qc_400, qi_400, ql_600, qL_600, qt_600, qT_600, qe_600, qc_600, qi_600, ql_900, qL_900, qt_900, qT_900, qe_900, qc_900, qi_900, ql_1200, qL_1200, qt_1200, qT_1200, qe_1200, qc_1200, qi_1200, ql_65536, qL_65536, qt_65536, qT_65536, qe_65536, qc_65536, qi_65536, hmg, true_and, and_true, eq_self, forall_eq, forall_eq_apply_imp_iff]
  refine ⟨fun c => ?_, fun c => bad _ (by simp only [a_open, hb, if_pos (mg_1 c)])⟩
  have hg := mg_0 c
  refine x_isHere R (fun b' hb' => ⟨fun c => absurd c (by decide), fun _ => bad _ ?_⟩) (fun hb' => ⟨fun _ => ?_, fun c => absurd rfl c⟩)
  · obtain ⟨_, _, q1, _⟩ := bAt_some hw hb'
    unfold bAt at hb'
    rw [hb] at hb'
    simp only at hb'
    split at hb'
    · cases hb'
    · next q => cases hb'; simp only [a_open, hb, if_neg hg, if_neg q]
  · have hd : s.hd b = -1 := by
      unfold bAt at hb'
      rw [hb] at hb'
      simp only at hb'
      split at hb'
      · next q => exact q
      · cases hb'
    rw [e]
    simp (disch := omega) only [(cM_k M), (cM_r450_0 M), (cM_k1 M), (cM_n1 M), (cM_r451_0 M), (cM_k17 M), (cM_n17 M), (cM_r400_17 M), (cM_k18 M), (cM_n18 M), (cM_r452_0 M), (cM_k19 M), (cM_n19 M), (cM_r200_19 M), (cM_k20 M), (cM_n20 M), (cM_r453_0 M), (cM_k21 M), (cM_n21 M), (cM_r456_0 M), (cM_k22 M), (cM_n22 M), (cM_r458_0 M), (cM_k23 M), (cM_n23 M), (cM_r50_23 M), (cM_k24 M), (cM_n24 M), (cM_r51_23 M), (cM_k25 M), (cM_n25 M), (cM_r459_0 M), (cM_k26 M), (cM_n26 M), (cM_r102_26 M), (cM_k27 M), (cM_n27 M), (cM_r103_26 M), (cM_k28 M), (cM_n28 M), (cM_r104_26 M), (cM_k29 M), (cM_n29 M), (cM_r105_26 M), (cM_k30 M), (cM_n30 M), (cM_r300_30 M), (cM_k31 M), (cM_n31 M), (cM_r106_26 M), (cM_k32 M), (cM_n32 M), (cM_r107_26 M), (cM_k33 M), (cM_n33 M), (cM_r108_26 M), (cM_k34 M), (cM_n34 M), (cM_r460_0 M), (cM_k41 M), (cM_n41 M), (cM_r250_41 M), (cM_k42 M), (cM_n42 M), q_clamp, q_in, nI_leI, nI_ltI, nI_eq, ql_0, qL_0, qt_0, qT_0, qe_0, qc_0, qi_0, ql_1, qL_1, qt_1, qT_1, qe_1, qc_1, qi_1, ql_2, qL_2, qt_2, qT_2, qe_2, qc_2, qi_2, ql_3, qL_3, qt_3, qT_3, qe_3, qc_3, qi_3, ql_4, qL_4, qt_4, qT_4, qe_4, qc_4, qi_4, ql_6, qL_6, qt_6, qT_6, qe_6, qc_6, qi_6, ql_8, qL_8, qt_8, qT_8, qe_8, qc_8, qi_8, ql_10, qL_10, qt_10, qT_10, qe_10, qc_10, qi_10, ql_24, qL_24, qt_24, qT_24, qe_24, qc_24, qi_24, ql_60, qL_60, qt_60, qT_60, qe_60, qc_60, qi_60, ql_100, qL_100, qt_100, qT_100, qe_100, qc_100, qi_100, ql_200, qL_200, qt_200, qT_200, qe_200, qc_200, qi_200, ql_400, qL_400, qt_400, qT_400, qe_400, qc_400, qi_400, ql_600, qL_600, qt_600, qT_600, qe_600, qc_600, qi_600, ql_900, qL_900, qt_900, qT_900, qe_900, qc_900, qi_900, ql_1200, qL_1200, qt_1200, qT_1200, qe_1200, qc_1200, qi_1200, ql_65536, qL_65536, qt_65536, qT_65536, qe_65536, qc_65536, qi_65536, i1, i2, jR_wI, true_and, and_true, eq_self, forall_eq, forall_eq_apply_imp_iff]
    have g := R.head (b := b) (v := s.hd s.hand) hw.1.2 V (fun z => absurd z hg)
    have e2 : a_open s y = (s.hd s.hand, s.sh b (s.hd s.hand)) := by simp only [a_open, hb, if_neg hg, if_pos hd]
    have HH := H _ (by rw [e2]; exact g.1) g.2
    rw [e2] at HH
    rw [jI_wI, if_pos ⟨rfl, rfl, rfl⟩]
    exact HH
theorem x_head {y : Int32} (R : Rc h x m s n) (hw : s.wf) (H : Q (.int (a_head s y)) h) : jj_C mX9_head 0 0 [.ref x, .int y] h Q := by
  have M := R.M
  refine EX9_head _ _ fun d => ⟨cM_k M, x_isHere R (fun b hb => ⟨fun c => absurd c (by decide), fun _ => ?_⟩) (fun hb => ⟨fun _ => ?_, fun c => absurd rfl c⟩)⟩
  · obtain ⟨e, hb6, _⟩ := bAt_some hw hb
    have i2 : jI h 1000 (x + 22) b = s.hd b := R.2.1.2.2.1 b hb6
    unfold a_head at H
    rw [hb] at H
    rw [e]
    simp (disch := omega) only [(cM_k M), (cM_r450_0 M), (cM_k1 M), (cM_n1 M), (cM_r451_0 M), (cM_k17 M), (cM_n17 M), (cM_r400_17 M), (cM_k18 M), (cM_n18 M), (cM_r452_0 M), (cM_k19 M), (cM_n19 M), (cM_r200_19 M), (cM_k20 M), (cM_n20 M), (cM_r453_0 M), (cM_k21 M), (cM_n21 M), (cM_r456_0 M), (cM_k22 M), (cM_n22 M), (cM_r458_0 M), (cM_k23 M), (cM_n23 M), (cM_r50_23 M), (cM_k24 M), (cM_n24 M), (cM_r51_23 M), (cM_k25 M), (cM_n25 M), (cM_r459_0 M), (cM_k26 M), (cM_n26 M), (cM_r102_26 M), (cM_k27 M), (cM_n27 M), (cM_r103_26 M), (cM_k28 M), (cM_n28 M), (cM_r104_26 M), (cM_k29 M), (cM_n29 M), (cM_r105_26 M), (cM_k30 M), (cM_n30 M), (cM_r300_30 M), (cM_k31 M), (cM_n31 M), (cM_r106_26 M), (cM_k32 M), (cM_n32 M), (cM_r107_26 M), (cM_k33 M), (cM_n33 M), (cM_r108_26 M), (cM_k34 M), (cM_n34 M), (cM_r460_0 M), (cM_k41 M), (cM_n41 M), (cM_r250_41 M), (cM_k42 M), (cM_n42 M), q_clamp, q_in, nI_leI, nI_ltI, nI_eq, ql_0, qL_0, qt_0, qT_0, qe_0, qc_0, qi_0, ql_1, qL_1, qt_1, qT_1, qe_1, qc_1, qi_1, ql_2, qL_2, qt_2, qT_2, qe_2, qc_2, qi_2, ql_3, qL_3, qt_3, qT_3, qe_3, qc_3, qi_3, ql_4, qL_4, qt_4, qT_4, qe_4, qc_4, qi_4, ql_6, qL_6, qt_6, qT_6, qe_6, qc_6, qi_6, ql_8, qL_8, qt_8, qT_8, qe_8, qc_8, qi_8, ql_10, qL_10, qt_10, qT_10, qe_10, qc_10, qi_10, ql_24, qL_24, qt_24, qT_24, qe_24, qc_24, qi_24, ql_60, qL_60, qt_60, qT_60, qe_60, qc_60, qi_60, ql_100, qL_100, qt_100, qT_100, qe_100, qc_100, qi_100, ql_200, qL_200, qt_200, qT_200, qe_200, qc_200, qi_200, ql_400, qL_400, qt_400, qT_400, qe_400, qc_400, qi_400, ql_600, qL_600, qt_600, qT_600, qe_600, qc_600, qi_600, ql_900, qL_900, qt_900, qT_900, qe_900, qc_900, qi_900, ql_1200, qL_1200, qt_1200, qT_1200, qe_1200, qc_1200, qi_1200, ql_65536, qL_65536, qt_65536, qT_65536, qe_65536, qc_65536, qi_65536, i2, true_and, and_true, eq_self, forall_eq, forall_eq_apply_imp_iff]
    exact H
  · unfold a_head at H
    rw [hb] at H
    exact H
theorem x_close {y : Int32} (R : Rc h x m s n) (hw : s.wf) (H : ∀ h', Rc h' x m (a_close s y).2 n → xF h h' x m → Q (.int (a_close s y).1) h') : jj_C mX9_close 0 0 [.ref x, .int y] h Q := by
  refine jV_C (by decide +kernel) fun V => ?_
  have bad : ∀ v', a_close s y = (v', s) → Q (.int v') h := fun v' e => by
    have := H h (by rw [e]; exact R) xF.rf
    rw [e] at this
    exact this
  have M := R.M
  obtain ⟨o1, o2, o3⟩ := hand_ok hw
  have i1 : jI h 457 x 0 = nI s.hand := R.2.1.2.2.2
  refine EX9_close _ _ fun d => ⟨cM_k M, x_isHere R (fun b hb => ⟨fun c => absurd c (by decide), fun _ => ⟨cM_k M, ?_⟩⟩) (fun hb => ⟨fun _ => bad _ (by simp only [a_close, hb]), fun c => absurd rfl c⟩)⟩
  obtain ⟨e, hb6, _⟩ := bAt_some hw hb
  have i2 : jI h 1000 (x + 22) b = s.hd b := R.2.1.2.2.1 b hb6
  rw [e] at hb ⊢
  simp (disch := omega) only [(cM_k M), (cM_r450_0 M), (cM_k1 M), (cM_n1 M), (cM_r451_0 M), (cM_k17 M), (cM_n17 M), (cM_r400_17 M), (cM_k18 M), (cM_n18 M), (cM_r452_0 M), (cM_k19 M), (cM_n19 M), (cM_r200_19 M), (cM_k20 M), (cM_n20 M), (cM_r453_0 M), (cM_k21 M), (cM_n21 M), (cM_r456_0 M), (cM_k22 M), (cM_n22 M), (cM_r458_0 M), (cM_k23 M), (cM_n23 M), (cM_r50_23 M), (cM_k24 M), (cM_n24 M), (cM_r51_23 M), (cM_k25 M), (cM_n25 M), (cM_r459_0 M), (cM_k26 M), (cM_n26 M), (cM_r102_26 M), (cM_k27 M), (cM_n27 M), (cM_r103_26 M), (cM_k28 M), (cM_n28 M), (cM_r104_26 M), (cM_k29 M), (cM_n29 M), (cM_r105_26 M), (cM_k30 M), (cM_n30 M), (cM_r300_30 M), (cM_k31 M), (cM_n31 M), (cM_r106_26 M), (cM_k32 M), (cM_n32 M), (cM_r107_26 M), (cM_k33 M), (cM_n33 M), (cM_r108_26 M), (cM_k34 M), (cM_n34 M), (cM_r460_0 M), (cM_k41 M), (cM_n41 M), (cM_r250_41 M), (cM_k42 M), (cM_n42 M), q_clamp, q_in, nI_leI, nI_ltI, nI_eq, ql_0, qL_0, qt_0, qT_0, qe_0, qc_0, qi_0, ql_1, qL_1, qt_1, qT_1, qe_1, qc_1, qi_1, ql_2, qL_2, qt_2, qT_2, qe_2, qc_2, qi_2, ql_3, qL_3, qt_3, qT_3, qe_3, qc_3, qi_3, ql_4, qL_4, qt_4, qT_4, qe_4, qc_4, qi_4, ql_6, qL_6, qt_6, qT_6, qe_6, qc_6, qi_6, ql_8, qL_8, qt_8, qT_8, qe_8, qc_8, qi_8, ql_10, qL_10, qt_10, qT_10, qe_10, qc_10, qi_10, ql_24, qL_24, qt_24, qT_24, qe_24, qc_24, qi_24, ql_60, qL_60, qt_60, qT_60, qe_60, qc_60, qi_60, ql_100, qL_100, qt_100, qT_100, qe_100, qc_100, qi_100, ql_200, qL_200, qt_200, qT_200, qe_200, qc_200, qi_200, ql_400, qL_400, qt_400, qT_400, qe_400, qc_400, qi_400, ql_600, qL_600, qt_600, qT_600, qe_600, qc_600, qi_600, ql_900, qL_900, qt_900, qT_900, qe_900, qc_900, qi_900, ql_1200, qL_1200, qt_1200, qT_1200, qe_1200, qc_1200, qi_1200, ql_65536, qL_65536, qt_65536, qT_65536, qe_65536, qc_65536, qi_65536, i1, i2, true_and, and_true, eq_self, forall_eq, forall_eq_apply_imp_iff]
  refine ⟨fun c => ?_, fun c => bad _ (by rw [e]; simp only [a_close, hb, if_pos c])⟩
  have g := R.head (b := b) (v := -1) hw.1.2 V (fun _ => c)
  have e2 : a_close s y = (s.hd b, s.sh b (-1)) := by rw [e]; simp only [a_close, hb, if_neg c]
  have HH := H _ (by rw [e2]; exact g.1) g.2
  rw [e2] at HH
  exact HH
theorem x_go {y : Int32} (R : Rc h x m s n) (hw : s.wf) (H : ∀ h', Rc h' x m (a_go s y).2 n → xF h h' x m → Q (.int (a_go s y).1) h') : jj_C mX9_go 0 0 [.ref x, .int y] h Q := by
  refine jV_C (by decide +kernel) fun V => ?_
  have bad : ∀ v', a_go s y = (v', s) → Q (.int v') h := fun v' e => by
    have := H h (by rw [e]; exact R) xF.rf
    rw [e] at this
    exact this
  have M := R.M
  have hmg := R.mg
  refine EX9_go _ _ fun d => ⟨cM_k M, x_isHere R (fun b hb => ⟨fun _ => ?_, fun c => absurd c (by decide)⟩) (fun hb => ⟨fun c => absurd rfl c, fun _ => bad _ (by simp only [a_go, hb])⟩)⟩
  obtain ⟨e, hb6, o1, o2, o3, _⟩ := bAt_some hw hb
  simp (disch := omega) only [(cM_k M), (cM_r450_0 M), (cM_k1 M), (cM_n1 M), (cM_r451_0 M), (cM_k17 M), (cM_n17 M), (cM_r400_17 M), (cM_k18 M), (cM_n18 M), (cM_r452_0 M), (cM_k19 M), (cM_n19 M), (cM_r200_19 M), (cM_k20 M), (cM_n20 M), (cM_r453_0 M), (cM_k21 M), (cM_n21 M), (cM_r456_0 M), (cM_k22 M), (cM_n22 M), (cM_r458_0 M), (cM_k23 M), (cM_n23 M), (cM_r50_23 M), (cM_k24 M), (cM_n24 M), (cM_r51_23 M), (cM_k25 M), (cM_n25 M), (cM_r459_0 M), (cM_k26 M), (cM_n26 M), (cM_r102_26 M), (cM_k27 M), (cM_n27 M), (cM_r103_26 M), (cM_k28 M), (cM_n28 M), (cM_r104_26 M), (cM_k29 M), (cM_n29 M), (cM_r105_26 M), (cM_k30 M), (cM_n30 M), (cM_r300_30 M), (cM_k31 M), (cM_n31 M), (cM_r106_26 M), (cM_k32 M), (cM_n32 M), (cM_r107_26 M), (cM_k33 M), (cM_n33 M), (cM_r108_26 M), (cM_k34 M), (cM_n34 M), (cM_r460_0 M), (cM_k41 M), (cM_n41 M), (cM_r250_41 M), (cM_k42 M), (cM_n42 M), q_clamp, q_in, nI_leI, nI_ltI, nI_eq, ql_0, qL_0, qt_0, qT_0, qe_0, qc_0, qi_0, ql_1, qL_1, qt_1, qT_1, qe_1, qc_1, qi_1, ql_2, qL_2, qt_2, qT_2, qe_2, qc_2, qi_2, ql_3, qL_3, qt_3, qT_3, qe_3, qc_3, qi_3, ql_4, qL_4, qt_4, qT_4, qe_4, qc_4, qi_4, ql_6, qL_6, qt_6, qT_6, qe_6, qc_6, qi_6, ql_8, qL_8, qt_8, qT_8, qe_8, qc_8, qi_8, ql_10, qL_10, qt_10, qT_10, qe_10, qc_10, qi_10, ql_24, qL_24, qt_24, qT_24, qe_24, qc_24, qi_24, ql_60, qL_60, qt_60, qT_60, qe_60, qc_60, qi_60, ql_100, qL_100, qt_100, qT_100, qe_100, qc_100, qi_100, ql_200, qL_200, qt_200, qT_200, qe_200, qc_200, qi_200, ql_400, qL_400, qt_400, qT_400, qe_400, qc_400, qi_400, ql_600, qL_600, qt_600, qT_600, qe_600, qc_600, qi_600, ql_900, qL_900, qt_900, qT_900, qe_900, qc_900, qi_900, ql_1200, qL_1200, qt_1200, qT_1200, qe_1200, qc_1200, qi_1200, ql_65536, qL_65536, qt_65536, qT_65536, qe_65536, qc_65536, qi_65536, hmg, true_and, and_true, eq_self, forall_eq, forall_eq_apply_imp_iff]
  refine ⟨fun c => ?_, fun c => bad _ (by simp only [a_go, hb, if_pos (mg_1 c)])⟩
  have hg := mg_0 c
  refine x_isClean R hw (fun hc => ⟨fun _ => ⟨cM_k M, ?_⟩, fun c => absurd c (by decide)⟩) (fun hc => ⟨fun c => absurd rfl c, fun _ => bad _ (by simp only [a_go, hb, if_neg hg, hc]; rfl)⟩)
  have g := R.hnd (b := b) hw.1.2 V hg
  rw [e]
  refine x_loadWork g.1 (hand_wf hw hb6 o1) fun h2 R2 F2 => ?_
  have e2 : a_go s y = (s.hd b, (s.set3 (s.hd, b)).wk3 (s.T (s.hN b))) := by simp only [a_go, hb, if_neg hg, hc]; rfl
  have HH := H h2 (by rw [e2]; exact R2) (g.2.trans F2)
  rw [e2] at HH
  have M2 := R2.M
  have i2 : jI h2 1000 (x + 22) b = s.hd b := R2.2.1.2.2.1 b hb6
  simp (disch := omega) only [(cM_k M2), (cM_r450_0 M2), (cM_k1 M2), (cM_n1 M2), (cM_r451_0 M2), (cM_k17 M2), (cM_n17 M2), (cM_r400_17 M2), (cM_k18 M2), (cM_n18 M2), (cM_r452_0 M2), (cM_k19 M2), (cM_n19 M2), (cM_r200_19 M2), (cM_k20 M2), (cM_n20 M2), (cM_r453_0 M2), (cM_k21 M2), (cM_n21 M2), (cM_r456_0 M2), (cM_k22 M2), (cM_n22 M2), (cM_r458_0 M2), (cM_k23 M2), (cM_n23 M2), (cM_r50_23 M2), (cM_k24 M2), (cM_n24 M2), (cM_r51_23 M2), (cM_k25 M2), (cM_n25 M2), (cM_r459_0 M2), (cM_k26 M2), (cM_n26 M2), (cM_r102_26 M2), (cM_k27 M2), (cM_n27 M2), (cM_r103_26 M2), (cM_k28 M2), (cM_n28 M2), (cM_r104_26 M2), (cM_k29 M2), (cM_n29 M2), (cM_r105_26 M2), (cM_k30 M2), (cM_n30 M2), (cM_r300_30 M2), (cM_k31 M2), (cM_n31 M2), (cM_r106_26 M2), (cM_k32 M2), (cM_n32 M2), (cM_r107_26 M2), (cM_k33 M2), (cM_n33 M2), (cM_r108_26 M2), (cM_k34 M2), (cM_n34 M2), (cM_r460_0 M2), (cM_k41 M2), (cM_n41 M2), (cM_r250_41 M2), (cM_k42 M2), (cM_n42 M2), q_clamp, q_in, nI_leI, nI_ltI, nI_eq, ql_0, qL_0, qt_0, qT_0, qe_0, qc_0, qi_0, ql_1, qL_1, qt_1, qT_1, qe_1, qc_1, qi_1, ql_2, qL_2, qt_2, qT_2, qe_2, qc_2, qi_2, ql_3, qL_3, qt_3, qT_3, qe_3, qc_3, qi_3, ql_4, qL_4, qt_4, qT_4, qe_4, qc_4, qi_4, ql_6, qL_6, qt_6, qT_6, qe_6, qc_6, qi_6, ql_8, qL_8, qt_8, qT_8, qe_8, qc_8, qi_8, ql_10, qL_10, qt_10, qT_10, qe_10, qc_10, qi_10, ql_24, qL_24, qt_24, qT_24, qe_24, qc_24, qi_24, ql_60, qL_60, qt_60, qT_60, qe_60, qc_60, qi_60, ql_100, qL_100, qt_100, qT_100, qe_100, qc_100, qi_100, ql_200, qL_200, qt_200, qT_200, qe_200, qc_200, qi_200, ql_400, qL_400, qt_400, qT_400, qe_400, qc_400, qi_400, ql_600, qL_600, qt_600, qT_600, qe_600, qc_600, qi_600, ql_900, qL_900, qt_900, qT_900, qe_900, qc_900, qi_900, ql_1200, qL_1200, qt_1200, qT_1200, qe_1200, qc_1200, qi_1200, ql_65536, qL_65536, qt_65536, qT_65536, qe_65536, qc_65536, qi_65536, i2, true_and, and_true, eq_self, forall_eq, forall_eq_apply_imp_iff]
  exact HH
theorem toInt_eq {v : Int32} {k : Nat} (hk : k < 2147483648) : (v.toInt = (k : Int)) = (v = nI k) := propext ⟨fun e => Int32.toInt_inj.mp (e.trans (nI_toInt hk).symm), fun e => by rw [e]; exact nI_toInt hk⟩
theorem x_parent {y i : Int32} (R : Rc h x m s n) (hw : s.wf) (H : Q (.int (a_parent s y i)) h) : jj_C mX9_parent 0 0 [.ref x, .int y, .int i] h Q := by
  refine EX9_parent _ _ _ fun d => ⟨cM_k R.M, x_commitAt R hw (fun c hc => ?_) (fun hc => ⟨fun c => absurd rfl c, fun _ => by unfold a_parent at H; rw [hc] at H; exact H⟩)⟩
  obtain ⟨_, hc1, _⟩ := cAt_some hw hc
  obtain ⟨P, K⟩ := R.C hc1
  unfold a_parent at H
  rw [hc] at H
  simp only at H
  have e0 : (i.toInt = 0) = (i = 0) := toInt_eq (k := 0) (by decide)
  have e1 : (i.toInt = 1) = (i = 1) := toInt_eq (k := 1) (by decide)
  refine ⟨fun _ => ?_, fun c => absurd c K.1.nz⟩
  rw [e0, e1]
  refine ⟨fun c => ⟨K.2.2.1, ?_⟩, fun c => ⟨fun c1 => ⟨K.2.2.1, ?_⟩, fun c1 => ?_⟩⟩
  · rw [if_pos c] at H; rw [K.2.2.2.1]; exact H
  · rw [if_neg c, if_pos c1] at H; rw [K.2.2.2.2.1]; exact H
  · rw [if_neg c, if_neg c1] at H; exact H
theorem x_ancestors {y : Int32} (R : Rc h x m s n) (hw : s.wf) (H : Q (.int (a_ancestors s y)) h) : jj_C mX9_ancestors 0 0 [.ref x, .int y] h Q := by
  refine EX9_ancestors _ _ fun d => ⟨cM_k R.M, x_commitAt R hw (fun c hc => ?_) (fun hc => ⟨fun c => absurd rfl c, fun _ => by unfold a_ancestors at H; rw [hc] at H; exact H⟩)⟩
  obtain ⟨_, hc1, _⟩ := cAt_some hw hc
  obtain ⟨P, K⟩ := R.C hc1
  have hm := hw.1.2
  unfold a_ancestors at H
  rw [hc] at H
  simp only at H
  refine ⟨fun _ => ⟨K.2.2.1, c_bitCount ?_⟩, fun c => absurd c K.1.nz⟩
  rw [K.2.2.2.2.2.1, pc_60 fun i h1 h2 => by have := (wf_an hw hc1).2.2.1 i h1 h2; omega]
  exact H
theorem x_base {y z : Int32} (R : Rc h x m s n) (hw : s.wf) (H : Q (.int (a_base s y z)) h) : jj_C mX9_base 0 0 [.ref x, .int y, .int z] h Q := by
  have hm := hw.1.2
  refine EX9_base _ _ _ fun d => ⟨cM_k R.M, x_commitAt R hw (fun c hc => ⟨cM_k R.M, x_commitAt R hw (fun c' hc' => ?_) (fun hc' => ?_)⟩) (fun hc => ⟨cM_k R.M, x_commitAt R hw (fun c' hc' => ⟨fun _ => ?_, fun c => absurd rfl c⟩) (fun hc' => ⟨fun _ => ?_, fun c => absurd rfl c⟩)⟩)⟩
  · obtain ⟨_, hc1, _⟩ := cAt_some hw hc
    obtain ⟨_, hc1', _⟩ := cAt_some hw hc'
    obtain ⟨P, K⟩ := R.C hc1
    obtain ⟨P', K'⟩ := R.C hc1'
    unfold a_base at H
    rw [hc, hc'] at H
    simp only at H
    refine ⟨fun c => absurd c K.1.nz, fun _ => ⟨fun _ => ⟨K.2.2.1, K'.2.2.1, cM_k R.M, ?_⟩, fun c => absurd c K'.1.nz⟩⟩
    rw [K.2.2.2.2.2.1, K'.2.2.2.2.2.1]
    refine x_greatestOf R hw (fun i h1 h2 => ?_) H
    rw [bt_and, Bool.and_eq_true] at h2
    have := (wf_an hw hc1).2.2.1 i (by omega) h2.1
    omega
  · obtain ⟨_, hc1, _⟩ := cAt_some hw hc
    obtain ⟨P, K⟩ := R.C hc1
    unfold a_base at H
    rw [hc, hc'] at H
    exact ⟨fun _ => H, fun _ => ⟨fun c => absurd rfl c, fun _ => H⟩⟩
  · unfold a_base at H
    rw [hc] at H
    exact H
  · unfold a_base at H
    rw [hc] at H
    exact H
/-- the merge is over -/
theorem x_end (R : Rc h x m s n) (hm : s.made ≤ 60) (H : ∀ h', Rc h' x m s.over n → xF h h' x m → Q (.int 0) h') : jj_C mX2_end 0 0 [.ref (x + 26)] h Q := by
  refine jV_C (by decide +kernel) fun V => ?_
  have M := R.M
  have z := R.z
  refine EX2_end _ fun d => ⟨cM_k26 M, ?_⟩
  rintro _ rfl _ rfl _ rfl
  have F : cF (fun tg a => (tg = 100 ∨ tg = 109 ∨ tg = 110) ∧ a = x + 26) h (wI (wI (wI h 100 (x + 26) 0 0) 109 (x + 26) 0 0) 110 (x + 26) 0 0) := ((cF.wI ⟨Or.inl rfl, rfl⟩).trans (cF.wI (P := fun tg a => (tg = 100 ∨ tg = 109 ∨ tg = 110) ∧ a = x + 26) ⟨Or.inr (Or.inl rfl), rfl⟩) (fun _ _ _ q => q)).trans (cF.wI (P := fun tg a => (tg = 100 ∨ tg = 109 ∨ tg = 110) ∧ a = x + 26) ⟨Or.inr (Or.inr rfl), rfl⟩) (fun _ _ _ q => q)
  have F' : cF (qF x) h (wI (wI (wI h 100 (x + 26) 0 0) 109 (x + 26) 0 0) 110 (x + 26) 0 0) := F.mono fun tg a _ q => ⟨by omega, by omega, by omega⟩
  have G := R.2
  have g := R.fld (s' := s.over) hm V F' (fun P B => B) ⟨G.1.cf F z.2.1 (by omega) (by omega) (by omega) (by omega), G.2.1.cf F z.2.1 (by omega) (by omega) (by omega), ⟨?_, fun q => absurd q (Nat.lt_irrefl 0), ⟨?_, ?_, fun i c hc => by cases hc⟩, ?_⟩, G.2.2.2.cf (s := s) F z.2.1 (by omega) (by omega) (by omega)⟩
  · exact H _ g.1 g.2
  · rw [jI_wI, if_neg (by omega), jI_wI, if_neg (by omega), jI_wI, if_pos ⟨rfl, rfl, rfl⟩]; rfl
  · rw [jI_wI, if_neg (by omega), jI_wI, if_pos ⟨rfl, rfl, rfl⟩]; rfl
  · rw [jI_wI, if_pos ⟨rfl, rfl, rfl⟩]; rfl
  · exact (F.ei (tg := 301) (a := x + 30) (by have := z.2.1; omega) (by omega)).trans G.2.2.1.2.2.2
theorem x_reset (R : Rc h x m s n) (hw : s.wf) (H : ∀ h', Rc h' x m (a_reset s).2 n → xF h h' x m → Q (.int (a_reset s).1) h') : jj_C mX9_reset 0 0 [.ref x] h Q := by
  have M := R.M
  have hmg := R.mg
  have fin : ∀ v', (if 0 < s.mg ∨ s.cln = false then (1 : Int32) else 0) = v' → ∀ h2, Rc h2 x m s.over n → xF h h2 x m → jK h2 x = 10 ∧ jj_C mX9_loadWork 0 0 [.ref x] h2 (fun v h => Q (.int v') h) := by
    intro v' e h2 R2 F2
    refine ⟨cM_k R2.M, x_loadWork R2 (over_wf hw) fun h3 R3 F3 => ?_⟩
    have HH := H h3 R3 (F2.trans F3)
    unfold a_reset at HH
    simp only at HH
    rw [e] at HH
    exact HH
  refine EX9_reset _ fun d => ?_
  simp (disch := omega) only [(cM_k M), (cM_r450_0 M), (cM_k1 M), (cM_n1 M), (cM_r451_0 M), (cM_k17 M), (cM_n17 M), (cM_r400_17 M), (cM_k18 M), (cM_n18 M), (cM_r452_0 M), (cM_k19 M), (cM_n19 M), (cM_r200_19 M), (cM_k20 M), (cM_n20 M), (cM_r453_0 M), (cM_k21 M), (cM_n21 M), (cM_r456_0 M), (cM_k22 M), (cM_n22 M), (cM_r458_0 M), (cM_k23 M), (cM_n23 M), (cM_r50_23 M), (cM_k24 M), (cM_n24 M), (cM_r51_23 M), (cM_k25 M), (cM_n25 M), (cM_r459_0 M), (cM_k26 M), (cM_n26 M), (cM_r102_26 M), (cM_k27 M), (cM_n27 M), (cM_r103_26 M), (cM_k28 M), (cM_n28 M), (cM_r104_26 M), (cM_k29 M), (cM_n29 M), (cM_r105_26 M), (cM_k30 M), (cM_n30 M), (cM_r300_30 M), (cM_k31 M), (cM_n31 M), (cM_r106_26 M), (cM_k32 M), (cM_n32 M), (cM_r107_26 M), (cM_k33 M), (cM_n33 M), (cM_r108_26 M), (cM_k34 M), (cM_n34 M), (cM_r460_0 M), (cM_k41 M), (cM_n41 M), (cM_r250_41 M), (cM_k42 M), (cM_n42 M), hmg, true_and, and_true, eq_self, forall_eq, forall_eq_apply_imp_iff]
  refine ⟨fun c => x_end R hw.1.2 (fin 1 (if_pos (Or.inl (mg_1 c)))), fun c => x_isClean R hw (fun hc => ⟨fun _ => ⟨cM_k M, by rw [cM_r459_0 M]; exact cM_k26 M, ?_⟩, fun c => absurd c (by decide)⟩) (fun hc => ⟨fun c => absurd rfl c, fun _ => ⟨cM_k M, by rw [cM_r459_0 M]; exact cM_k26 M, ?_⟩⟩)⟩
  · rw [cM_r459_0 M]
    exact x_end R hw.1.2 (fin 0 (if_neg fun z => z.elim (mg_0 c) (fun z => by rw [hc] at z; cases z)))
  · rw [cM_r459_0 M]
    exact x_end R hw.1.2 (fin 1 (if_pos (Or.inr hc)))
/-- which commits are there -/
theorem Rc.here {v : Int64} (R : Rc h x m s n) (hm : s.made ≤ 60) (V : jj_V h) : Rc (wL h 455 x 0 v) x m (s.set2 (s.made, v, s.fp, s.sp, s.an)) n ∧ xF h (wL h 455 x 0 v) x m := by
  have z := R.z
  have F : cF (fun tg a => tg = 455 ∧ a = x) h (wL h 455 x 0 v) := cF.wL ⟨rfl, rfl⟩
  have F' : cF (qF x) h (wL h 455 x 0 v) := F.mono fun tg a _ q => ⟨by omega, by omega, by omega⟩
  have G := R.2
  exact R.fld hm V F' (fun P B => B) ⟨⟨G.1.1, by rw [jL_wL, if_pos ⟨rfl, rfl, rfl⟩]; rfl, G.1.2.2⟩, G.2.1, G.2.2.1, by rw [show jL (wL h 455 x 0 v) 251 (x + 41) 0 = jL h 251 (x + 41) 0 by rw [jL_wL, if_neg (by omega)]]; exact G.2.2.2.1, G.2.2.2.2⟩
theorem x_sweep (R : Rc h x m s n) (hw : s.wf) (H : ∀ h', Rc h' x m (a_sweep s).2 n → xF h h' x m → Q (.int (a_sweep s).1) h') : jj_C mX9_sweep 0 0 [.ref x] h Q := by
  refine jV_C (by decide +kernel) fun V => ?_
  have M := R.M
  have hmg := R.mg
  have hm := hw.1.2
  refine EX9_sweep _ fun d => ?_
  simp (disch := omega) only [(cM_k M), (cM_r450_0 M), (cM_k1 M), (cM_n1 M), (cM_r451_0 M), (cM_k17 M), (cM_n17 M), (cM_r400_17 M), (cM_k18 M), (cM_n18 M), (cM_r452_0 M), (cM_k19 M), (cM_n19 M), (cM_r200_19 M), (cM_k20 M), (cM_n20 M), (cM_r453_0 M), (cM_k21 M), (cM_n21 M), (cM_r456_0 M), (cM_k22 M), (cM_n22 M), (cM_r458_0 M), (cM_k23 M), (cM_n23 M), (cM_r50_23 M), (cM_k24 M), (cM_n24 M), (cM_r51_23 M), (cM_k25 M), (cM_n25 M), (cM_r459_0 M), (cM_k26 M), (cM_n26 M), (cM_r102_26 M), (cM_k27 M), (cM_n27 M), (cM_r103_26 M), (cM_k28 M), (cM_n28 M), (cM_r104_26 M), (cM_k29 M), (cM_n29 M), (cM_r105_26 M), (cM_k30 M), (cM_n30 M), (cM_r300_30 M), (cM_k31 M), (cM_n31 M), (cM_r106_26 M), (cM_k32 M), (cM_n32 M), (cM_r107_26 M), (cM_k33 M), (cM_n33 M), (cM_r108_26 M), (cM_k34 M), (cM_n34 M), (cM_r460_0 M), (cM_k41 M), (cM_n41 M), (cM_r250_41 M), (cM_k42 M), (cM_n42 M), hmg, true_and, and_true, eq_self, forall_eq, forall_eq_apply_imp_iff]
  refine ⟨fun c => ?_, fun c => ?_⟩
  · have hg := mg_0 c
    have loop : ∀ q b, b + q = 6 → jj_WP d mX9_sweep 0 0 17 [(0, .ref x), (1, .long (s.sty b)), (3, .int (nI b))] [] h Q := by
      intro q
      induction q with
      | zero =>
        intro b hb
        have e : b = 6 := by omega
        subst e
        refine VX9_sweep_17 _ _ _ ⟨fun _ => ⟨cM_k M, c_bitCount ⟨cM_k M, ?_⟩⟩, fun c => absurd (by decide) c⟩
        have i2 : jL h 455 x 0 = s.here := R.2.1.2.1
        rw [i2]
        rintro _ rfl
        have g := R.here (v := s.here &&& s.sty 6) hm V
        have e2 : a_sweep s = (nI (pc (s.here &&& (s.sty 6 ^^^ (-1))) 60), s.set2 (s.made, s.here &&& s.sty 6, s.fp, s.sp, s.an)) := by unfold a_sweep; rw [if_neg hg]
        have HH := H _ (by rw [e2]; exact g.1) g.2
        rw [e2] at HH
        rw [pc_60 fun i h1 h2 => by rw [bt_and, Bool.and_eq_true] at h2; have := hw.2.2.1 i h1 h2.1; omega]
        exact HH
      | succ q ih =>
        intro b hb
        have i2 : jI h 1000 (x + 22) b = s.hd b := R.2.1.2.2.1 b (by omega)
        refine VX9_sweep_17 _ _ _ ?_
        simp (disch := omega) only [(cM_k M), (cM_r450_0 M), (cM_k1 M), (cM_n1 M), (cM_r451_0 M), (cM_k17 M), (cM_n17 M), (cM_r400_17 M), (cM_k18 M), (cM_n18 M), (cM_r452_0 M), (cM_k19 M), (cM_n19 M), (cM_r200_19 M), (cM_k20 M), (cM_n20 M), (cM_r453_0 M), (cM_k21 M), (cM_n21 M), (cM_r456_0 M), (cM_k22 M), (cM_n22 M), (cM_r458_0 M), (cM_k23 M), (cM_n23 M), (cM_r50_23 M), (cM_k24 M), (cM_n24 M), (cM_r51_23 M), (cM_k25 M), (cM_n25 M), (cM_r459_0 M), (cM_k26 M), (cM_n26 M), (cM_r102_26 M), (cM_k27 M), (cM_n27 M), (cM_r103_26 M), (cM_k28 M), (cM_n28 M), (cM_r104_26 M), (cM_k29 M), (cM_n29 M), (cM_r105_26 M), (cM_k30 M), (cM_n30 M), (cM_r300_30 M), (cM_k31 M), (cM_n31 M), (cM_r106_26 M), (cM_k32 M), (cM_n32 M), (cM_r107_26 M), (cM_k33 M), (cM_n33 M), (cM_r108_26 M), (cM_k34 M), (cM_n34 M), (cM_r460_0 M), (cM_k41 M), (cM_n41 M), (cM_r250_41 M), (cM_k42 M), (cM_n42 M), q_clamp, q_in, nI_leI, nI_ltI, nI_eq, ql_0, qL_0, qt_0, qT_0, qe_0, qc_0, qi_0, ql_1, qL_1, qt_1, qT_1, qe_1, qc_1, qi_1, ql_2, qL_2, qt_2, qT_2, qe_2, qc_2, qi_2, ql_3, qL_3, qt_3, qT_3, qe_3, qc_3, qi_3, ql_4, qL_4, qt_4, qT_4, qe_4, qc_4, qi_4, ql_6, qL_6, qt_6, qT_6, qe_6, qc_6, qi_6, ql_8, qL_8, qt_8, qT_8, qe_8, qc_8, qi_8, ql_10, qL_10, qt_10, qT_10, qe_10, qc_10, qi_10, ql_24, qL_24, qt_24, qT_24, qe_24, qc_24, qi_24, ql_60, qL_60, qt_60, qT_60, qe_60, qc_60, qi_60, ql_100, qL_100, qt_100, qT_100, qe_100, qc_100, qi_100, ql_200, qL_200, qt_200, qT_200, qe_200, qc_200, qi_200, ql_400, qL_400, qt_400, qT_400, qe_400, qc_400, qi_400, ql_600, qL_600, qt_600, qT_600, qe_600, qc_600, qi_600, ql_900, qL_900, qt_900, qT_900, qe_900, qc_900, qi_900, ql_1200, qL_1200, qt_1200, qT_1200, qe_1200, qc_1200, qi_1200, ql_65536, qL_65536, qt_65536, qT_65536, qe_65536, qc_65536, qi_65536, i2, true_and, and_true, eq_self, forall_eq, forall_eq_apply_imp_iff]
        refine ⟨fun c => by omega, fun _ => x_lineOf R hw (hw.2.2.2.2.2.1 b (by omega)) ?_⟩
        rw [qa_1]
        exact ih (b + 1) (by omega)
    exact loop 6 0 (by omega)
  · have e2 : a_sweep s = (-3, s) := by unfold a_sweep; rw [if_pos (mg_1 c)]
    have HH := H h (by rw [e2]; exact R) xF.rf
    rw [e2] at HH
    exact HH
end JX7
