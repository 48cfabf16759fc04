/-! the class: branches -/
section JX6
variable {h h' h1 : jj_H} {x m n t : Nat} {s : St} {l : List Row} {Q : Value → jj_H → Prop}
/-- fields were written; the groups are told anew -/
theorem Rc.fld {s' : St} (R : Rc h x m s n) (hm : s.made ≤ 60) (V : jj_V h) (F : cF (qF x) h h') (e : ∀ P, RcB h' x m s n P → RcB h' x m s' n P) (G : RcG h' x s') : Rc h' x m s' n ∧ xF h h' x m := by
  obtain ⟨⟨P, B⟩, _⟩ := R
  have f := B.fix hm V F
  exact ⟨⟨⟨P, e P f.1⟩, G⟩, f.2.2⟩
theorem x_isHere {y : Int32} (R : Rc h x m s n) (H1 : ∀ b, bAt s y = some b → Q (.int 1) h) (H0 : bAt s y = none → Q (.int 0) h) : jj_C mX9_isHere 0 0 [.ref x, .int y] h Q := by
  have M := R.M
  refine EX9_isHere _ _ fun d => x_isBranch (fun b hb => ?_) (fun hb => ⟨fun _ => H0 (by unfold bAt; rw [hb]), fun c => absurd rfl c⟩)
  obtain ⟨e, hb6⟩ := lim_some (by decide) hb
  have hh := R.2.1.2.2.1 b hb6
  refine ⟨fun c => absurd c (by decide), fun _ => ?_⟩
  rw [e]
  simp (disch := omega) only [(cM_k M), (cM_r450_0 M), (cM_k1 M), (cM_n1 M), (cM_r451_0 M), (cM_k17 M), (cM_n17 M), (cM_r400_17 M), (cM_k18 M), (cM_n18 M), (cM_r452_0 M), (cM_k19 M), (cM_n19 M), (cM_r200_19 M), (cM_k20 M), (cM_n20 M), (cM_r453_0 M), (cM_k21 M), (cM_n21 M), (cM_r456_0 M), (cM_k22 M), (cM_n22 M), (cM_r458_0 M), (cM_k23 M), (cM_n23 M), (cM_r50_23 M), (cM_k24 M), (cM_n24 M), (cM_r51_23 M), (cM_k25 M), (cM_n25 M), (cM_r459_0 M), (cM_k26 M), (cM_n26 M), (cM_r102_26 M), (cM_k27 M), (cM_n27 M), (cM_r103_26 M), (cM_k28 M), (cM_n28 M), (cM_r104_26 M), (cM_k29 M), (cM_n29 M), (cM_r105_26 M), (cM_k30 M), (cM_n30 M), (cM_r300_30 M), (cM_k31 M), (cM_n31 M), (cM_r106_26 M), (cM_k32 M), (cM_n32 M), (cM_r107_26 M), (cM_k33 M), (cM_n33 M), (cM_r108_26 M), (cM_k34 M), (cM_n34 M), (cM_r460_0 M), (cM_k41 M), (cM_n41 M), (cM_r250_41 M), (cM_k42 M), (cM_n42 M), q_clamp, q_in, nI_leI, nI_ltI, nI_eq, ql_0, qL_0, qt_0, qT_0, qe_0, qc_0, qi_0, ql_1, qL_1, qt_1, qT_1, qe_1, qc_1, qi_1, ql_2, qL_2, qt_2, qT_2, qe_2, qc_2, qi_2, ql_3, qL_3, qt_3, qT_3, qe_3, qc_3, qi_3, ql_4, qL_4, qt_4, qT_4, qe_4, qc_4, qi_4, ql_6, qL_6, qt_6, qT_6, qe_6, qc_6, qi_6, ql_8, qL_8, qt_8, qT_8, qe_8, qc_8, qi_8, ql_10, qL_10, qt_10, qT_10, qe_10, qc_10, qi_10, ql_24, qL_24, qt_24, qT_24, qe_24, qc_24, qi_24, ql_60, qL_60, qt_60, qT_60, qe_60, qc_60, qi_60, ql_100, qL_100, qt_100, qT_100, qe_100, qc_100, qi_100, ql_200, qL_200, qt_200, qT_200, qe_200, qc_200, qi_200, ql_400, qL_400, qt_400, qT_400, qe_400, qc_400, qi_400, ql_600, qL_600, qt_600, qT_600, qe_600, qc_600, qi_600, ql_900, qL_900, qt_900, qT_900, qe_900, qc_900, qi_900, ql_1200, qL_1200, qt_1200, qT_1200, qe_1200, qc_1200, qi_1200, ql_65536, qL_65536, qt_65536, qT_65536, qe_65536, qc_65536, qi_65536, hh, true_and, and_true, eq_self, forall_eq, forall_eq_apply_imp_iff]
  rw [e] at hb
  refine ⟨fun c => ?_, fun c => ?_⟩
  · refine H0 ?_
    unfold bAt
    rw [e, hb]
    simp only
    have c' : s.hd b = -1 := c
    rw [c']
    rfl
  · refine H1 b ?_
    unfold bAt
    rw [e, hb]
    simp only
    have c' : ¬ s.hd b = -1 := c
    rw [if_neg c']
/-- a head is set -/
theorem Rc.head {b : Nat} {v : Int32} (R : Rc h x m s n) (hm : s.made ≤ 60) (V : jj_V h) (hne : 0 < s.mg → b ≠ s.hand) : Rc (wI h 1000 (x + 22) b v) x m (s.sh b v) n ∧ xF h (wI h 1000 (x + 22) b v) x m := by
  have z := R.z
  have F : cF (fun tg a => tg = 1000 ∧ a = x + 22) h (wI h 1000 (x + 22) b v) := cF.wI ⟨rfl, rfl⟩
  have F' : cF (qF x) h (wI h 1000 (x + 22) b v) := F.mono fun tg a _ q => ⟨by omega, by omega, by omega⟩
  have G := R.2
  refine R.fld hm V F' (fun P B => B) ⟨⟨?_, ?_, fun y hy => ?_, ?_⟩, G.2.1.cf F z.2.1 (by omega) (by omega) (by omega), ?_, G.2.2.2.cf F z.2.1 (by omega) (by omega) (by omega)⟩
  · rw [jI_wI, if_neg (by omega)]; exact G.1.1
  · exact G.1.2.1
  · rw [jI_wI]
    show _ = if y = b then v else s.hd y
    by_cases e : y = b
    · rw [if_pos ⟨rfl, rfl, e⟩, if_pos e]
    · rw [if_neg (by omega), if_neg e]; exact G.1.2.2.1 y hy
  · rw [jI_wI, if_neg (by omega)]; exact G.1.2.2.2
  · have K := G.2.2.1.cf (s := s) F z.2.1 (by omega) (by omega) (by omega) (by omega) (fun a _ _ => by omega) (by omega) (by omega) (by omega)
    refine ⟨K.1, fun q => ⟨(K.2.1 q).1, fun k hk => ?_⟩, K.2.2⟩
    have q' : 0 < s.mg := q
    have e : (s.sh b v).vPl k = s.vPl k := by
      unfold St.vPl
      show (if k = 0 then s.old else if k = 1 then Int32.toNatClampNeg (if s.hand = b then v else s.hd s.hand) else s.their) = _
      rw [if_neg (show ¬ s.hand = b from fun z => hne q' z.symm)]
      rfl
    rw [e]
    exact (K.2.1 q).2 k hk
theorem Rc.hnd {b : Nat} (R : Rc h x m s n) (hm : s.made ≤ 60) (V : jj_V h) (hne : ¬ 0 < s.mg) : Rc (wI h 457 x 0 (nI b)) x m (s.set3 (s.hd, b)) n ∧ xF h (wI h 457 x 0 (nI b)) x m := by
  have z := R.z
  have F : cF (fun tg a => tg = 457 ∧ a = x) h (wI h 457 x 0 (nI b)) := cF.wI ⟨rfl, rfl⟩
  have F' : cF (qF x) h (wI h 457 x 0 (nI b)) := F.mono fun tg a _ q => ⟨by omega, by omega, by omega⟩
  have G := R.2
  refine R.fld hm V F' (fun P B => B) ⟨⟨?_, ?_, fun y hy => ?_, ?_⟩, G.2.1.cf F z.2.1 (by omega) (by omega) (by omega), ?_, G.2.2.2.cf F z.2.1 (by omega) (by omega) (by omega)⟩
  · rw [jI_wI, if_neg (by omega)]; exact G.1.1
  · exact G.1.2.1
  · rw [jI_wI, if_neg (by omega)]; exact G.1.2.2.1 y hy
  · rw [jI_wI, if_pos ⟨rfl, rfl, rfl⟩]; rfl
  · have K := G.2.2.1.cf (s := s) F z.2.1 (by omega) (by omega) (by omega) (by omega) (fun a _ _ => by omega) (by omega) (by omega) (by omega)
    exact ⟨K.1, fun q => absurd q hne, K.2.2⟩
theorem x_headAtHand (R : Rc h x m s n) (hw : s.wf) (H : Q (.ref (cad h x (s.hN s.hand))) h) : jj_C mX9_headAtHand 0 0 [.ref x] h Q := by
  have M := R.M
  obtain ⟨e1, e2, e3⟩ := hand_ok hw
  have hm := hw.1.2
  have i1 : jI h 457 x 0 = nI s.hand := R.2.1.2.2.2
  have i2 := R.2.1.2.2.1 s.hand e3
  have i2' : jI h 1000 (x + 22) s.hand = nI (s.hN s.hand) := i2.trans e1
  refine EX9_headAtHand _ fun d => ?_
  simp (disch := omega) only [(cM_k M), (cM_r450_0 M), (cM_k1 M), (cM_n1 M), (cM_r451_0 M), (cM_k17 M), (cM_n17 M), (cM_r400_17 M), (cM_k18 M), (cM_n18 M), (cM_r452_0 M), (cM_k19 M), (cM_n19 M), (cM_r200_19 M), (cM_k20 M), (cM_n20 M), (cM_r453_0 M), (cM_k21 M), (cM_n21 M), (cM_r456_0 M), (cM_k22 M), (cM_n22 M), (cM_r458_0 M), (cM_k23 M), (cM_n23 M), (cM_r50_23 M), (cM_k24 M), (cM_n24 M), (cM_r51_23 M), (cM_k25 M), (cM_n25 M), (cM_r459_0 M), (cM_k26 M), (cM_n26 M), (cM_r102_26 M), (cM_k27 M), (cM_n27 M), (cM_r103_26 M), (cM_k28 M), (cM_n28 M), (cM_r104_26 M), (cM_k29 M), (cM_n29 M), (cM_r105_26 M), (cM_k30 M), (cM_n30 M), (cM_r300_30 M), (cM_k31 M), (cM_n31 M), (cM_r106_26 M), (cM_k32 M), (cM_n32 M), (cM_r107_26 M), (cM_k33 M), (cM_n33 M), (cM_r108_26 M), (cM_k34 M), (cM_n34 M), (cM_r460_0 M), (cM_k41 M), (cM_n41 M), (cM_r250_41 M), (cM_k42 M), (cM_n42 M), i1, q_clamp, q_in, nI_leI, nI_ltI, nI_eq, ql_0, qL_0, qt_0, qT_0, qe_0, qc_0, qi_0, ql_1, qL_1, qt_1, qT_1, qe_1, qc_1, qi_1, ql_2, qL_2, qt_2, qT_2, qe_2, qc_2, qi_2, ql_3, qL_3, qt_3, qT_3, qe_3, qc_3, qi_3, ql_4, qL_4, qt_4, qT_4, qe_4, qc_4, qi_4, ql_6, qL_6, qt_6, qT_6, qe_6, qc_6, qi_6, ql_8, qL_8, qt_8, qT_8, qe_8, qc_8, qi_8, ql_10, qL_10, qt_10, qT_10, qe_10, qc_10, qi_10, ql_24, qL_24, qt_24, qT_24, qe_24, qc_24, qi_24, ql_60, qL_60, qt_60, qT_60, qe_60, qc_60, qi_60, ql_100, qL_100, qt_100, qT_100, qe_100, qc_100, qi_100, ql_200, qL_200, qt_200, qT_200, qe_200, qc_200, qi_200, ql_400, qL_400, qt_400, qT_400, qe_400, qc_400, qi_400, ql_600, qL_600, qt_600, qT_600, qe_600, qc_600, qi_600, ql_900, qL_900, qt_900, qT_900, qe_900, qc_900, qi_900, ql_1200, qL_1200, qt_1200, qT_1200, qe_1200, qc_1200, qi_1200, ql_65536, qL_65536, qt_65536, qT_65536, qe_65536, qc_65536, qi_65536, i2', true_and, and_true, eq_self, forall_eq, forall_eq_apply_imp_iff]
  have eA : cAt s (nI (s.hN s.hand)) = some (s.hN s.hand) := by
    unfold cAt
    rw [lim_nI (by decide) (by omega)]
    simp only
    rw [if_pos (head_here hw e3 hw.2.2.2.2.2.2.1.2.1)]
  refine x_commitAt R hw (fun c hc => ?_) (fun hc => by rw [eA] at hc; cases hc)
  rw [eA] at hc
  cases hc
  obtain ⟨P, K⟩ := R.C e2
  exact ⟨fun _ => H, fun c => absurd c K.1.nz⟩
theorem Rc.com {c : Nat} (R : Rc h x m s n) (hc : c < s.made) (ht : t < 3) : jK h (cad h x c) = 1 ∧ jK h (jR h 3 (cad h x c) 0) = 27 ∧ jN h (jR h 3 (cad h x c) 0) = 3 ∧ jK h (tba h x c t) = 8 ∧ ∃ r w, jR h 350 (tba h x c t) 0 = r ∧ rwO h r w (s.T c t) ∧ x + 42 < r ∧ x + 42 < w ∧ r ≤ jZ h ∧ w ≤ jZ h ∧ (∀ u, u < 3 → ¬ isN h (wb x u) r ∧ ¬ isN h (wb x u) w) := by
  obtain ⟨P, K⟩ := R.C hc
  obtain ⟨s1, r, w, na, st, s2, s3, s4, s5, e1, R', e2, T⟩ := K.2.2.2.2.2.2.2.2 t ht
  exact ⟨K.2.2.1, K.2.2.2.2.2.2.1, K.2.2.2.2.2.2.2.1, T.1, r, w, e1, R', s2.1.1, s3.1.1, s2.1.2.1, s3.1.2.1, fun u hu => ⟨fun z => s2.1.2.2 ⟨u, hu, z⟩, fun z => s3.1.2.2 ⟨u, hu, z⟩⟩⟩
theorem x_isClean (R : Rc h x m s n) (hw : s.wf) (H1 : s.cln = true → Q (.int 1) h) (H0 : s.cln = false → Q (.int 0) h) : jj_C mX9_isClean 0 0 [.ref x] h Q := by
  have M := R.M
  obtain ⟨e1, e2, e3⟩ := hand_ok hw
  refine EX9_isClean _ fun d => ⟨cM_k M, x_headAtHand R hw ?_⟩
  have loop : ∀ q i, i + q = 3 → (∀ u, u < i → s.T 60 u = s.T (s.hN s.hand) u) → jj_WP d mX9_isClean 0 0 7 [(0, .ref x), (1, .ref (cad h x (s.hN s.hand))), (2, .int (nI i))] [] h Q := by
    intro q
    induction q with
    | zero =>
      intro i hi lo
      refine VX9_isClean_7 _ _ _ ?_
      rw [qL_3 (by omega)]
      refine ⟨fun _ => H1 ?_, fun c => by omega⟩
      unfold St.cln
      exact decide_eq_true ⟨lo 0 (by omega), lo 1 (by omega), lo 2 (by omega)⟩
    | succ q ih =>
      intro i hi lo
      have hi3 : i < 3 := by omega
      have W := R.W hi3
      have wt := R.wt hi3
      have k1 := W.1.1
      have r1 := W.1.2.1
      have k2 := W.1.2.2.2.2.1
      obtain ⟨c1, c2, c3, c4, r, w, c5, c6, _⟩ := R.com e2 hi3
      have c4' : jK h (jR h 1000 (jR h 3 (cad h x (s.hN s.hand)) 0) i) = 8 := c4
      have c5' : jR h 350 (jR h 1000 (jR h 3 (cad h x (s.hN s.hand)) 0) i) 0 = r := c5
      refine VX9_isClean_7 _ _ _ ?_
      simp (disch := omega) only [(cM_k M), (cM_r450_0 M), (cM_k1 M), (cM_n1 M), (cM_r451_0 M), (cM_k17 M), (cM_n17 M), (cM_r400_17 M), (cM_k18 M), (cM_n18 M), (cM_r452_0 M), (cM_k19 M), (cM_n19 M), (cM_r200_19 M), (cM_k20 M), (cM_n20 M), (cM_r453_0 M), (cM_k21 M), (cM_n21 M), (cM_r456_0 M), (cM_k22 M), (cM_n22 M), (cM_r458_0 M), (cM_k23 M), (cM_n23 M), (cM_r50_23 M), (cM_k24 M), (cM_n24 M), (cM_r51_23 M), (cM_k25 M), (cM_n25 M), (cM_r459_0 M), (cM_k26 M), (cM_n26 M), (cM_r102_26 M), (cM_k27 M), (cM_n27 M), (cM_r103_26 M), (cM_k28 M), (cM_n28 M), (cM_r104_26 M), (cM_k29 M), (cM_n29 M), (cM_r105_26 M), (cM_k30 M), (cM_n30 M), (cM_r300_30 M), (cM_k31 M), (cM_n31 M), (cM_r106_26 M), (cM_k32 M), (cM_n32 M), (cM_r107_26 M), (cM_k33 M), (cM_n33 M), (cM_r108_26 M), (cM_k34 M), (cM_n34 M), (cM_r460_0 M), (cM_k41 M), (cM_n41 M), (cM_r250_41 M), (cM_k42 M), (cM_n42 M), q_clamp, q_in, nI_leI, nI_ltI, nI_eq, ql_0, qL_0, qt_0, qT_0, qe_0, qc_0, qi_0, ql_1, qL_1, qt_1, qT_1, qe_1, qc_1, qi_1, ql_2, qL_2, qt_2, qT_2, qe_2, qc_2, qi_2, ql_3, qL_3, qt_3, qT_3, qe_3, qc_3, qi_3, ql_4, qL_4, qt_4, qT_4, qe_4, qc_4, qi_4, ql_6, qL_6, qt_6, qT_6, qe_6, qc_6, qi_6, ql_8, qL_8, qt_8, qT_8, qe_8, qc_8, qi_8, ql_10, qL_10, qt_10, qT_10, qe_10, qc_10, qi_10, ql_24, qL_24, qt_24, qT_24, qe_24, qc_24, qi_24, ql_60, qL_60, qt_60, qT_60, qe_60, qc_60, qi_60, ql_100, qL_100, qt_100, qT_100, qe_100, qc_100, qi_100, ql_200, qL_200, qt_200, qT_200, qe_200, qc_200, qi_200, ql_400, qL_400, qt_400, qT_400, qe_400, qc_400, qi_400, ql_600, qL_600, qt_600, qT_600, qe_600, qc_600, qi_600, ql_900, qL_900, qt_900, qT_900, qe_900, qc_900, qi_900, ql_1200, qL_1200, qt_1200, qT_1200, qe_1200, qc_1200, qi_1200, ql_65536, qL_65536, qt_65536, qT_65536, qe_65536, qc_65536, qi_65536, wt, k1, r1, k2, c1, c2, c3, c4', c5', true_and, and_true, eq_self, forall_eq, forall_eq_apply_imp_iff]
      refine ⟨fun c => by omega, fun _ => c_isSame W.2.2.1 c6 ?_⟩
      by_cases z : s.T 60 i = s.T (s.hN s.hand) i
      · rw [if_pos z]
        refine ⟨fun _ => ?_, fun c => absurd c (by decide)⟩
        rw [qa_1]
        refine ih (i + 1) (by omega) fun u hu => ?_
        by_cases e : u = i
        · rw [e]; exact z
        · exact lo u (by omega)
      · rw [if_neg z]
        refine ⟨fun c => absurd rfl c, fun _ => H0 ?_⟩
        unfold St.cln
        refine decide_eq_false fun ⟨z0, z1, z2⟩ => z ?_
        rcases (show i = 0 ∨ i = 1 ∨ i = 2 by omega) with e | e | e <;> subst e
        · exact z0
        · exact z1
        · exact z2
  exact loop 3 0 (by omega) (fun u hu => by omega)
/-- a table of the work becomes other rows -/
theorem x_become {r w : Nat} (R : Rc h x m s n) (hm : s.made ≤ 60) (ht : t < 3) (R' : rwO h r w l) (hr : x + 16 < r) (hw' : x + 16 < w) (H : ∀ h', Rc h' x m (s.wk t l) n → xF h h' x m → cF (fun tg a => (tg = 354 ∧ a = wb x t) ∨ pW (wb x t + 1) (wb x t + 2) tg a) h h' → Q (.int 0) h') : jj_C mX7_become 0 0 [.ref (wb x t), .ref r] h Q := by
  refine jV_C (by decide +kernel) fun V => ?_
  have W := R.W ht
  have B := W.1
  obtain ⟨a1, a2, a3, a4, a5, a6, a7, a8, a9, a10, a11, a12⟩ := id B
  have l1 := R'.2.2.2.2.2.2.1
  refine EX7_become _ _ fun d => ⟨a1, by rw [a2]; exact a5, ?_⟩
  rw [a2]
  refine c_become R' a5 a6 a7 (by omega) (by omega) (by unfold wb; omega) (by unfold wb; omega) fun h2 R2 F2 => ?_
  have e1 : jK h2 (wb x t) = 8 := by unfold jK at *; rw [F2.1]; exact a1
  refine ⟨e1, ?_⟩
  rintro _ rfl
  have F3 : wFr (wI h 354 (wb x t) 0 1) (wI h2 354 (wb x t) 0 1) (wb x t + 1) (wb x t + 2) := by
    refine ⟨F2.1, fun tg a i p q => ?_⟩
    rw [jI_wI, jI_wI]
    by_cases c : tg = 354 ∧ a = wb x t ∧ i = 0
    · rw [if_pos c, if_pos c]
    · rw [if_neg c, if_neg c]; exact F2.2 tg a i p q
  have R3 : rwO (wI h2 354 (wb x t) 0 1) (wb x t + 1) (wb x t + 2) l := by
    obtain ⟨z1, z2, z3, z4, z5, z6, z7, z8⟩ := R2
    exact ⟨z1, z2, z3, z4, z5, by rw [jI_wI, if_neg (by omega)]; exact z6, z7, fun i x c hx hc => by rw [jI_wI, if_neg (by omega)]; exact z8 i x c hx hc⟩
  have g := R.row hm V ht F3 R3
  exact H _ g.1 g.2 (cF.trans (cF.wI (Or.inl ⟨rfl, rfl⟩)) F3.toC (fun tg a _ p => Or.inr p))
end JX6
