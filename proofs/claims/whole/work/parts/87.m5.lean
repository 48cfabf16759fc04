/-! the class: merge, pick, undo, the other store looked at -/
section JG5
variable {h h' h1 : jj_H} {x m n t : Nat} {s : St} {Q : Value → jj_H → Prop}
theorem lnO_hd (hw : s.wf) {b : Nat} (hb : b < 6) (hd : s.hd b ≠ -1) : lnO s (s.hd b) = s.an (s.hN b) := by
  unfold lnO
  rw [if_neg hd]
  rfl
theorem x_merge {y : Int32} (R : Rc h x m s n) (hw : s.wf) (H : ∀ h', Rc h' x m (a_merge s y).2 n → xF h h' x m → Q (.int (a_merge s y).1) h') : jj_C mX9_merge 0 0 [.ref x, .int y] h Q := by
  refine jV_C (by decide +kernel) fun V => ?_
  have bad : ∀ v', a_merge s y = (v', s) → Q (.int v') h := fun v' e => by
    have := H h (by rw [e]; exact R) xF.rf
    rw [e] at this
    exact this
  have M := R.M
  have hm := hw.1.2
  have hmg := R.mg
  refine EX9_merge _ _ fun d => ⟨cM_k M, x_isHere R (fun b hb => ⟨fun _ => ?_, fun c => absurd c (by decide)⟩) (fun hb => ⟨fun c => absurd rfl c, fun _ => bad _ (by simp only [a_merge, hb])⟩)⟩
  obtain ⟨e, hb6, o1, o2, o3, _⟩ := bAt_some hw hb
  obtain ⟨p1, p2, p3⟩ := hand_ok hw
  simp (disch := omega) only [(cM_k M), (cM_r450_0 M), (cM_k1 M), (cM_n1 M), (cM_r451_0 M), (cM_k17 M), (cM_n17 M), (cM_r400_17 M), (cM_k18 M), (cM_n18 M), (cM_r452_0 M), (cM_k19 M), (cM_n19 M), (cM_r200_19 M), (cM_k20 M), (cM_n20 M), (cM_r453_0 M), (cM_k21 M), (cM_n21 M), (cM_r456_0 M), (cM_k22 M), (cM_n22 M), (cM_r458_0 M), (cM_k23 M), (cM_n23 M), (cM_r50_23 M), (cM_k24 M), (cM_n24 M), (cM_r51_23 M), (cM_k25 M), (cM_n25 M), (cM_r459_0 M), (cM_k26 M), (cM_n26 M), (cM_r102_26 M), (cM_k27 M), (cM_n27 M), (cM_r103_26 M), (cM_k28 M), (cM_n28 M), (cM_r104_26 M), (cM_k29 M), (cM_n29 M), (cM_r105_26 M), (cM_k30 M), (cM_n30 M), (cM_r300_30 M), (cM_k31 M), (cM_n31 M), (cM_r106_26 M), (cM_k32 M), (cM_n32 M), (cM_r107_26 M), (cM_k33 M), (cM_n33 M), (cM_r108_26 M), (cM_k34 M), (cM_n34 M), (cM_r460_0 M), (cM_k41 M), (cM_n41 M), (cM_r250_41 M), (cM_k42 M), (cM_n42 M), q_clamp, q_in, nI_leI, nI_ltI, nI_eq, ql_0, qL_0, qt_0, qT_0, qe_0, qc_0, qi_0, ql_1, qL_1, qt_1, qT_1, qe_1, qc_1, qi_1, ql_2, qL_2, qt_2, qT_2, qe_2, qc_2, qi_2, ql_3, qL_3, qt_3, qT_3, qe_3, qc_3, qi_3, ql_4, qL_4, qt_4, qT_4, qe_4, qc_4, qi_4, ql_6, qL_6, qt_6, qT_6, qe_6, qc_6, qi_6, ql_8, qL_8, qt_8, qT_8, qe_8, qc_8, qi_8, ql_10, qL_10, qt_10, qT_10, qe_10, qc_10, qi_10, ql_24, qL_24, qt_24, qT_24, qe_24, qc_24, qi_24, ql_60, qL_60, qt_60, qT_60, qe_60, qc_60, qi_60, ql_100, qL_100, qt_100, qT_100, qe_100, qc_100, qi_100, ql_200, qL_200, qt_200, qT_200, qe_200, qc_200, qi_200, ql_400, qL_400, qt_400, qT_400, qe_400, qc_400, qi_400, ql_600, qL_600, qt_600, qT_600, qe_600, qc_600, qi_600, ql_900, qL_900, qt_900, qT_900, qe_900, qc_900, qi_900, ql_1200, qL_1200, qt_1200, qT_1200, qe_1200, qc_1200, qi_1200, ql_65536, qL_65536, qt_65536, qT_65536, qe_65536, qc_65536, qi_65536, hmg, true_and, and_true, eq_self, forall_eq, forall_eq_apply_imp_iff]
  refine ⟨fun c => ?_, fun c => bad _ (by simp only [a_merge, hb, if_pos (mg_1 c)])⟩
  have hg := mg_0 c
  refine x_isClean R hw (fun hc => ⟨fun _ => ?_, fun c => absurd c (by decide)⟩) (fun hc => ⟨fun c => absurd rfl c, fun _ => bad _ (by simp only [a_merge, hb, if_neg hg, if_pos hc])⟩)
  have hcf : ¬ s.cln = false := by rw [hc]; decide
  have i1 : jI h 457 x 0 = nI s.hand := R.2.1.2.2.2
  have i2 : jI h 1000 (x + 22) s.hand = s.hd s.hand := R.2.1.2.2.1 s.hand p3
  have i3 : jI h 1000 (x + 22) b = s.hd b := R.2.1.2.2.1 b hb6
  have hdh : s.hd s.hand ≠ -1 := hw.2.2.2.2.2.2.1.2.1
  have cb : aCom (s.hd b) s.made := hw.2.2.2.2.2.1 b hb6
  have ch : aCom (s.hd s.hand) s.made := hw.2.2.2.2.2.1 s.hand p3
  have lb := lnO_hd hw hb6 o1
  have lh := lnO_hd hw p3 hdh
  rw [e]
  simp (disch := omega) only [(cM_k M), (cM_r450_0 M), (cM_k1 M), (cM_n1 M), (cM_r451_0 M), (cM_k17 M), (cM_n17 M), (cM_r400_17 M), (cM_k18 M), (cM_n18 M), (cM_r452_0 M), (cM_k19 M), (cM_n19 M), (cM_r200_19 M), (cM_k20 M), (cM_n20 M), (cM_r453_0 M), (cM_k21 M), (cM_n21 M), (cM_r456_0 M), (cM_k22 M), (cM_n22 M), (cM_r458_0 M), (cM_k23 M), (cM_n23 M), (cM_r50_23 M), (cM_k24 M), (cM_n24 M), (cM_r51_23 M), (cM_k25 M), (cM_n25 M), (cM_r459_0 M), (cM_k26 M), (cM_n26 M), (cM_r102_26 M), (cM_k27 M), (cM_n27 M), (cM_r103_26 M), (cM_k28 M), (cM_n28 M), (cM_r104_26 M), (cM_k29 M), (cM_n29 M), (cM_r105_26 M), (cM_k30 M), (cM_n30 M), (cM_r300_30 M), (cM_k31 M), (cM_n31 M), (cM_r106_26 M), (cM_k32 M), (cM_n32 M), (cM_r107_26 M), (cM_k33 M), (cM_n33 M), (cM_r108_26 M), (cM_k34 M), (cM_n34 M), (cM_r460_0 M), (cM_k41 M), (cM_n41 M), (cM_r250_41 M), (cM_k42 M), (cM_n42 M), q_clamp, q_in, nI_leI, nI_ltI, nI_eq, ql_0, qL_0, qt_0, qT_0, qe_0, qc_0, qi_0, ql_1, qL_1, qt_1, qT_1, qe_1, qc_1, qi_1, ql_2, qL_2, qt_2, qT_2, qe_2, qc_2, qi_2, ql_3, qL_3, qt_3, qT_3, qe_3, qc_3, qi_3, ql_4, qL_4, qt_4, qT_4, qe_4, qc_4, qi_4, ql_6, qL_6, qt_6, qT_6, qe_6, qc_6, qi_6, ql_8, qL_8, qt_8, qT_8, qe_8, qc_8, qi_8, ql_10, qL_10, qt_10, qT_10, qe_10, qc_10, qi_10, ql_24, qL_24, qt_24, qT_24, qe_24, qc_24, qi_24, ql_60, qL_60, qt_60, qT_60, qe_60, qc_60, qi_60, ql_100, qL_100, qt_100, qT_100, qe_100, qc_100, qi_100, ql_200, qL_200, qt_200, qT_200, qe_200, qc_200, qi_200, ql_400, qL_400, qt_400, qT_400, qe_400, qc_400, qi_400, ql_600, qL_600, qt_600, qT_600, qe_600, qc_600, qi_600, ql_900, qL_900, qt_900, qT_900, qe_900, qc_900, qi_900, ql_1200, qL_1200, qt_1200, qT_1200, qe_1200, qc_1200, qi_1200, ql_65536, qL_65536, qt_65536, qT_65536, qe_65536, qc_65536, qi_65536, i1, i2, i3, true_and, and_true, eq_self, forall_eq, forall_eq_apply_imp_iff]
  have st : jj_C mX9_isAncestor 0 0 [.ref x, .int (nI (s.hN b)), .int (s.hd s.hand)] h (fun v13 h12 => jj_vi (fun y14 => (y14 = 0 → jK h12 x = 10 ∧ (jj_C mX9_isAncestor 0 0 [.ref x, .int (nI (s.hN s.hand)), .int (s.hd b)] h12 (fun v18 h17 => jj_vi (fun y19 => (y19 = 0 → jK h17 x = 10 ∧ (jj_C mX9_lineOf 0 0 [.ref x, .int (s.hd s.hand)] h17 (fun v23 h22 => jj_vj (fun k24 => jK h22 x = 10 ∧ (jj_C mX9_lineOf 0 0 [.ref x, .int (s.hd b)] h22 (fun v27 h26 => jj_vj (fun k28 => jK h26 x = 10 ∧ (jj_C mX9_greatestOf 0 0 [.ref x, .long (k24 &&& k28)] h26 (fun v31 h30 => jj_vi (fun y32 => jK h30 x = 10 ∧ (jj_C mX9_beginMerge 0 0 [.ref x, .int y32, .int (nI (s.hN b)), .int (nI (s.hN b))] h30 (fun v35 h34 => jj_vi (fun y36 => Q (.int y36) h34) v35))) v31))) v27))) v23))) ∧ (¬ y19 = 0 → jK h17 x = 10 ∧ (jK h17 (jR h17 456 x 0) = 21 ∧ (vp_in (jI h17 457 x 0) (jN h17 (jR h17 456 x 0)) ∧ (jj_C mX9_loadWork 0 0 [.ref x] (wI h17 1000 (jR h17 456 x 0) (Int32.toNatClampNeg (jI h17 457 x 0)) (s.hd b)) (fun v40 h39 => Q (.int 1) h39)))))) v18))) ∧ (¬ y14 = 0 → Q (.int 0) h12)) v13) := by
    refine x_isAncestor R hw (by omega) ch (fun a1 => ⟨fun c => absurd c (by decide), fun _ => bad _ ?_⟩) (fun a1 => ⟨fun _ => ⟨cM_k M, x_isAncestor R hw (by omega) cb (fun a2 => ⟨fun c => absurd c (by decide), fun _ => ?_⟩) (fun a2 => ⟨fun _ => ⟨cM_k M, x_lineOf R hw ch ⟨cM_k M, x_lineOf R hw cb ⟨cM_k M, ?_⟩⟩⟩, fun c => absurd rfl c⟩)⟩, fun c => absurd rfl c⟩)
    · rw [lh] at a1
      simp only [a_merge, hb, if_neg hg, if_neg hcf, if_pos a1]
    · rw [lh] at a1
      rw [lb] at a2
      have a1' : ¬ bt (s.an (s.hN s.hand)) (s.hN b) = true := by rw [a1]; decide
      simp (disch := omega) only [(cM_k M), (cM_r450_0 M), (cM_k1 M), (cM_n1 M), (cM_r451_0 M), (cM_k17 M), (cM_n17 M), (cM_r400_17 M), (cM_k18 M), (cM_n18 M), (cM_r452_0 M), (cM_k19 M), (cM_n19 M), (cM_r200_19 M), (cM_k20 M), (cM_n20 M), (cM_r453_0 M), (cM_k21 M), (cM_n21 M), (cM_r456_0 M), (cM_k22 M), (cM_n22 M), (cM_r458_0 M), (cM_k23 M), (cM_n23 M), (cM_r50_23 M), (cM_k24 M), (cM_n24 M), (cM_r51_23 M), (cM_k25 M), (cM_n25 M), (cM_r459_0 M), (cM_k26 M), (cM_n26 M), (cM_r102_26 M), (cM_k27 M), (cM_n27 M), (cM_r103_26 M), (cM_k28 M), (cM_n28 M), (cM_r104_26 M), (cM_k29 M), (cM_n29 M), (cM_r105_26 M), (cM_k30 M), (cM_n30 M), (cM_r300_30 M), (cM_k31 M), (cM_n31 M), (cM_r106_26 M), (cM_k32 M), (cM_n32 M), (cM_r107_26 M), (cM_k33 M), (cM_n33 M), (cM_r108_26 M), (cM_k34 M), (cM_n34 M), (cM_r460_0 M), (cM_k41 M), (cM_n41 M), (cM_r250_41 M), (cM_k42 M), (cM_n42 M), q_clamp, q_in, nI_leI, nI_ltI, nI_eq, ql_0, qL_0, qt_0, qT_0, qe_0, qc_0, qi_0, ql_1, qL_1, qt_1, qT_1, qe_1, qc_1, qi_1, ql_2, qL_2, qt_2, qT_2, qe_2, qc_2, qi_2, ql_3, qL_3, qt_3, qT_3, qe_3, qc_3, qi_3, ql_4, qL_4, qt_4, qT_4, qe_4, qc_4, qi_4, ql_6, qL_6, qt_6, qT_6, qe_6, qc_6, qi_6, ql_8, qL_8, qt_8, qT_8, qe_8, qc_8, qi_8, ql_10, qL_10, qt_10, qT_10, qe_10, qc_10, qi_10, ql_24, qL_24, qt_24, qT_24, qe_24, qc_24, qi_24, ql_60, qL_60, qt_60, qT_60, qe_60, qc_60, qi_60, ql_100, qL_100, qt_100, qT_100, qe_100, qc_100, qi_100, ql_200, qL_200, qt_200, qT_200, qe_200, qc_200, qi_200, ql_400, qL_400, qt_400, qT_400, qe_400, qc_400, qi_400, ql_600, qL_600, qt_600, qT_600, qe_600, qc_600, qi_600, ql_900, qL_900, qt_900, qT_900, qe_900, qc_900, qi_900, ql_1200, qL_1200, qt_1200, qT_1200, qe_1200, qc_1200, qi_1200, ql_65536, qL_65536, qt_65536, qT_65536, qe_65536, qc_65536, qi_65536, i1, true_and, and_true, eq_self, forall_eq, forall_eq_apply_imp_iff]
      have g := R.head (b := s.hand) (v := s.hd b) hm V (fun z => absurd z hg)
      have e3 : (s.sh s.hand (s.hd b)).hd (s.sh s.hand (s.hd b)).hand = s.hd b := by
        show (if s.hand = s.hand then s.hd b else s.hd s.hand) = s.hd b
        rw [if_pos rfl]
      have e4 : (s.sh s.hand (s.hd b)).hN (s.sh s.hand (s.hd b)).hand = s.hN b := by
        unfold St.hN
        rw [e3]
      refine x_loadWork g.1 (sh_wf hw (Or.inr ⟨_, o2, o3⟩) (fun _ => o1) (head_here hw hb6)) fun h2 R2 F2 => ?_
      rw [e4] at R2
      have e2 : a_merge s y = (1, (s.sh s.hand (s.hd b)).wk3 (s.T (s.hN b))) := by simp only [a_merge, hb, if_neg hg, if_neg hcf, if_neg a1', if_pos a2]
      have HH := H h2 (by rw [e2]; exact R2) (g.2.trans F2)
      rw [e2] at HH
      exact HH
    · rw [lh] at a1
      rw [lb] at a2
      have a1' : ¬ bt (s.an (s.hN s.hand)) (s.hN b) = true := by rw [a1]; decide
      have a2' : ¬ bt (s.an (s.hN b)) (s.hN s.hand) = true := by rw [a2]; decide
      rw [lh, lb]
      refine x_greatestOf R hw (fun i h1 h2 => ?_) ⟨cM_k M, ?_⟩
      · rw [bt_and, Bool.and_eq_true] at h2
        have := (wf_an hw p2).2.2.1 i (by omega) h2.1
        omega
      · have bo := bas_ok hw p2 o3
        refine x_beginMerge (kd := 1) R hw hg (by show s.bas (s.hN s.hand) (s.hN b) < s.made; omega) o3 (bas_here hw p2 o3 (head_here hw p3 hdh)) (head_here hw hb6 o1) (Or.inl ⟨rfl, rfl⟩) fun h2 R2 F2 => ?_
        have e2 : a_merge s y = a_tog s (s.bas (s.hN s.hand) (s.hN b)) (s.hN b) 1 := by simp only [a_merge, hb, if_neg hg, if_neg hcf, if_neg a1', if_neg a2']
        have HH := H h2 (by rw [e2]; exact R2) F2
        rw [e2] at HH
        exact HH
  rw [← o2, ← p1] at st
  exact st
theorem x_refusal {y : Int32} (R : Rc h x m s n) (hw : s.wf) (Hr : ∀ v, v ≠ 0 → (∀ back, a_change s y back = (v, s)) → Q (.int v) h) (Hok : ∀ c, cAt s y = some c → s.fp c ≠ -1 → s.sp c = -1 → ¬ 0 < s.mg → s.cln = true → Q (.int 0) h) : jj_C mX9_refusalOfPick 0 0 [.ref x, .int y] h Q := by
  have M := R.M
  have hmg := R.mg
  refine EX9_refusalOfPick _ _ fun d => ⟨cM_k M, x_commitAt R hw (fun c hc => ?_) (fun hc => ⟨fun _ => Hr _ (by decide) (fun back => by simp only [a_change, hc]), fun c => absurd rfl c⟩)⟩
  obtain ⟨_, hc1, _⟩ := cAt_some hw hc
  obtain ⟨P, K⟩ := R.C hc1
  refine ⟨fun c => absurd c K.1.nz, fun _ => ⟨K.2.2.1, ?_⟩⟩
  rw [K.2.2.2.1, K.2.2.2.2.1]
  refine ⟨fun c1 => Hr _ (by decide) (fun back => by simp only [a_change, hc, if_pos (Or.inl c1)]), fun c1 => ⟨fun c2 => ?_, fun c2 => Hr _ (by decide) (fun back => by simp only [a_change, hc, if_pos (Or.inr c2)])⟩⟩
  have hn : ¬ (s.fp c = -1 ∨ s.sp c ≠ -1) := fun z => z.elim c1 (fun z => z c2)
  simp (disch := omega) only [(cM_k M), (cM_r450_0 M), (cM_k1 M), (cM_n1 M), (cM_r451_0 M), (cM_k17 M), (cM_n17 M), (cM_r400_17 M), (cM_k18 M), (cM_n18 M), (cM_r452_0 M), (cM_k19 M), (cM_n19 M), (cM_r200_19 M), (cM_k20 M), (cM_n20 M), (cM_r453_0 M), (cM_k21 M), (cM_n21 M), (cM_r456_0 M), (cM_k22 M), (cM_n22 M), (cM_r458_0 M), (cM_k23 M), (cM_n23 M), (cM_r50_23 M), (cM_k24 M), (cM_n24 M), (cM_r51_23 M), (cM_k25 M), (cM_n25 M), (cM_r459_0 M), (cM_k26 M), (cM_n26 M), (cM_r102_26 M), (cM_k27 M), (cM_n27 M), (cM_r103_26 M), (cM_k28 M), (cM_n28 M), (cM_r104_26 M), (cM_k29 M), (cM_n29 M), (cM_r105_26 M), (cM_k30 M), (cM_n30 M), (cM_r300_30 M), (cM_k31 M), (cM_n31 M), (cM_r106_26 M), (cM_k32 M), (cM_n32 M), (cM_r107_26 M), (cM_k33 M), (cM_n33 M), (cM_r108_26 M), (cM_k34 M), (cM_n34 M), (cM_r460_0 M), (cM_k41 M), (cM_n41 M), (cM_r250_41 M), (cM_k42 M), (cM_n42 M), hmg, true_and, and_true, eq_self, forall_eq, forall_eq_apply_imp_iff]
  refine ⟨fun c3 => ?_, fun c3 => Hr _ (by decide) (fun back => by simp only [a_change, hc, if_neg hn, if_pos (mg_1 c3)])⟩
  have hg := mg_0 c3
  exact x_isClean R hw (fun hcl => ⟨fun c => absurd c (by decide), fun _ => Hok c hc c1 c2 hg hcl⟩) (fun hcl => ⟨fun _ => Hr _ (by decide) (fun back => by simp only [a_change, hc, if_neg hn, if_neg hg, if_pos hcl]), fun c => absurd rfl c⟩)
theorem x_pick {y : Int32} (R : Rc h x m s n) (hw : s.wf) (H : ∀ h', Rc h' x m (a_change s y false).2 n → xF h h' x m → Q (.int (a_change s y false).1) h') : jj_C mX9_pick 0 0 [.ref x, .int y] h Q := by
  have M := R.M
  have hm := hw.1.2
  refine EX9_pick _ _ fun d => ⟨cM_k M, x_refusal R hw (fun v hv e => ⟨fun c => absurd c hv, fun _ => ?_⟩) (fun c hc f1 f2 hg hcl => ⟨fun _ => ?_, fun c => absurd rfl c⟩)⟩
  · have HH := H h (by rw [e]; exact R) xF.rf
    rw [e] at HH
    exact HH
  · obtain ⟨e, hc1, hc2, _⟩ := cAt_some hw hc
    obtain ⟨g1, g2⟩ := fN_ok hw hc1 f1
    have g3 := fN_here hw hc1 hc2 f1
    have ep : a_parent s y 0 = nI (s.fN c) := by
      unfold a_parent
      rw [hc]
      show (if (0 : Int32) = 0 then s.fp c else _) = _
      rw [if_pos rfl]
      exact g1
    have hn : ¬ (s.fp c = -1 ∨ s.sp c ≠ -1) := fun z => z.elim f1 (fun z => z f2)
    have hcf : ¬ s.cln = false := by rw [hcl]; decide
    have e2 : a_change s y false = a_tog s (s.fN c) c 2 := by simp only [a_change, hc, if_neg hn, if_neg hg, if_neg hcf]; rfl
    rw [e2] at H
    rw [e]
    refine ⟨cM_k M, x_parent R hw ?_⟩
    rw [← e, ep, e]
    refine ⟨cM_k M, ?_⟩
    exact x_beginMerge (kd := 2) R hw hg g2 hc1 g3 hc2 (Or.inr ⟨rfl, rfl⟩) H
theorem x_undo {y : Int32} (R : Rc h x m s n) (hw : s.wf) (H : ∀ h', Rc h' x m (a_change s y true).2 n → xF h h' x m → Q (.int (a_change s y true).1) h') : jj_C mX9_undo 0 0 [.ref x, .int y] h Q := by
  have M := R.M
  have hm := hw.1.2
  refine EX9_undo _ _ fun d => ⟨cM_k M, x_refusal R hw (fun v hv e => ⟨fun c => absurd c hv, fun _ => ?_⟩) (fun c hc f1 f2 hg hcl => ⟨fun _ => ?_, fun c => absurd rfl c⟩)⟩
  · have HH := H h (by rw [e]; exact R) xF.rf
    rw [e] at HH
    exact HH
  · obtain ⟨e, hc1, hc2, _⟩ := cAt_some hw hc
    obtain ⟨g1, g2⟩ := fN_ok hw hc1 f1
    have g3 := fN_here hw hc1 hc2 f1
    have ep : a_parent s y 0 = nI (s.fN c) := by
      unfold a_parent
      rw [hc]
      show (if (0 : Int32) = 0 then s.fp c else _) = _
      rw [if_pos rfl]
      exact g1
    have hn : ¬ (s.fp c = -1 ∨ s.sp c ≠ -1) := fun z => z.elim f1 (fun z => z f2)
    have hcf : ¬ s.cln = false := by rw [hcl]; decide
    have e2 : a_change s y true = a_tog s c (s.fN c) 2 := by simp only [a_change, hc, if_neg hn, if_neg hg, if_neg hcf]; rfl
    rw [e2] at H
    rw [e]
    refine ⟨cM_k M, x_parent R hw ?_⟩
    rw [← e, ep, e]
    refine ⟨cM_k M, ?_⟩
    exact x_beginMerge (kd := 2) R hw hg hc1 g2 hc2 g3 (Or.inr ⟨rfl, rfl⟩) H
theorem x_hasB {y : Int32} (R : Rc h x m s n) (H1 : ∀ b, lim 6 y = some b → s.th b ≠ -1 → Q (.int 1) h) (H0 : (lim 6 y = none ∨ ∃ b, lim 6 y = some b ∧ s.th b = -1) → Q (.int 0) h) : jj_C mX5_hasBranch 0 0 [.ref (x + 41), .int y] h Q := by
  have M := R.M
  refine EX5_hasBranch _ _ fun d => x_isBranch (fun b hb => ?_) (fun hb => ⟨fun _ => H0 (Or.inl hb), fun c => absurd rfl c⟩)
  obtain ⟨e, hb6⟩ := lim_some (by decide) hb
  have hh := R.2.2.2.2.2.2 b hb6
  refine ⟨fun c => absurd c (by decide), fun _ => ?_⟩
  rw [e]
  simp (disch := omega) only [(cM_k M), (cM_r450_0 M), (cM_k1 M), (cM_n1 M), (cM_r451_0 M), (cM_k17 M), (cM_n17 M), (cM_r400_17 M), (cM_k18 M), (cM_n18 M), (cM_r452_0 M), (cM_k19 M), (cM_n19 M), (cM_r200_19 M), (cM_k20 M), (cM_n20 M), (cM_r453_0 M), (cM_k21 M), (cM_n21 M), (cM_r456_0 M), (cM_k22 M), (cM_n22 M), (cM_r458_0 M), (cM_k23 M), (cM_n23 M), (cM_r50_23 M), (cM_k24 M), (cM_n24 M), (cM_r51_23 M), (cM_k25 M), (cM_n25 M), (cM_r459_0 M), (cM_k26 M), (cM_n26 M), (cM_r102_26 M), (cM_k27 M), (cM_n27 M), (cM_r103_26 M), (cM_k28 M), (cM_n28 M), (cM_r104_26 M), (cM_k29 M), (cM_n29 M), (cM_r105_26 M), (cM_k30 M), (cM_n30 M), (cM_r300_30 M), (cM_k31 M), (cM_n31 M), (cM_r106_26 M), (cM_k32 M), (cM_n32 M), (cM_r107_26 M), (cM_k33 M), (cM_n33 M), (cM_r108_26 M), (cM_k34 M), (cM_n34 M), (cM_r460_0 M), (cM_k41 M), (cM_n41 M), (cM_r250_41 M), (cM_k42 M), (cM_n42 M), q_clamp, q_in, nI_leI, nI_ltI, nI_eq, ql_0, qL_0, qt_0, qT_0, qe_0, qc_0, qi_0, ql_1, qL_1, qt_1, qT_1, qe_1, qc_1, qi_1, ql_2, qL_2, qt_2, qT_2, qe_2, qc_2, qi_2, ql_3, qL_3, qt_3, qT_3, qe_3, qc_3, qi_3, ql_4, qL_4, qt_4, qT_4, qe_4, qc_4, qi_4, ql_6, qL_6, qt_6, qT_6, qe_6, qc_6, qi_6, ql_8, qL_8, qt_8, qT_8, qe_8, qc_8, qi_8, ql_10, qL_10, qt_10, qT_10, qe_10, qc_10, qi_10, ql_24, qL_24, qt_24, qT_24, qe_24, qc_24, qi_24, ql_60, qL_60, qt_60, qT_60, qe_60, qc_60, qi_60, ql_100, qL_100, qt_100, qT_100, qe_100, qc_100, qi_100, ql_200, qL_200, qt_200, qT_200, qe_200, qc_200, qi_200, ql_400, qL_400, qt_400, qT_400, qe_400, qc_400, qi_400, ql_600, qL_600, qt_600, qT_600, qe_600, qc_600, qi_600, ql_900, qL_900, qt_900, qT_900, qe_900, qc_900, qi_900, ql_1200, qL_1200, qt_1200, qT_1200, qe_1200, qc_1200, qi_1200, ql_65536, qL_65536, qt_65536, qT_65536, qe_65536, qc_65536, qi_65536, hh, true_and, and_true, eq_self, forall_eq, forall_eq_apply_imp_iff]
  exact ⟨fun c => H0 (Or.inr ⟨b, hb, c⟩), fun c => H1 b hb c⟩
theorem x_there {y : Int32} (R : Rc h x m s n) (H : Q (.int (a_there s y)) h) : jj_C mX9_there 0 0 [.ref x, .int y] h Q := by
  have M := R.M
  unfold a_there at H
  refine EX9_there _ _ fun d => ⟨cM_k M, by rw [cM_r460_0 M]; exact cM_k41 M, ?_⟩
  rw [cM_r460_0 M]
  refine x_hasB R (fun b hb hh => ⟨fun c => absurd c (by decide), fun _ => ?_⟩) (fun e => ⟨fun _ => ?_, fun c => absurd rfl c⟩)
  · obtain ⟨e, hb6⟩ := lim_some (by decide) hb
    have h2 := R.2.2.2.2.2.2 b hb6
    rw [hb] at H
    simp only at H
    rw [if_neg hh] at H
    rw [e]
    simp (disch := omega) only [(cM_k M), (cM_r450_0 M), (cM_k1 M), (cM_n1 M), (cM_r451_0 M), (cM_k17 M), (cM_n17 M), (cM_r400_17 M), (cM_k18 M), (cM_n18 M), (cM_r452_0 M), (cM_k19 M), (cM_n19 M), (cM_r200_19 M), (cM_k20 M), (cM_n20 M), (cM_r453_0 M), (cM_k21 M), (cM_n21 M), (cM_r456_0 M), (cM_k22 M), (cM_n22 M), (cM_r458_0 M), (cM_k23 M), (cM_n23 M), (cM_r50_23 M), (cM_k24 M), (cM_n24 M), (cM_r51_23 M), (cM_k25 M), (cM_n25 M), (cM_r459_0 M), (cM_k26 M), (cM_n26 M), (cM_r102_26 M), (cM_k27 M), (cM_n27 M), (cM_r103_26 M), (cM_k28 M), (cM_n28 M), (cM_r104_26 M), (cM_k29 M), (cM_n29 M), (cM_r105_26 M), (cM_k30 M), (cM_n30 M), (cM_r300_30 M), (cM_k31 M), (cM_n31 M), (cM_r106_26 M), (cM_k32 M), (cM_n32 M), (cM_r107_26 M), (cM_k33 M), (cM_n33 M), (cM_r108_26 M), (cM_k34 M), (cM_n34 M), (cM_r460_0 M), (cM_k41 M), (cM_n41 M), (cM_r250_41 M), (cM_k42 M), (cM_n42 M), q_clamp, q_in, nI_leI, nI_ltI, nI_eq, ql_0, qL_0, qt_0, qT_0, qe_0, qc_0, qi_0, ql_1, qL_1, qt_1, qT_1, qe_1, qc_1, qi_1, ql_2, qL_2, qt_2, qT_2, qe_2, qc_2, qi_2, ql_3, qL_3, qt_3, qT_3, qe_3, qc_3, qi_3, ql_4, qL_4, qt_4, qT_4, qe_4, qc_4, qi_4, ql_6, qL_6, qt_6, qT_6, qe_6, qc_6, qi_6, ql_8, qL_8, qt_8, qT_8, qe_8, qc_8, qi_8, ql_10, qL_10, qt_10, qT_10, qe_10, qc_10, qi_10, ql_24, qL_24, qt_24, qT_24, qe_24, qc_24, qi_24, ql_60, qL_60, qt_60, qT_60, qe_60, qc_60, qi_60, ql_100, qL_100, qt_100, qT_100, qe_100, qc_100, qi_100, ql_200, qL_200, qt_200, qT_200, qe_200, qc_200, qi_200, ql_400, qL_400, qt_400, qT_400, qe_400, qc_400, qi_400, ql_600, qL_600, qt_600, qT_600, qe_600, qc_600, qi_600, ql_900, qL_900, qt_900, qT_900, qe_900, qc_900, qi_900, ql_1200, qL_1200, qt_1200, qT_1200, qe_1200, qc_1200, qi_1200, ql_65536, qL_65536, qt_65536, qT_65536, qe_65536, qc_65536, qi_65536, h2, true_and, and_true, eq_self, forall_eq, forall_eq_apply_imp_iff]
    exact H
  · rcases e with e | ⟨b, e1, e2⟩
    · rw [e] at H; exact H
    · rw [e1] at H
      simp only at H
      rw [if_pos e2] at H
      exact H
theorem x_kept {y : Int32} (R : Rc h x m s n) (hw : s.wf) (H : Q (.int (a_kept s y)) h) : jj_C mX9_kept 0 0 [.ref x, .int y] h Q := by
  have M := R.M
  have hm := hw.1.2
  have c1 := R.2.2.2.2.2.1
  have c2 := R.2.2.2.2.1
  have e0 : (y.toInt = 0) = (y = 0) := toInt_eq (k := 0) (by decide)
  have e1 : (y.toInt = 1) = (y = 1) := toInt_eq (k := 1) (by decide)
  unfold a_kept at H
  refine EX9_kept _ _ fun d => ?_
  rw [e0, e1, cM_r460_0 M, c1, c2]
  refine ⟨fun c => ⟨cM_k M, cM_k41 M, ?_⟩, fun c => ⟨fun c3 => ⟨cM_k M, cM_k41 M, c_bitCount ?_⟩, fun c3 => ?_⟩⟩
  · rw [if_pos c] at H; exact H
  · rw [if_neg c, if_pos c3] at H
    rw [pc_60 fun i h1 h2 => by have := hw.2.2.2.2.2.2.2.2.2.1 i h1 h2; omega]
    exact H
  · rw [if_neg c, if_neg c3] at H; exact H
theorem x_fetch {y : Int32} (R : Rc h x m s n) (hw : s.wf) (H : ∀ h', Rc h' x m (a_fetch s y).2 n → xF h h' x m → Q (.int (a_fetch s y).1) h') : jj_C mX9_fetch 0 0 [.ref x, .int y] h Q := by
  refine jV_C (by decide +kernel) fun V => ?_
  have bad : ∀ v', a_fetch s y = (v', s) → Q (.int v') h := fun v' e => by
    have := H h (by rw [e]; exact R) xF.rf
    rw [e] at this
    exact this
  have M := R.M
  have hm := hw.1.2
  have hmg := R.mg
  refine EX9_fetch _ _ fun d => ⟨cM_k M, by rw [cM_r460_0 M]; exact cM_k41 M, ?_⟩
  rw [cM_r460_0 M]
  refine x_hasB R (fun b hb hh => ⟨fun _ => ?_, fun c => absurd c (by decide)⟩) (fun e => ⟨fun c => absurd rfl c, fun _ => bad _ ?_⟩)
  · obtain ⟨e, hb6⟩ := lim_some (by decide) hb
    obtain ⟨p1, p2, p3⟩ := hand_ok hw
    have h2 := R.2.2.2.2.2.2 b hb6
    have i1 : jI h 457 x 0 = nI s.hand := R.2.1.2.2.2
    have i3 : jI h 1000 (x + 22) b = s.hd b := R.2.1.2.2.1 b hb6
    have ct : aCom (s.th b) s.made := hw.2.2.2.2.2.2.2.2.2.2 b hb6
    have et : s.th b = nI (s.tN b) ∧ s.tN b < s.made := by
      rcases ct with q | ⟨k, q, hk⟩
      · exact absurd q hh
      · have : s.tN b = k := by unfold St.tN; rw [q, q_clamp (by omega)]
        rw [this]; exact ⟨q, hk⟩
    have lt : lnO s (s.th b) = s.an (s.tN b) := by unfold lnO; rw [if_neg hh]; rfl
    -- the last part
    have fin : ∀ f : Int32, (f = 0 ∧ b ≠ s.hand ∨ f = 1 ∧ b = s.hand ∧ ¬ 0 < s.mg) → ¬ ((s.hd b ≠ -1 ∧ bt (s.an (s.tN b)) (s.hN b) = false) ∨ (b = s.hand ∧ s.cln = false)) → jj_WP d mX9_fetch 0 0 94 [(0, .ref x), (1, .int (nI b)), (2, .int (s.th b)), (3, .int f)] [] h Q := by
      intro f hf hno
      have hgn : ¬ (b = s.hand ∧ 0 < s.mg) := fun z => by
        rcases hf with q | q
        · exact q.2 z.1
        · exact q.2.2 z.2
      have i4 : jL h 455 x 0 = s.here := R.2.1.2.1
      have ea : a_fetch s y = (s.th b, if b = s.hand then (s.ftc b).wk3 (s.T (s.tN b)) else s.ftc b) := by simp only [a_fetch, hb, if_neg hh, if_neg hno, if_neg hgn]
      refine VX9_fetch_94 _ _ _ _ ⟨cM_k M, x_lineOf R hw ct ⟨cM_k M, ?_⟩⟩
      rintro _ rfl
      rw [lt, i4]
      have g1 := R.here (v := s.here ||| s.an (s.tN b)) hm V
      have g2 := g1.1.head (b := b) (v := s.th b) hm (show jj_V _ from V) (fun z => by
        rcases hf with q | q
        · exact q.2
        · exact absurd z q.2.2)
      have M1 := g1.1.M
      have e456 : jR (wL h 455 x 0 (s.here ||| s.an (s.tN b))) 456 x 0 = x + 22 := cM_r456_0 M1
      rw [e456, q_clamp (by omega)]
      refine ⟨cM_k22 M, by rw [cM_n22 M]; exact vp_in_nI hb6 (by decide), ?_⟩
      rintro _ rfl
      rcases hf with ⟨rfl, hf⟩ | ⟨rfl, hf, hg⟩
      · refine ⟨fun _ => ?_, fun c => absurd rfl c⟩
        rw [if_neg hf] at ea
        have HH := H _ (by rw [ea]; exact g2.1) (g1.2.trans g2.2)
        rw [ea] at HH
        exact HH
      · refine ⟨fun c => absurd c (by decide), fun _ => ?_⟩
        rw [if_pos hf] at ea
        have e3 : (s.ftc b).hd (s.ftc b).hand = s.th b := by
          show (if s.hand = b then s.th b else s.hd s.hand) = s.th b
          rw [if_pos hf.symm]
        have e4 : (s.ftc b).hN (s.ftc b).hand = s.tN b := by
          unfold St.hN St.tN
          rw [e3]
        have R2 : Rc _ x m (s.ftc b) n := g2.1
        refine x_loadWork R2 (ftc_wf hw hb6 hh) fun h2 R3 F3 => ?_
        rw [e4] at R3
        have HH := H h2 (by rw [ea]; exact R3) ((g1.2.trans g2.2).trans F3)
        rw [ea] at HH
        exact HH
    have mid : ∀ f : Int32, (f = 0 ∧ b ≠ s.hand ∨ f = 1 ∧ b = s.hand) → ¬ (s.hd b ≠ -1 ∧ bt (s.an (s.tN b)) (s.hN b) = false) → jj_WP d mX9_fetch 0 0 63 [(0, .ref x), (1, .int (nI b)), (2, .int (s.th b)), (3, .int f)] [] h Q := by
      intro f hf hno
      rcases hf with ⟨rfl, hf⟩ | ⟨rfl, hf⟩
      · exact VX9_fetch_63 _ _ _ _ ⟨fun _ => ⟨fun _ => fin 0 (Or.inl ⟨rfl, hf⟩) (fun z => z.elim hno (fun z => hf z.1)), fun c => absurd rfl c⟩, fun c => absurd rfl c⟩
      · refine VX9_fetch_63 _ _ _ _ ⟨fun c => absurd c (by decide), fun _ => ⟨cM_k M, x_isClean R hw (fun hc => ⟨fun _ => ⟨fun c => absurd c (by decide), fun _ => ?_⟩, fun c => absurd c (by decide)⟩) (fun hc => ⟨fun c => absurd rfl c, fun _ => bad _ ?_⟩)⟩⟩
        · have hno2 : ¬ ((s.hd b ≠ -1 ∧ bt (s.an (s.tN b)) (s.hN b) = false) ∨ (b = s.hand ∧ s.cln = false)) := fun z => z.elim hno (fun z => by rw [hc] at z; exact absurd z.2 (by decide))
          simp (disch := omega) only [(cM_k M), (cM_r450_0 M), (cM_k1 M), (cM_n1 M), (cM_r451_0 M), (cM_k17 M), (cM_n17 M), (cM_r400_17 M), (cM_k18 M), (cM_n18 M), (cM_r452_0 M), (cM_k19 M), (cM_n19 M), (cM_r200_19 M), (cM_k20 M), (cM_n20 M), (cM_r453_0 M), (cM_k21 M), (cM_n21 M), (cM_r456_0 M), (cM_k22 M), (cM_n22 M), (cM_r458_0 M), (cM_k23 M), (cM_n23 M), (cM_r50_23 M), (cM_k24 M), (cM_n24 M), (cM_r51_23 M), (cM_k25 M), (cM_n25 M), (cM_r459_0 M), (cM_k26 M), (cM_n26 M), (cM_r102_26 M), (cM_k27 M), (cM_n27 M), (cM_r103_26 M), (cM_k28 M), (cM_n28 M), (cM_r104_26 M), (cM_k29 M), (cM_n29 M), (cM_r105_26 M), (cM_k30 M), (cM_n30 M), (cM_r300_30 M), (cM_k31 M), (cM_n31 M), (cM_r106_26 M), (cM_k32 M), (cM_n32 M), (cM_r107_26 M), (cM_k33 M), (cM_n33 M), (cM_r108_26 M), (cM_k34 M), (cM_n34 M), (cM_r460_0 M), (cM_k41 M), (cM_n41 M), (cM_r250_41 M), (cM_k42 M), (cM_n42 M), hmg, true_and, and_true, eq_self, forall_eq, forall_eq_apply_imp_iff]
          refine ⟨fun c => fin 1 (Or.inr ⟨rfl, hf, mg_0 c⟩) hno2, fun c => bad _ ?_⟩
          simp only [a_fetch, hb, if_neg hh, if_neg hno2, if_pos (show b = s.hand ∧ 0 < s.mg from ⟨hf, mg_1 c⟩)]
        · simp only [a_fetch, hb, if_neg hh, if_pos (show ((s.hd b ≠ -1 ∧ bt (s.an (s.tN b)) (s.hN b) = false) ∨ (b = s.hand ∧ s.cln = false)) from Or.inr ⟨hf, hc⟩)]
    have st37 : ∀ f : Int32, (f = 0 ∧ b ≠ s.hand ∨ f = 1 ∧ b = s.hand) → jj_WP d mX9_fetch 0 0 37 [(0, .ref x), (1, .int (nI b)), (2, .int (s.th b))] [.int f] h Q := by
      intro f hf
      refine VX9_fetch_37 _ _ _ _ ⟨cM_k M, x_isHere R (fun b' hb' => ⟨fun c => absurd c (by decide), fun _ => ?_⟩) (fun hb' => ⟨fun _ => mid f hf ?_, fun c => absurd rfl c⟩)⟩
      · obtain ⟨q1, q2, q3, q4, q5, q6⟩ := bAt_some hw hb'
        have : b' = b := by
          have := q6
          rw [lim_nI (by decide) hb6] at this
          exact (Option.some.inj this).symm
        subst this
        simp (disch := omega) only [(cM_k M), (cM_r450_0 M), (cM_k1 M), (cM_n1 M), (cM_r451_0 M), (cM_k17 M), (cM_n17 M), (cM_r400_17 M), (cM_k18 M), (cM_n18 M), (cM_r452_0 M), (cM_k19 M), (cM_n19 M), (cM_r200_19 M), (cM_k20 M), (cM_n20 M), (cM_r453_0 M), (cM_k21 M), (cM_n21 M), (cM_r456_0 M), (cM_k22 M), (cM_n22 M), (cM_r458_0 M), (cM_k23 M), (cM_n23 M), (cM_r50_23 M), (cM_k24 M), (cM_n24 M), (cM_r51_23 M), (cM_k25 M), (cM_n25 M), (cM_r459_0 M), (cM_k26 M), (cM_n26 M), (cM_r102_26 M), (cM_k27 M), (cM_n27 M), (cM_r103_26 M), (cM_k28 M), (cM_n28 M), (cM_r104_26 M), (cM_k29 M), (cM_n29 M), (cM_r105_26 M), (cM_k30 M), (cM_n30 M), (cM_r300_30 M), (cM_k31 M), (cM_n31 M), (cM_r106_26 M), (cM_k32 M), (cM_n32 M), (cM_r107_26 M), (cM_k33 M), (cM_n33 M), (cM_r108_26 M), (cM_k34 M), (cM_n34 M), (cM_r460_0 M), (cM_k41 M), (cM_n41 M), (cM_r250_41 M), (cM_k42 M), (cM_n42 M), q_clamp, q_in, nI_leI, nI_ltI, nI_eq, ql_0, qL_0, qt_0, qT_0, qe_0, qc_0, qi_0, ql_1, qL_1, qt_1, qT_1, qe_1, qc_1, qi_1, ql_2, qL_2, qt_2, qT_2, qe_2, qc_2, qi_2, ql_3, qL_3, qt_3, qT_3, qe_3, qc_3, qi_3, ql_4, qL_4, qt_4, qT_4, qe_4, qc_4, qi_4, ql_6, qL_6, qt_6, qT_6, qe_6, qc_6, qi_6, ql_8, qL_8, qt_8, qT_8, qe_8, qc_8, qi_8, ql_10, qL_10, qt_10, qT_10, qe_10, qc_10, qi_10, ql_24, qL_24, qt_24, qT_24, qe_24, qc_24, qi_24, ql_60, qL_60, qt_60, qT_60, qe_60, qc_60, qi_60, ql_100, qL_100, qt_100, qT_100, qe_100, qc_100, qi_100, ql_200, qL_200, qt_200, qT_200, qe_200, qc_200, qi_200, ql_400, qL_400, qt_400, qT_400, qe_400, qc_400, qi_400, ql_600, qL_600, qt_600, qT_600, qe_600, qc_600, qi_600, ql_900, qL_900, qt_900, qT_900, qe_900, qc_900, qi_900, ql_1200, qL_1200, qt_1200, qT_1200, qe_1200, qc_1200, qi_1200, ql_65536, qL_65536, qt_65536, qT_65536, qe_65536, qc_65536, qi_65536, i3, true_and, and_true, eq_self, forall_eq, forall_eq_apply_imp_iff]
        rw [q4]
        refine x_isAncestor R hw (by omega) ct (fun a1 => ⟨fun _ => mid f hf ?_, fun c => absurd c (by decide)⟩) (fun a1 => ⟨fun c => absurd rfl c, fun _ => bad _ ?_⟩)
        · rw [lt] at a1
          exact fun z => by rw [a1] at z; exact absurd z.2 (by decide)
        · rw [lt] at a1
          simp only [a_fetch, hb, if_neg hh, if_pos (show ((s.hd b' ≠ -1 ∧ bt (s.an (s.tN b')) (s.hN b') = false) ∨ (b' = s.hand ∧ s.cln = false)) from Or.inl ⟨q3, a1⟩)]
      · have hd : s.hd b = -1 := by
          unfold bAt at hb'
          rw [lim_nI (by decide) hb6] at hb'
          simp only at hb'
          split at hb'
          · next q => exact q
          · cases hb'
        exact fun z => z.1 hd
    rw [e]
    simp (disch := omega) only [(cM_k M), (cM_r450_0 M), (cM_k1 M), (cM_n1 M), (cM_r451_0 M), (cM_k17 M), (cM_n17 M), (cM_r400_17 M), (cM_k18 M), (cM_n18 M), (cM_r452_0 M), (cM_k19 M), (cM_n19 M), (cM_r200_19 M), (cM_k20 M), (cM_n20 M), (cM_r453_0 M), (cM_k21 M), (cM_n21 M), (cM_r456_0 M), (cM_k22 M), (cM_n22 M), (cM_r458_0 M), (cM_k23 M), (cM_n23 M), (cM_r50_23 M), (cM_k24 M), (cM_n24 M), (cM_r51_23 M), (cM_k25 M), (cM_n25 M), (cM_r459_0 M), (cM_k26 M), (cM_n26 M), (cM_r102_26 M), (cM_k27 M), (cM_n27 M), (cM_r103_26 M), (cM_k28 M), (cM_n28 M), (cM_r104_26 M), (cM_k29 M), (cM_n29 M), (cM_r105_26 M), (cM_k30 M), (cM_n30 M), (cM_r300_30 M), (cM_k31 M), (cM_n31 M), (cM_r106_26 M), (cM_k32 M), (cM_n32 M), (cM_r107_26 M), (cM_k33 M), (cM_n33 M), (cM_r108_26 M), (cM_k34 M), (cM_n34 M), (cM_r460_0 M), (cM_k41 M), (cM_n41 M), (cM_r250_41 M), (cM_k42 M), (cM_n42 M), q_clamp, q_in, nI_leI, nI_ltI, nI_eq, ql_0, qL_0, qt_0, qT_0, qe_0, qc_0, qi_0, ql_1, qL_1, qt_1, qT_1, qe_1, qc_1, qi_1, ql_2, qL_2, qt_2, qT_2, qe_2, qc_2, qi_2, ql_3, qL_3, qt_3, qT_3, qe_3, qc_3, qi_3, ql_4, qL_4, qt_4, qT_4, qe_4, qc_4, qi_4, ql_6, qL_6, qt_6, qT_6, qe_6, qc_6, qi_6, ql_8, qL_8, qt_8, qT_8, qe_8, qc_8, qi_8, ql_10, qL_10, qt_10, qT_10, qe_10, qc_10, qi_10, ql_24, qL_24, qt_24, qT_24, qe_24, qc_24, qi_24, ql_60, qL_60, qt_60, qT_60, qe_60, qc_60, qi_60, ql_100, qL_100, qt_100, qT_100, qe_100, qc_100, qi_100, ql_200, qL_200, qt_200, qT_200, qe_200, qc_200, qi_200, ql_400, qL_400, qt_400, qT_400, qe_400, qc_400, qi_400, ql_600, qL_600, qt_600, qT_600, qe_600, qc_600, qi_600, ql_900, qL_900, qt_900, qT_900, qe_900, qc_900, qi_900, ql_1200, qL_1200, qt_1200, qT_1200, qe_1200, qc_1200, qi_1200, ql_65536, qL_65536, qt_65536, qT_65536, qe_65536, qc_65536, qi_65536, i1, h2, true_and, and_true, eq_self, forall_eq, forall_eq_apply_imp_iff]
    exact ⟨fun c => st37 0 (Or.inl ⟨rfl, c⟩), fun c => st37 1 (Or.inr ⟨rfl, c⟩)⟩
  · rcases e with e | ⟨b, e1, e2⟩
    · simp only [a_fetch, e]
    · simp only [a_fetch, e1, if_pos e2]
end JG5
