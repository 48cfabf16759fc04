/-! the class: commits -/
def St.add (s : St) (v1 v2 : Int32) : St := (s.set1 (fun p t => if p = s.made then s.T 60 t else s.T p t)).set2 (s.made + 1, s.here ||| shl s.made, (fun c => if c = s.made then v1 else s.fp c), (fun c => if c = s.made then v2 else s.sp c), (fun c => if c = s.made then (shl s.made ||| lnO s v1) ||| lnO s v2 else s.an c))
section JCp
variable {h h' g g' : jj_H} {x m n t : Nat} {s : St} {P P' : Pl} {Q : Value → jj_H → Prop} {T : Nat → Nat → Prop}
theorem x_ln {v : Int32} (R : Rc h x m s n) (hm : s.made ≤ 60) (hv : aCom v s.made) (H : Q (.long (lnO s v)) h) : jj_C mX9_lineOf 0 0 [.ref x, .int v] h Q := by
  have M := R.M
  have i1 := R.2.1.1
  refine EX9_lineOf _ _ fun d => ?_
  rcases hv with rfl | ⟨k, rfl, hk⟩
  · exact ⟨fun _ => by unfold lnO at H; rw [if_pos rfl] at H; exact H, fun c => absurd (by decide) c⟩
  · obtain ⟨P, K⟩ := R.C hk
    have nz := K.1.nz
    have kk := K.2.2.1
    have kl := K.2.2.2.2.2.1
    unfold cad at nz kk kl
    simp (disch := omega) only [(cM_k M), (cM_r450_0 M), (cM_k1 M), (cM_n1 M), (cM_r451_0 M), (cM_k17 M), (cM_n17 M), (cM_r400_17 M), (cM_k18 M), (cM_n18 M), (cM_r452_0 M), (cM_k19 M), (cM_n19 M), (cM_r200_19 M), (cM_k20 M), (cM_n20 M), (cM_r453_0 M), (cM_k21 M), (cM_n21 M), (cM_r456_0 M), (cM_k22 M), (cM_n22 M), (cM_r458_0 M), (cM_k23 M), (cM_n23 M), (cM_r50_23 M), (cM_k24 M), (cM_n24 M), (cM_r51_23 M), (cM_k25 M), (cM_n25 M), (cM_r459_0 M), (cM_k26 M), (cM_n26 M), (cM_r102_26 M), (cM_k27 M), (cM_n27 M), (cM_r103_26 M), (cM_k28 M), (cM_n28 M), (cM_r104_26 M), (cM_k29 M), (cM_n29 M), (cM_r105_26 M), (cM_k30 M), (cM_n30 M), (cM_r300_30 M), (cM_k31 M), (cM_n31 M), (cM_r106_26 M), (cM_k32 M), (cM_n32 M), (cM_r107_26 M), (cM_k33 M), (cM_n33 M), (cM_r108_26 M), (cM_k34 M), (cM_n34 M), (cM_r460_0 M), (cM_k41 M), (cM_n41 M), (cM_r250_41 M), (cM_k42 M), (cM_n42 M), i1, q_clamp, q_in, nI_leI, nI_ltI, nI_eq, ql_0, qL_0, qt_0, qT_0, qe_0, qc_0, qi_0, ql_1, qL_1, qt_1, qT_1, qe_1, qc_1, qi_1, ql_2, qL_2, qt_2, qT_2, qe_2, qc_2, qi_2, ql_3, qL_3, qt_3, qT_3, qe_3, qc_3, qi_3, ql_4, qL_4, qt_4, qT_4, qe_4, qc_4, qi_4, ql_6, qL_6, qt_6, qT_6, qe_6, qc_6, qi_6, ql_8, qL_8, qt_8, qT_8, qe_8, qc_8, qi_8, ql_10, qL_10, qt_10, qT_10, qe_10, qc_10, qi_10, ql_24, qL_24, qt_24, qT_24, qe_24, qc_24, qi_24, ql_60, qL_60, qt_60, qT_60, qe_60, qc_60, qi_60, ql_100, qL_100, qt_100, qT_100, qe_100, qc_100, qi_100, ql_200, qL_200, qt_200, qT_200, qe_200, qc_200, qi_200, ql_400, qL_400, qt_400, qT_400, qe_400, qc_400, qi_400, ql_600, qL_600, qt_600, qT_600, qe_600, qc_600, qi_600, ql_900, qL_900, qt_900, qT_900, qe_900, qc_900, qi_900, ql_1200, qL_1200, qt_1200, qT_1200, qe_1200, qc_1200, qi_1200, ql_65536, qL_65536, qt_65536, qT_65536, qe_65536, qc_65536, qi_65536, true_and, and_true, eq_self, forall_eq, forall_eq_apply_imp_iff]
    refine ⟨fun c => by omega, fun _ => ⟨fun c => by omega, fun _ => ⟨fun _ => ⟨kk, ?_⟩, fun c => absurd c nz⟩⟩⟩
    rw [kl]
    unfold lnO at H
    rw [if_neg (nI_m1 (by omega)), q_clamp (by omega)] at H
    exact H
/-- a commit that isn't in its place yet -/
def pe (g : jj_H) (x m : Nat) (s : St) (P : Pl) (ca ta : Nat) (v1 v2 : Int32) (L : Int64) (i : Nat) : Prop := Sc g x m ca ∧ Sc g x m ta ∧ jK g ca = 1 ∧ jI g 0 ca 0 = v1 ∧ jI g 1 ca 0 = v2 ∧ jL g 2 ca 0 = L ∧ jR g 3 ca 0 = ta ∧ jK g ta = 27 ∧ jN g ta = 3 ∧ (∀ c, c < s.made → jR g 3 (cad g x c) 0 ≠ ta) ∧ ∀ u, u < i → kT g x m P (jR g 1000 ta u) (s.T 60 u) ∧ ∃ j, jI g 355 (jR g 1000 ta u) 0 = nI j ∧ ∀ q, q < 1000 → jI g 201 (x + 19) 0 = nI q → j ≤ q
theorem pe.cf {ca ta i : Nat} {v1 v2 : Int32} {L : Int64} (E : pe g x m s P ca ta v1 v2 L i) (F : cF T g g') (hT : ∀ tg a, Sc g x m a → ¬ T tg a) (sf : sF g g' x m) (h201 : jI g' 201 (x + 19) 0 = jI g 201 (x + 19) 0) (h21 : ∀ c, jR g' 1000 (x + 21) c = jR g 1000 (x + 21) c) (C : ∀ c, c < s.made → kC g x m P s c) (sub : ∀ k a, (a, k) ∈ P (bk k) → (a, k) ∈ P' (bk k)) : pe g' x m s P' ca ta v1 v2 L i := by
  obtain ⟨e1, e2, e3, e4, e5, e6, e7, e8, e9, e10, e11⟩ := E
  refine ⟨e1.sf sf, e2.sf sf, (sf.k e1).trans e3, (sf.ei e1 (by decide)).trans e4, (sf.ei e1 (by decide)).trans e5, (sf.el e1 (by decide)).trans e6, (sf.er e1 (by decide)).trans e7, (sf.k e2).trans e8, (sf.n e2).trans e9, fun c hc => ?_, fun u hu => ?_⟩
  · rw [((C c hc).ads sf (h21 c)).2.1]; exact e10 c hc
  · obtain ⟨f1, j, f2, f3⟩ := e11 u hu
    rw [sf.er e2 (by decide)]
    exact ⟨f1.sf sf sub, j, (F.ei f1.1.1.2.1 (hT _ _ f1.1)).trans f2, fun q hq z => f3 q hq (by rw [← h201]; exact z)⟩
theorem x_addCommit {v1 v2 : Int32} (B : RcB h x m s n P) (G : RcG h x s) (hm : s.made < 60) (hv1 : aCom v1 s.made) (hv2 : aCom v2 s.made) (hwf : v1 = -1 ∨ s.wf) (hthr : ∀ c, c < 64 → bt s.thr c = true → c < s.made) (hmg : 0 < s.mg → ∀ k, k < 3 → s.vPl k < s.made) (H : ∀ h', Rc h' x m (s.add v1 v2) n → xF h h' x m → Q (.int (nI s.made)) h') : jj_C mX9_addCommit 5480 53000 [.ref x, .int v1, .int v2] h Q := by
  refine jV_C (by decide +kernel) fun V => ?_
  have R : Rc h x m s n := ⟨⟨P, B⟩, G⟩
  have M := B.2.1
  obtain ⟨z1, z2, z3, z4⟩ := id B.1
  have i454 : jI h 454 x 0 = nI s.made := G.1.1
  refine EX9_addCommit _ _ _ fun d => ⟨cM_k M, x_ln R (by omega) hv1 ⟨cM_k M, x_ln R (by omega) hv2 ⟨by omega, by omega, ?_⟩⟩⟩
  rintro _ rfl
  refine ⟨by omega, by omega, by omega, ?_⟩
  rw [i454]
  have kW : ∀ {g}, nF h g → ∀ b, Wn g x b → Wn h x b := fun F => Wn.cf F z2 (fun _ _ _ q => q)
  have hWn : ∀ b, Wn h x b → b ≤ jZ h := by
    rintro b ⟨u, hu, i, hi, e⟩
    rcases (B.2.2.1.1 u hu).2.1.1 i hi with q | q
    · omega
    · rw [← e]; exact (jV_le V (by omega)).2
  generalize hZ : jZ h = Z at *
  refine EX0_init _ _ _ _ fun d2 => ⟨by omega, by omega, by omega, ?_⟩
  rintro _ rfl
  refine ⟨by rw [jK_wA, if_neg (by rw [jZ_wA]; omega), jK_wA, if_pos (by omega)], ?_⟩
  rintro _ rfl _ rfl _ rfl _ rfl
  have eL : ((1 <<< (Int32.toInt64 (nI s.made) &&& 63)) ||| lnO s v1) ||| lnO s v2 = (shl s.made ||| lnO s v1) ||| lnO s v2 := rfl
  rw [eL, jZ_wA, hZ]
  generalize hLL : (shl s.made ||| lnO s v1) ||| lnO s v2 = L
  generalize hg : wL (wI (wI (wR (wA (wA h 1 0) 27 3) 3 (Z + 1) 0 (Z + 1 + 1)) 0 (Z + 1) 0 v1) 1 (Z + 1) 0 v2) 2 (Z + 1) 0 L = g0
  have Fg : nF h g0 := by
    rw [← hg]
    refine ⟨by show jZ h ≤ jZ h + 1 + 1; omega, fun a ha => ⟨?_, ?_, fun tg i _ => ⟨?_, ?_, ?_⟩⟩⟩
    · show jK (wA (wA h 1 0) 27 3) a = _; rw [jK_wA, if_neg (by rw [jZ_wA]; omega), jK_wA, if_neg (by omega)]
    · show jN (wA (wA h 1 0) 27 3) a = _; rw [jN_wA, if_neg (by rw [jZ_wA]; omega), jN_wA, if_neg (by omega)]
    · rw [jI_wL, jI_wI, if_neg (by omega), jI_wI, if_neg (by omega), jI_wR, jI_wA, if_neg (by rw [jZ_wA]; omega), jI_wA, if_neg (by omega)]
    · rw [jL_wL, if_neg (by omega)]; show jL (wA (wA h 1 0) 27 3) tg a i = _; rw [jL_wA, if_neg (by rw [jZ_wA]; omega), jL_wA, if_neg (by omega)]
    · show jR (wR (wA (wA h 1 0) 27 3) 3 (Z + 1) 0 (Z + 1 + 1)) tg a i = _; rw [jR_wR, if_neg (by omega), jR_wA, if_neg (by rw [jZ_wA]; omega), jR_wA, if_neg (by omega)]
  have Zg : jZ g0 = Z + 2 := by rw [← hg]; show jZ h + 1 + 1 = _; omega
  have sf0 : sF h g0 x m := sF.of Fg (fun tg a s q => absurd q id) (fun b w => Or.inl (kW Fg b w))
  have B0 : RcB g0 x m s n P := by
    have := RcB.gen (ls := s.T 60) (by omega) B Fg (fun tg a q => absurd q id) (fun tg a _ q => q) id id id (B.2.2.1.cf (s := s) V Fg (by omega) z1 (fun tg a q => absurd q id)) (fun b w => Or.inl (kW Fg b w))
    rw [St.wk3_self] at this
    exact this.1
  have G0 : RcG g0 x s := G.cf Fg (by omega) (fun tg a q => absurd q id)
  have X0 : xF h g0 x m := fun hh => mF.of Fg (by omega) fun tg a _ _ q => q
  have sc0 : ∀ a, Z < a → a ≤ Z + 2 → Sc g0 x m a := fun a h1 h2 => ⟨⟨by omega, by omega, fun w => by have := hWn _ (kW Fg _ w); omega⟩, by omega⟩
  have E0 : pe g0 x m s P (Z + 1) (Z + 2) v1 v2 L 0 := by
    refine ⟨sc0 _ (by omega) (by omega), sc0 _ (by omega) (by omega), ?_, ?_, ?_, ?_, ?_, ?_, ?_, fun c hc => ?_, fun u hu => by omega⟩
    · rw [← hg]; show jK (wA (wA h 1 0) 27 3) (Z + 1) = 1; rw [jK_wA, if_neg (by rw [jZ_wA]; omega), jK_wA, if_pos (by omega)]
    · rw [← hg, jI_wL, jI_wI, if_neg (by omega), jI_wI, if_pos ⟨rfl, rfl, rfl⟩]
    · rw [← hg, jI_wL, jI_wI, if_pos ⟨rfl, rfl, rfl⟩]
    · rw [← hg, jL_wL, if_pos ⟨rfl, rfl, rfl⟩]
    · rw [← hg]; show jR (wR (wA (wA h 1 0) 27 3) 3 (Z + 1) 0 (Z + 1 + 1)) 3 (Z + 1) 0 = Z + 2; rw [jR_wR, if_pos ⟨rfl, rfl, rfl⟩]
    · rw [← hg]; show jK (wA (wA h 1 0) 27 3) (Z + 2) = 27; rw [jK_wA, if_pos (by rw [jZ_wA]; omega)]
    · rw [← hg]; show jN (wA (wA h 1 0) 27 3) (Z + 2) = 3; rw [jN_wA, if_pos (by rw [jZ_wA]; omega)]
    · have K := B.2.2.2.2.1 c hc
      rw [(K.ads sf0 (Fg.er (by omega) id)).2.1]
      have := K.2.1.1.2.1
      omega
  generalize hca : Z + 1 = ca at *
  generalize hta : Z + 2 = ta at *
  have hcx : x + 42 < ca := by omega
  -- the end: the commit comes into its place
  have fin : ∀ (g : jj_H) (P1 : Pl) bc bs, RcB g x m s n P1 → RcG g x s → xF h g x m → pe g x m s P1 ca ta v1 v2 L 3 → jj_WP d mX9_addCommit bc bs 38 [(0, .ref x), (1, .int v1), (3, .int (nI s.made)), (6, .ref ca), (7, .int (nI 3))] [] g Q := by
    intro g P1 bc bs Bg Gg Xg E
    have Mg := Bg.2.1
    obtain ⟨y1, y2, y3, y4⟩ := id Bg.1
    obtain ⟨e1, e2, e3, e4, e5, e6, e7, e8, e9, e10, e11⟩ := E
    refine jV_WP fun Vg => ?_
    have l455 : jL (wI (wR g 1000 (x + 21) s.made ca) 454 x 0 (nI (s.made + 1))) 455 x 0 = s.here := Gg.1.2.1
    refine VX9_addCommit_38 _ _ _ _ _ ⟨fun _ => ?_, fun c => absurd (by decide) c⟩
    simp (disch := omega) only [(cM_k Mg), (cM_r450_0 Mg), (cM_k1 Mg), (cM_n1 Mg), (cM_r451_0 Mg), (cM_k17 Mg), (cM_n17 Mg), (cM_r400_17 Mg), (cM_k18 Mg), (cM_n18 Mg), (cM_r452_0 Mg), (cM_k19 Mg), (cM_n19 Mg), (cM_r200_19 Mg), (cM_k20 Mg), (cM_n20 Mg), (cM_r453_0 Mg), (cM_k21 Mg), (cM_n21 Mg), (cM_r456_0 Mg), (cM_k22 Mg), (cM_n22 Mg), (cM_r458_0 Mg), (cM_k23 Mg), (cM_n23 Mg), (cM_r50_23 Mg), (cM_k24 Mg), (cM_n24 Mg), (cM_r51_23 Mg), (cM_k25 Mg), (cM_n25 Mg), (cM_r459_0 Mg), (cM_k26 Mg), (cM_n26 Mg), (cM_r102_26 Mg), (cM_k27 Mg), (cM_n27 Mg), (cM_r103_26 Mg), (cM_k28 Mg), (cM_n28 Mg), (cM_r104_26 Mg), (cM_k29 Mg), (cM_n29 Mg), (cM_r105_26 Mg), (cM_k30 Mg), (cM_n30 Mg), (cM_r300_30 Mg), (cM_k31 Mg), (cM_n31 Mg), (cM_r106_26 Mg), (cM_k32 Mg), (cM_n32 Mg), (cM_r107_26 Mg), (cM_k33 Mg), (cM_n33 Mg), (cM_r108_26 Mg), (cM_k34 Mg), (cM_n34 Mg), (cM_r460_0 Mg), (cM_k41 Mg), (cM_n41 Mg), (cM_r250_41 Mg), (cM_k42 Mg), (cM_n42 Mg), qm_3, qm_4, qm_16, qm_600, qm_200, qm_8, qn_210, qn_3, qa_0, qb_0, qa_1, qb_1, qa_2, qb_2, qa_3, qb_3, qa_4, qb_4, qa_16, qb_16, qa_180, qb_180, qs_1, qs_2, qs_3, qs_4, qs_6, qs_24, nI_add, q_sub, q_pred, q_clamp, q_in, nI_leI, nI_ltI, nI_eq, ql_0, qL_0, qt_0, qT_0, qe_0, qc_0, qi_0, ql_1, qL_1, qt_1, qT_1, qe_1, qc_1, qi_1, ql_2, qL_2, qt_2, qT_2, qe_2, qc_2, qi_2, ql_3, qL_3, qt_3, qT_3, qe_3, qc_3, qi_3, ql_4, qL_4, qt_4, qT_4, qe_4, qc_4, qi_4, ql_6, qL_6, qt_6, qT_6, qe_6, qc_6, qi_6, ql_8, qL_8, qt_8, qT_8, qe_8, qc_8, qi_8, ql_10, qL_10, qt_10, qT_10, qe_10, qc_10, qi_10, ql_24, qL_24, qt_24, qT_24, qe_24, qc_24, qi_24, ql_60, qL_60, qt_60, qT_60, qe_60, qc_60, qi_60, ql_100, qL_100, qt_100, qT_100, qe_100, qc_100, qi_100, ql_200, qL_200, qt_200, qT_200, qe_200, qc_200, qi_200, ql_400, qL_400, qt_400, qT_400, qe_400, qc_400, qi_400, ql_600, qL_600, qt_600, qT_600, qe_600, qc_600, qi_600, ql_900, qL_900, qt_900, qT_900, qe_900, qc_900, qi_900, ql_1200, qL_1200, qt_1200, qT_1200, qe_1200, qc_1200, qi_1200, ql_65536, qL_65536, qt_65536, qT_65536, qe_65536, qc_65536, qi_65536, e3, or_true, l455, true_and, and_true, eq_self, forall_eq, forall_eq_apply_imp_iff]
    generalize hf : wL (wI (wR g 1000 (x + 21) s.made ca) 454 x 0 (nI (s.made + 1))) 455 x 0 (s.here ||| (1 <<< (Int32.toInt64 (nI s.made) &&& 63))) = f
    have F : cF (fun tg a => (tg = 1000 ∧ a = x + 21) ∨ (a = x ∧ (tg = 454 ∨ tg = 455))) g f := by
      rw [← hf]
      exact ((cF.wR (Or.inl ⟨rfl, rfl⟩)).trans (cF.wI (P := fun tg a => (tg = 1000 ∧ a = x + 21) ∨ (a = x ∧ (tg = 454 ∨ tg = 455))) (Or.inr ⟨rfl, Or.inl rfl⟩)) (fun _ _ _ q => q)).trans (cF.wL (P := fun tg a => (tg = 1000 ∧ a = x + 21) ∨ (a = x ∧ (tg = 454 ∨ tg = 455))) (Or.inr ⟨rfl, Or.inr rfl⟩)) (fun _ _ _ q => q)
    have wn : ∀ b, Wn f x b → Wn g x b := Wn.cf F y2 (fun a h1 h2 q => by omega)
    have hT : ∀ tg a, Sc g x m a → ¬ ((tg = 1000 ∧ a = x + 21) ∨ (a = x ∧ (tg = 454 ∨ tg = 455))) := fun tg a s q => by have := s.1.1; omega
    have sf : sF g f x m := sF.of F (fun tg a s q => absurd q (hT _ _ s)) (fun b w => Or.inl (wn b w))
    have r21 : ∀ c, jR f 1000 (x + 21) c = if c = s.made then ca else jR g 1000 (x + 21) c := fun c => by
      rw [← hf]
      show jR (wR g 1000 (x + 21) s.made ca) 1000 (x + 21) c = _
      rw [jR_wR]
      by_cases e : c = s.made
      · rw [if_pos ⟨rfl, rfl, e⟩, if_pos e]
      · rw [if_neg (by omega), if_neg e]
    have Tc : ∀ c, c ≠ s.made → (s.add v1 v2).T c = s.T c := fun c hc => by
      funext u
      show (if c = s.made then s.T 60 u else s.T c u) = _
      rw [if_neg hc]
    have Tm : (s.add v1 v2).T s.made = s.T 60 := by
      funext u
      show (if s.made = s.made then s.T 60 u else s.T s.made u) = _
      rw [if_pos rfl]
    have cad_m : cad f x s.made = ca := by unfold cad; rw [r21, if_pos rfl]
    have ads : ∀ c, c < s.made → cad f x c = cad g x c ∧ jR f 3 (cad f x c) 0 = jR g 3 (cad g x c) 0 ∧ ∀ t, tba f x c t = tba g x c t := fun c hc => (Bg.2.2.2.2.1 c hc).ads sf (by rw [r21, if_neg (by omega)])
    have r3 : jR f 3 ca 0 = ta := (sf.er e1 (by decide)).trans e7
    have tbm : ∀ u, tba f x s.made u = jR g 1000 ta u := fun u => by
      unfold tba
      rw [cad_m, r3]
      exact sf.er e2 (by decide)
    have thE : ∀ k, thS (s.add v1 v2) k ↔ thS s k := by
      intro k
      constructor
      · rintro ⟨c, h1, h2, h3⟩
        have h1' : c < s.made + 1 := h1
        have h2' : bt s.thr c = true := h2
        have := hthr c (by omega) h2'
        rw [Tc c (by omega)] at h3
        exact ⟨c, this, h2, h3⟩
      · rintro ⟨c, h1, h2, h3⟩
        exact ⟨c, by show c < s.made + 1; omega, h2, by rw [Tc c (by omega)]; exact h3⟩
    have BF : RcB f x m (s.add v1 v2) n P1 := by
      have hz := F.1
      refine ⟨⟨y1, by omega, by omega, fun a h1 h2 h3 w => y4 a h1 h2 h3 (wn a w)⟩, Mg.cf F y2 (fun tg a q => ?_), ?_, Bg.2.2.2.1.sf sf (fun β => F.er (by omega) (by omega)), fun c hc => ?_, ?_⟩
      · by_cases e : tg = 1000
        · right; right; omega
        · right; left; simp only [List.mem_cons, List.not_mem_nil, or_false]; omega
      · rw [Tc 60 (by omega)]
        exact Bg.2.2.1.cf Vg F y2 y1 (fun tg a q _ => by omega)
      · have hc' : c < s.made + 1 := hc
        by_cases e : c = s.made
        · subst e
          unfold kC
          rw [cad_m, r3, Tm]
          refine ⟨e1.sf sf, e2.sf sf, (sf.k e1).trans e3, ?_, ?_, ?_, (sf.k e2).trans e8, (sf.n e2).trans e9, fun u hu => ?_⟩
          · rw [sf.ei e1 (by decide), e4]; show v1 = if s.made = s.made then v1 else s.fp s.made; rw [if_pos rfl]
          · rw [sf.ei e1 (by decide), e5]; show v2 = if s.made = s.made then v2 else s.sp s.made; rw [if_pos rfl]
          · rw [sf.el e1 (by decide), e6, ← hLL]; show _ = if s.made = s.made then (shl s.made ||| lnO s v1) ||| lnO s v2 else s.an s.made; rw [if_pos rfl]
          · rw [tbm]; exact (e11 u hu).1.sf sf (fun _ _ q => q)
        · have K := (Bg.2.2.2.2.1 c (by omega)).sf sf (by rw [r21, if_neg e]) (fun _ _ q => q)
          unfold kC at K ⊢
          rw [Tc c e]
          show _ ∧ _ ∧ _ ∧ _ = (if c = s.made then v1 else s.fp c) ∧ _ = (if c = s.made then v2 else s.sp c) ∧ _ = (if c = s.made then (shl s.made ||| lnO s v1) ||| lnO s v2 else s.an c) ∧ _
          rw [if_neg e, if_neg e, if_neg e]
          exact K
      · obtain ⟨⟨q, q1, q2, q3, q4, q5⟩, q6⟩ := Bg.2.2.2.2.2
        have nT : ∀ {p : Nat × NK} {β : Nat}, β < 4096 → p ∈ P1 β → ∀ tg, jI f tg p.1 0 = jI g tg p.1 0 := fun hβ hp tg => by
          have s1 := ((Bg.2.2.2.1 _ hβ).1.mem _ hp).1
          exact F.ei s1.1.2.1 (hT _ _ s1)
        refine ⟨⟨q, q1, q2, (F.ei (by omega) (by omega)).trans q3, fun β hβ p hp => by rw [nT hβ hp]; exact q4 β hβ p hp, fun c t hc ht => ?_⟩, fun β hβ p hp => by rw [nT hβ hp, thE]; exact q6 β hβ p hp⟩
        have hc' : c < s.made + 1 := hc
        by_cases e : c = s.made
        · subst e
          obtain ⟨f1, j, f2, f3⟩ := e11 t ht
          rw [tbm, F.ei f1.1.1.2.1 (hT _ _ f1.1)]
          exact ⟨j, f3 q (by omega) q3, f2⟩
        · rw [(ads c (by omega)).2.2 t]
          have s1 := ((Bg.2.2.2.2.1 c (by omega)).2.2.2.2.2.2.2.2 t ht).1
          rw [F.ei s1.1.2.1 (hT _ _ s1)]
          exact q5 c t (by omega) ht
    have GF : RcG f x (s.add v1 v2) := by
      refine ⟨⟨?_, ?_, fun b hb => ?_, ?_⟩, Gg.2.1.cf F y2 (by omega) (by omega) (by omega), ⟨?_, fun q => ⟨?_, fun k hk => ?_⟩, Gg.2.2.1.2.2.1.cf F y2 (by omega) (by omega) (fun a _ _ => by omega), ?_⟩, ⟨?_, ?_, fun b hb => ?_⟩⟩
      · rw [← hf, jI_wL, jI_wI, if_pos ⟨rfl, rfl, rfl⟩]; rfl
      · rw [← hf, jL_wL, if_pos ⟨rfl, rfl, rfl⟩]; rfl
      · exact (F.ei (tg := 1000) (a := x + 22) (by omega) (by omega)).trans (Gg.1.2.2.1 b hb)
      · exact (F.ei (tg := 457) (a := x) (by omega) (by omega)).trans Gg.1.2.2.2
      · exact (F.ei (tg := 100) (a := x + 26) (by omega) (by omega)).trans Gg.2.2.1.1
      · exact (F.ei (tg := 101) (a := x + 26) (by omega) (by omega)).trans (Gg.2.2.1.2.1 q).1
      · have q' : 0 < s.mg := q
        have hv := hmg q' k hk
        have ev : (s.add v1 v2).vPl k = s.vPl k := rfl
        rw [ev, F.er (tg := 1000) (a := x + 27) (by omega) (by omega), (ads _ hv).1]
        exact (Gg.2.2.1.2.1 q').2 k hk
      · exact (F.ei (tg := 301) (a := x + 30) (by omega) (by omega)).trans Gg.2.2.1.2.2.2
      · exact (F.el (tg := 251) (a := x + 41) (by omega) (by omega)).trans Gg.2.2.2.1
      · rw [F.ei (tg := 252) (a := x + 41) (by omega) (by omega)]
        have : (s.add v1 v2).D s.thr = s.D s.thr := D_ext fun p hp hb => Tc p (by have := hthr p (by omega) hb; omega)
        show _ = nI ((s.add v1 v2).D s.thr)
        rw [this]
        exact Gg.2.2.2.2.1
      · exact (F.ei (tg := 1000) (a := x + 42) (by omega) (by omega)).trans (Gg.2.2.2.2.2 b hb)
    exact H f ⟨⟨P1, BF⟩, GF⟩ (Xg.trans (fun hh => mF.of F y3 fun tg a h1 h2 q => by omega))
  have loop : ∀ q i (g : jj_H) (P1 : Pl) bc bs, i + q = 3 → 1824 * q ≤ bc → 17544 * q ≤ bs → RcB g x m s n P1 → RcG g x s → xF h g x m → pe g x m s P1 ca ta v1 v2 L i → jj_WP d mX9_addCommit bc bs 38 [(0, .ref x), (1, .int v1), (3, .int (nI s.made)), (6, .ref ca), (7, .int (nI i))] [] g Q := by
    intro q
    induction q with
    | zero =>
      intro i g P1 bc bs hi _ _ Bg Gg Xg E
      have : i = 3 := by omega
      subst this
      exact fin g P1 bc bs Bg Gg Xg E
    | succ q ih =>
      intro i g P1 bc bs hi hbc hbs Bg Gg Xg E
      have hi3 : i < 3 := by omega
      have Rg : Rc g x m s n := ⟨⟨P1, Bg⟩, Gg⟩
      have Mg := Bg.2.1
      obtain ⟨y1, y2, y3, y4⟩ := id Bg.1
      -- a table is put into its place
      have put : ∀ (g2 : jj_H) (P2 : Pl) (tb bc' bs' : Nat), 1824 * q ≤ bc' → 17544 * q ≤ bs' → RcB g2 x m s n P2 → RcG g2 x s → xF h g2 x m → pe g2 x m s P2 ca ta v1 v2 L i → kT g2 x m P2 tb (s.T 60 i) → (∃ j, jI g2 355 tb 0 = nI j ∧ ∀ q, q < 1000 → jI g2 201 (x + 19) 0 = nI q → j ≤ q) → jK g2 ta = 27 ∧ (vp_in (nI i) (jN g2 ta) ∧ ((tb = 0 ∨ jK g2 tb = 8) ∧ (∀ h10, h10 = wR g2 1000 ta (Int32.toNatClampNeg (nI i)) tb → (jj_WP d mX9_addCommit bc' bs' 38 [(0, .ref x), (1, .int v1), (3, .int (nI s.made)), (6, .ref ca), (7, .int (nI i + 1))] [] h10 Q)))) := by
        intro g2 P2 tb bc' bs' hb1 hb2 B2 G2 X2 E2 K2 J2
        obtain ⟨e1, e2, e3, e4, e5, e6, e7, e8, e9, e10, e11⟩ := E2
        have ktb : jK g2 tb = 8 := by obtain ⟨_, r, w, na, st, _, _, _, _, _, _, _, TT⟩ := K2; exact TT.1
        refine ⟨e8, by rw [e9]; exact vp_in_nI hi3 (by decide), Or.inr ktb, ?_⟩
        rintro _ rfl
        rw [q_clamp (by omega), qa_1]
        refine jV_WP fun V2' => ?_
        have V2 : jj_V g2 := V2'
        have y22 := B2.1.2.1
        obtain ⟨b1, b2, b3⟩ := B2.ta (i := i) (v := tb) V2 e8 e2.1.1 e2.1.2.1 e2.2 e10
        have F : cF (fun tg a => tg = 1000 ∧ a = ta) g2 (wR g2 1000 ta i tb) := cF.wR ⟨rfl, rfl⟩
        have ne : ∀ {a}, jK g2 a ≠ 27 → ∀ tg, ¬ (tg = 1000 ∧ a = ta) := fun hk tg q => hk (by rw [q.2]; exact e8)
        have kk : ∀ tb' l', kT g2 x m P2 tb' l' → kT (wR g2 1000 ta i tb) x m P2 tb' l' := by
          intro tb' l' K
          obtain ⟨s1, r, w, na, st, s2, s3, s4, s5, f1, R', f2, T'⟩ := K
          have kw := R'.2.2.1
          have kna := T'.2.2.2.1
          have kst := T'.2.2.2.2.1
          refine ⟨b3 _ s1, r, w, na, st, b3 _ s2, b3 _ s3, b3 _ s4, b3 _ s5, (F.er s1.1.2.1 (by omega)).trans f1, R'.cf F s2.1.2.1 s3.1.2.1 (by omega) (by omega) (ne (by omega) _), f2, T'.cf F s1.1.2.1 s4.1.2.1 s5.1.2.1 (fun tg _ _ => by omega) (ne (by omega) _) (ne (by omega) _) fun i' a r' w' k hi ha q NN => ?_⟩
          obtain ⟨q1, q2, q3, q4⟩ := id q
          obtain ⟨e0, NN⟩ := NN
          have kw' : jK g2 w' = 21 := by obtain ⟨_, _, _, _, _, _, _, _, l0, f0, R0, _⟩ := NN; exact R0.2.2.1
          exact ⟨⟨q1, b3 _ q2, b3 _ q3, b3 _ q4⟩, q2.1.2.1, q3.1.2.1, q4.1.2.1, fun tg _ _ => by omega, by omega, by omega, ne (by omega) _⟩
        have G3 : RcG (wR g2 1000 ta i tb) x s := G2.cf F y22 (fun tg a q => by have := e2.1.1; omega)
        refine ih (i + 1) _ P2 bc' bs' (by omega) hb1 hb2 b1 G3 (X2.trans b2) ⟨b3 _ e1, b3 _ e2, e3, e4, e5, e6, ?_, e8, e9, fun c hc => ?_, fun u hu => ?_⟩
        · rw [jR_wR, if_neg (by omega)]; exact e7
        · have K := B2.2.2.2.2.1 c hc
          have ee : cad (wR g2 1000 ta i tb) x c = cad g2 x c := F.er (by omega) (by have := e2.1.1; omega)
          rw [ee, jR_wR, if_neg (by omega)]
          exact e10 c hc
        · rw [jR_wR]
          by_cases e : u = i
          · subst e
            rw [if_pos ⟨rfl, rfl, rfl⟩]
            exact ⟨kk _ _ K2, J2⟩
          · rw [if_neg (by omega)]
            obtain ⟨f1, f2⟩ := e11 u (by omega)
            exact ⟨kk _ _ f1, f2⟩
      -- the table is built and kept
      have keep : ∀ r8, jj_WP d mX9_addCommit bc bs 84 [(0, .ref x), (1, .int v1), (3, .int (nI s.made)), (6, .ref ca), (7, .int (nI i)), (8, .ref r8)] [.int 0] g Q := by
        intro r8
        obtain ⟨e1, e2, e3, e4, e5, e6, e7, e8, e9, e10, e11⟩ := id E
        refine VX9_addCommit_84 _ _ _ _ _ _ _ ⟨e3, fun _ => ⟨cM_k Mg, by omega, by omega, x_treeW Bg (by omega) hi3 fun g2 B2 sf2 X2 st2 FT wn2 => ?_⟩, fun c => absurd rfl c⟩
        obtain ⟨T2, F2, hT2, hQ2⟩ := FT
        have M2 := B2.2.1
        have G2 : RcG g2 x s := Gg.cf F2 y2 (fun tg a q => by have := hQ2 _ _ q; omega)
        have n2 : ∀ {tg a}, x + 19 ≤ a → a ≤ x + 42 → ¬ T2 tg a := fun h1 h2 q => by have := hQ2 _ _ q; omega
        have E2 := E.cf F2 hT2 sf2 (F2.ei (by omega) (n2 (by omega) (by omega))) (fun c => F2.er (by omega) (n2 (by omega) (by omega))) Bg.2.2.2.2.1 (fun _ _ z => z)
        rw [cM_r452_0 Mg]
        refine ⟨cM_k19 M2, by omega, by omega, jV_C (by decide +kernel) fun V2 => c_keep B2.1 M2 B2.2.2.1 hi3 st2 B2.2.2.2.1 fun g3 P3 tb F3 wn3 Po3 sub3 new3 K3 t355 htb => ?_⟩
        obtain ⟨b1, b2, b3⟩ := B2.kept V2 F3 wn3 Po3 sub3 new3
        have y22 := B2.1.2.1
        have G3 : RcG g3 x s := G2.cf F3 y22 (fun tg a q => by omega)
        have hT3 : ∀ tg a, Sc g2 x m a → ¬ (tg = 1000 ∧ a = x + 20) := fun tg a s q => by have := s.1.1; omega
        have E3 := E2.cf F3 hT3 b2 (F3.ei (by omega) (by omega)) (fun c => F3.er (by omega) (by omega)) B2.2.2.2.2.1 sub3
        rw [e7]
        exact put g3 P3 tb _ _ (by omega) (by omega) b1 G3 ((Xg.trans X2).trans b3) E3 K3 ⟨0, t355, fun _ _ _ => Nat.zero_le _⟩
      refine VX9_addCommit_38 _ _ _ _ _ ?_
      rw [qL_3 (by omega)]
      refine ⟨fun c => by omega, fun _ => ⟨cM_k Mg, EX9_tableBefore _ _ _ fun d3 => ⟨fun hne => ⟨cM_k Mg, ?_⟩, fun _ => ⟨fun _ => keep 0, fun c => absurd rfl c⟩⟩⟩⟩
      have hw := hwf.resolve_left hne
      refine x_tableOf Rg hw (fun p t' hp ht' => ?_) (fun _ => ⟨fun _ => keep 0, fun c => absurd rfl c⟩)
      rw [lim_nI (by decide) hi3] at ht'
      cases ht'
      have hp6 : p < s.made := by
        rcases pAt_some hw hp with ⟨e, _⟩ | ⟨_, e, _⟩
        · exact absurd e hne
        · exact e
      obtain ⟨k1, nz1, r, w, c1, R1, b1, b2, b3, b4⟩ := Rg.rows (Or.inl hp6) (by omega) hi3
      have W := Rg.W hi3
      have wt := Rg.wt hi3
      have wk1 := W.1.1
      have wr1 := W.1.2.1
      refine ⟨fun c => absurd c nz1, fun _ => ⟨k1, ?_⟩⟩
      simp (disch := omega) only [(cM_k Mg), (cM_r450_0 Mg), (cM_k1 Mg), (cM_n1 Mg), (cM_r451_0 Mg), (cM_k17 Mg), (cM_n17 Mg), (cM_r400_17 Mg), (cM_k18 Mg), (cM_n18 Mg), (cM_r452_0 Mg), (cM_k19 Mg), (cM_n19 Mg), (cM_r200_19 Mg), (cM_k20 Mg), (cM_n20 Mg), (cM_r453_0 Mg), (cM_k21 Mg), (cM_n21 Mg), (cM_r456_0 Mg), (cM_k22 Mg), (cM_n22 Mg), (cM_r458_0 Mg), (cM_k23 Mg), (cM_n23 Mg), (cM_r50_23 Mg), (cM_k24 Mg), (cM_n24 Mg), (cM_r51_23 Mg), (cM_k25 Mg), (cM_n25 Mg), (cM_r459_0 Mg), (cM_k26 Mg), (cM_n26 Mg), (cM_r102_26 Mg), (cM_k27 Mg), (cM_n27 Mg), (cM_r103_26 Mg), (cM_k28 Mg), (cM_n28 Mg), (cM_r104_26 Mg), (cM_k29 Mg), (cM_n29 Mg), (cM_r105_26 Mg), (cM_k30 Mg), (cM_n30 Mg), (cM_r300_30 Mg), (cM_k31 Mg), (cM_n31 Mg), (cM_r106_26 Mg), (cM_k32 Mg), (cM_n32 Mg), (cM_r107_26 Mg), (cM_k33 Mg), (cM_n33 Mg), (cM_r108_26 Mg), (cM_k34 Mg), (cM_n34 Mg), (cM_r460_0 Mg), (cM_k41 Mg), (cM_n41 Mg), (cM_r250_41 Mg), (cM_k42 Mg), (cM_n42 Mg), q_clamp, q_in, nI_leI, nI_ltI, nI_eq, ql_0, qL_0, qt_0, qT_0, qe_0, qc_0, qi_0, ql_1, qL_1, qt_1, qT_1, qe_1, qc_1, qi_1, ql_2, qL_2, qt_2, qT_2, qe_2, qc_2, qi_2, ql_3, qL_3, qt_3, qT_3, qe_3, qc_3, qi_3, ql_4, qL_4, qt_4, qT_4, qe_4, qc_4, qi_4, ql_6, qL_6, qt_6, qT_6, qe_6, qc_6, qi_6, ql_8, qL_8, qt_8, qT_8, qe_8, qc_8, qi_8, ql_10, qL_10, qt_10, qT_10, qe_10, qc_10, qi_10, ql_24, qL_24, qt_24, qT_24, qe_24, qc_24, qi_24, ql_60, qL_60, qt_60, qT_60, qe_60, qc_60, qi_60, ql_100, qL_100, qt_100, qT_100, qe_100, qc_100, qi_100, ql_200, qL_200, qt_200, qT_200, qe_200, qc_200, qi_200, ql_400, qL_400, qt_400, qT_400, qe_400, qc_400, qi_400, ql_600, qL_600, qt_600, qT_600, qe_600, qc_600, qi_600, ql_900, qL_900, qt_900, qT_900, qe_900, qc_900, qi_900, ql_1200, qL_1200, qt_1200, qT_1200, qe_1200, qc_1200, qi_1200, ql_65536, qL_65536, qt_65536, qT_65536, qe_65536, qc_65536, qi_65536, wt, wk1, wr1, c1, true_and, and_true, eq_self, forall_eq, forall_eq_apply_imp_iff]
      refine ⟨R1.1, c_isSame R1 W.2.2.1 ?_⟩
      by_cases es : s.T p i = s.T 60 i
      · rw [if_pos es]
        refine ⟨fun c => absurd c (by decide), fun _ => ?_⟩
        obtain ⟨e1, e2, e3, e4, e5, e6, e7, e8, e9, e10, e11⟩ := id E
        refine VX9_addCommit_84 _ _ _ _ _ _ _ ⟨e3, fun c => absurd c (by decide), fun _ => ?_⟩
        rw [e7]
        have et : tad g x p i = tba g x p i := by unfold tad; rw [if_neg (by omega)]
        rw [et]
        have K := (Bg.2.2.2.2.1 p hp6).2.2.2.2.2.2.2.2 i hi3
        rw [es] at K
        obtain ⟨⟨q0, q1, q2, q3, q4, q5⟩, q6⟩ := Bg.2.2.2.2.2
        obtain ⟨j, hj, hj2⟩ := q5 p i hp6 hi3
        exact put g P1 _ bc bs (by omega) (by omega) Bg Gg Xg E K ⟨j, hj2, fun q' hq' z => by
          have : q0 = q' := (nI_eq (by omega) (by omega)).mp (q3.symm.trans z)
          omega⟩
      · rw [if_neg es]
        exact ⟨fun _ => keep _, fun c => absurd rfl c⟩
  exact loop 3 0 g0 P _ _ (by omega) (by omega) (by omega) B0 G0 X0 E0
end JCp
