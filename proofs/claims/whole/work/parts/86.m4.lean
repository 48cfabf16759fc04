/-! the class: merges begin -/
section JG4
variable {h h' h1 : jj_H} {x m n t : Nat} {s : St} {Q : Value → jj_H → Prop}
theorem Rc.ext3 {f g : Nat → List Row} (hm : s.made ≤ 60) (R : Rc h x m (s.wk3 f) n) (e : ∀ t, t < 3 → f t = g t) : Rc h x m (s.wk3 g) n := by
  obtain ⟨⟨P, B⟩, G⟩ := R
  refine ⟨⟨P, B.1, B.2.1, ⟨fun t ht => ?_, B.2.2.1.2⟩, B.2.2.2.1, fun c' hc' => ?_, ?_⟩, ?_⟩
  · have := B.2.2.1.1 t ht
    rw [St.wk3_60] at this ⊢
    rw [← e t ht]
    exact this
  · have hc'' : c' < s.made := hc'
    have := B.2.2.2.2.1 c' hc'
    unfold kC at this ⊢
    rw [St.wk3_T (by omega)] at this ⊢
    exact this
  · refine ⟨B.2.2.2.2.2.1, fun β hβ p hp => ?_⟩
    have := B.2.2.2.2.2.2 β hβ p hp
    rw [thS_wk3 hm] at this ⊢
    exact this
  · refine ⟨G.1, G.2.1, G.2.2.1, G.2.2.2.1, ?_, G.2.2.2.2.2⟩
    have ee : ∀ ls, (s.wk3 ls).D s.thr = s.D s.thr := fun ls => D_ext fun p hp _ => St.wk3_T hp
    have g' : jI h 252 (x + 41) 0 = nI ((s.wk3 f).D s.thr) := G.2.2.2.2.1
    show _ = nI ((s.wk3 g).D s.thr)
    rw [ee] at g' ⊢
    exact g'
/-- a commit's table seen through a heap in which only fixed cells have changed -/
theorem Rc.cv {P : Nat → Nat → Prop} {c : Nat} (R : Rc h x m s n) (hc : c < s.made) (ht : t < 3) (F : cF P h h1) (hP : ∀ tg a, P tg a → a ≤ x + 42) : ∃ r w, jK h1 (cad h x c) = 1 ∧ jK h1 (jR h1 3 (cad h x c) 0) = 27 ∧ jN h1 (jR h1 3 (cad h x c) 0) = 3 ∧ jK h1 (jR h1 1000 (jR h1 3 (cad h x c) 0) t) = 8 ∧ jR h1 350 (jR h1 1000 (jR h1 3 (cad h x c) 0) t) 0 = r ∧ sr h1 x r w (s.T c t) := by
  obtain ⟨Pl, K⟩ := R.C hc
  obtain ⟨k1, k2, k3, k4, k5, k6, k7, k8, k9⟩ := K
  obtain ⟨s1, r, w, na, st, s2, s3, s4, s5, e1, R', e2, T⟩ := k9 t ht
  have np : ∀ {a tg}, x + 42 < a → ¬ P tg a := fun q z => by have := hP _ _ z; omega
  have f1 := F.er (tg := 3) (i := 0) k1.1.2.1 (np k1.1.1)
  have f2 := F.er (tg := 1000) (i := t) k2.1.2.1 (np k2.1.1)
  have S : sr h x r w (s.T c t) := ⟨R', s2.1.1, s3.1.1, s2.1.2.1, s3.1.2.1⟩
  refine ⟨r, w, (F.ek k1.1.2.1).trans k3, ?_, ?_, ?_, ?_, S.cf F hP⟩
  · rw [f1]; exact (F.ek k2.1.2.1).trans k7
  · rw [f1]; exact (F.en k2.1.2.1).trans k8
  · rw [f1, f2]; exact (F.ek s1.1.2.1).trans T.1
  · rw [f1, f2]; exact (F.er s1.1.2.1 (np s1.1.1)).trans e1
def pM (x : Nat) : Nat → Nat → Prop := fun tg a => (tg = 1000 ∧ (a = x + 27 ∨ a = x + 29 ∨ a = x + 31 ∨ (x + 32 ≤ a ∧ a ≤ x + 34) ∨ a = x + 36 ∨ a = x + 38 ∨ a = x + 40)) ∨ (a = x + 26 ∧ (tg = 109 ∨ tg = 110)) ∨ (tg = 301 ∧ (a = x + 35 ∨ a = x + 37 ∨ a = x + 39))
theorem pM_le {x tg a : Nat} (q : pM x tg a) : a ≤ x + 42 := by unfold pM at q; omega
theorem pM_qF {x tg a : Nat} (q : pM x tg a) : qF x tg a := by unfold pM at q; unfold qF; omega
theorem pT_pM {x t tg a : Nat} (ht : t < 3) (q : pT x t tg a) : pM x tg a := by unfold pT pK at q; unfold pM; omega
theorem c_bringTog {po pu ph : Nat} (R : Rc h x m s n) (hw : s.wf) (h1o : po < s.made) (h1u : pu < s.made) (h1h : ph < s.made)
    (H1 : ∀ h' q, mgA (s.T po) (s.T pu) (s.T ph) 3 0 (fun _ => []) [] = some q → (∀ t, t < 3 → rwO h' (x + 35 + 2 * t) (x + 36 + 2 * t) (q.1 t)) → kCf h' x q.2 → cF (pM x) h h' → jR h' 1000 (x + 27) 0 = cad h x po → jR h' 1000 (x + 27) 1 = cad h x pu → jR h' 1000 (x + 27) 2 = cad h x ph → Q (.int 1) h')
    (H0 : ∀ h', mgA (s.T po) (s.T pu) (s.T ph) 3 0 (fun _ => []) [] = none → cF (pM x) h h' → Q (.int 0) h') : jj_C mX2_bringTogether 0 0 [.ref (x + 26), .ref (cad h x po), .ref (cad h x pu), .ref (cad h x ph)] h Q := by
  have M := R.M
  have z := R.z
  have hz := z.2.1
  have mxx : jI h 301 (x + 30) 0 = 1 := R.2.2.2.1.2.2.2
  obtain ⟨_, _, ko, _⟩ := R.cv (t := 0) h1o (by omega) (cF.rf (P := pM x)) (fun tg a q => pM_le q)
  obtain ⟨_, _, ku, _⟩ := R.cv (t := 0) h1u (by omega) (cF.rf (P := pM x)) (fun tg a q => pM_le q)
  obtain ⟨_, _, kh, _⟩ := R.cv (t := 0) h1h (by omega) (cF.rf (P := pM x)) (fun tg a q => pM_le q)
  refine EX2_bringTogether _ _ _ _ fun d => ?_
  have rr1 : ∀ v, jR (wR h 1000 (x + 27) 0 v) 102 (x + 26) 0 = x + 27 := fun v => by rw [jR_wR, if_neg (by omega)]; exact cM_r102_26 M
  have rr2 : ∀ v v', jR (wR (wR h 1000 (x + 27) 0 v) 1000 (x + 27) 1 v') 102 (x + 26) 0 = x + 27 := fun v v' => by rw [jR_wR, if_neg (by omega)]; exact rr1 v
  simp (disch := omega) only [(cM_k M), (cM_r450_0 M), (cM_k1 M), (cM_n1 M), (cM_r451_0 M), (cM_k17 M), (cM_n17 M), (cM_r400_17 M), (cM_k18 M), (cM_n18 M), (cM_r452_0 M), (cM_k19 M), (cM_n19 M), (cM_r200_19 M), (cM_k20 M), (cM_n20 M), (cM_r453_0 M), (cM_k21 M), (cM_n21 M), (cM_r456_0 M), (cM_k22 M), (cM_n22 M), (cM_r458_0 M), (cM_k23 M), (cM_n23 M), (cM_r50_23 M), (cM_k24 M), (cM_n24 M), (cM_r51_23 M), (cM_k25 M), (cM_n25 M), (cM_r459_0 M), (cM_k26 M), (cM_n26 M), (cM_r102_26 M), (cM_k27 M), (cM_n27 M), (cM_r103_26 M), (cM_k28 M), (cM_n28 M), (cM_r104_26 M), (cM_k29 M), (cM_n29 M), (cM_r105_26 M), (cM_k30 M), (cM_n30 M), (cM_r300_30 M), (cM_k31 M), (cM_n31 M), (cM_r106_26 M), (cM_k32 M), (cM_n32 M), (cM_r107_26 M), (cM_k33 M), (cM_n33 M), (cM_r108_26 M), (cM_k34 M), (cM_n34 M), (cM_r460_0 M), (cM_k41 M), (cM_n41 M), (cM_r250_41 M), (cM_k42 M), (cM_n42 M), q_clamp, q_in, nI_leI, nI_ltI, nI_eq, ql_0, qL_0, qt_0, qT_0, qe_0, qc_0, qi_0, ql_1, qL_1, qt_1, qT_1, qe_1, qc_1, qi_1, ql_2, qL_2, qt_2, qT_2, qe_2, qc_2, qi_2, ql_3, qL_3, qt_3, qT_3, qe_3, qc_3, qi_3, ql_4, qL_4, qt_4, qT_4, qe_4, qc_4, qi_4, ql_6, qL_6, qt_6, qT_6, qe_6, qc_6, qi_6, ql_8, qL_8, qt_8, qT_8, qe_8, qc_8, qi_8, ql_10, qL_10, qt_10, qT_10, qe_10, qc_10, qi_10, ql_24, qL_24, qt_24, qT_24, qe_24, qc_24, qi_24, ql_60, qL_60, qt_60, qT_60, qe_60, qc_60, qi_60, ql_100, qL_100, qt_100, qT_100, qe_100, qc_100, qi_100, ql_200, qL_200, qt_200, qT_200, qe_200, qc_200, qi_200, ql_400, qL_400, qt_400, qT_400, qe_400, qc_400, qi_400, ql_600, qL_600, qt_600, qT_600, qe_600, qc_600, qi_600, ql_900, qL_900, qt_900, qT_900, qe_900, qc_900, qi_900, ql_1200, qL_1200, qt_1200, qT_1200, qe_1200, qc_1200, qi_1200, ql_65536, qL_65536, qt_65536, qT_65536, qe_65536, qc_65536, qi_65536, rr1, rr2, ko, ku, kh, or_true, true_and, and_true, eq_self, forall_eq, forall_eq_apply_imp_iff]
  generalize hh5 : wI (wI (wR (wR (wR h 1000 (x + 27) 0 (cad h x po)) 1000 (x + 27) 1 (cad h x pu)) 1000 (x + 27) 2 (cad h x ph)) 109 (x + 26) 0 0) 110 (x + 26) 0 0 = h5
  have F5 : cF (pM x) h h5 := by
    rw [← hh5]
    have c1 : ∀ {g : jj_H} {i v : Nat}, cF (pM x) g (wR g 1000 (x + 27) i v) := cF.wR (Or.inl ⟨rfl, Or.inl rfl⟩)
    have c2 : ∀ {g : jj_H} {i : Nat} {v : Int32}, cF (pM x) g (wI g 109 (x + 26) i v) := cF.wI (Or.inr (Or.inl ⟨rfl, Or.inl rfl⟩))
    have c3 : ∀ {g : jj_H} {i : Nat} {v : Int32}, cF (pM x) g (wI g 110 (x + 26) i v) := cF.wI (Or.inr (Or.inl ⟨rfl, Or.inr rfl⟩))
    exact (((c1.trans c1 (fun _ _ _ q => q)).trans c1 (fun _ _ _ q => q)).trans c2 (fun _ _ _ q => q)).trans c3 (fun _ _ _ q => q)
  have v5 : jR h5 1000 (x + 27) 0 = cad h x po ∧ jR h5 1000 (x + 27) 1 = cad h x pu ∧ jR h5 1000 (x + 27) 2 = cad h x ph := by
    rw [← hh5]
    refine ⟨?_, ?_, ?_⟩
    · show jR (wR (wR (wR h 1000 (x + 27) 0 (cad h x po)) 1000 (x + 27) 1 (cad h x pu)) 1000 (x + 27) 2 (cad h x ph)) 1000 (x + 27) 0 = _
      rw [jR_wR, if_neg (by omega), jR_wR, if_neg (by omega), jR_wR, if_pos ⟨rfl, rfl, rfl⟩]
    · show jR (wR (wR (wR h 1000 (x + 27) 0 (cad h x po)) 1000 (x + 27) 1 (cad h x pu)) 1000 (x + 27) 2 (cad h x ph)) 1000 (x + 27) 1 = _
      rw [jR_wR, if_neg (by omega), jR_wR, if_pos ⟨rfl, rfl, rfl⟩]
    · show jR (wR (wR (wR h 1000 (x + 27) 0 (cad h x po)) 1000 (x + 27) 1 (cad h x pu)) 1000 (x + 27) 2 (cad h x ph)) 1000 (x + 27) 2 = _
      rw [jR_wR, if_pos ⟨rfl, rfl, rfl⟩]
  have k5 : kCf h5 x [] := by
    rw [← hh5]
    refine ⟨?_, ?_, fun i c hc => by cases hc⟩
    · rw [jI_wI, if_neg (by omega), jI_wI, if_pos ⟨rfl, rfl, rfl⟩]; rfl
    · rw [jI_wI, if_pos ⟨rfl, rfl, rfl⟩]; rfl
  generalize hRES : mgA (s.T po) (s.T pu) (s.T ph) 3 0 (fun _ => []) [] = RES at H1 H0
  have pfP : fP x (pM x) := fun tg a q => by
    unfold pM at q
    by_cases e : tg = 1000
    · right; right; omega
    · right; left; simp only [List.mem_cons, List.not_mem_nil, or_false]; omega
  have loop : ∀ q i (h1 : jj_H) (res : Nat → List Row) (cf : List Cf), i + q = 3 → cF (pM x) h h1 → (∀ u, u < i → rwO h1 (x + 35 + 2 * u) (x + 36 + 2 * u) (res u)) → kCf h1 x cf → 2 * cf.length ≤ 600 * i → mgA (s.T po) (s.T pu) (s.T ph) q i res cf = RES → (∀ i, jR h1 1000 (x + 27) i = jR h5 1000 (x + 27) i) → jj_WP d mX2_bringTogether 0 0 34 [(0, .ref (x + 26)), (1, .ref (cad h x po)), (2, .ref (cad h x pu)), (3, .ref (cad h x ph)), (4, .int (nI i))] [] h1 Q := by
    intro q
    induction q with
    | zero =>
      intro i h1 res cf hi F1 lo K1 hl hm v1
      refine VX2_bringTogether_34 _ _ _ _ _ ?_
      rw [qL_3 (by omega)]
      refine ⟨fun _ => H1 h1 (res, cf) (by rw [← hm]; rfl) (fun t ht => lo t (by omega)) K1 F1 ?_ ?_ ?_, fun c => by omega⟩
      · rw [v1]; exact v5.1
      · rw [v1]; exact v5.2.1
      · rw [v1]; exact v5.2.2
    | succ q ih =>
      intro i h1 res cf hi F1 lo K1 hl hm v1
      have hi3 : i < 3 := by omega
      have M1 := M.cf F1 hz pfP
      have hz1 : x + 42 ≤ jZ h1 := Nat.le_trans hz F1.1
      obtain ⟨ro, wo, a1, a2, a3, a4, a5, So⟩ := R.cv h1o hi3 F1 (fun tg a q => pM_le q)
      obtain ⟨ru, wu, b1, b2, b3, b4, b5, Su⟩ := R.cv h1u hi3 F1 (fun tg a q => pM_le q)
      obtain ⟨rh, wh, c1, c2, c3, c4, c5, Sh⟩ := R.cv h1h hi3 F1 (fun tg a q => pM_le q)
      have l1 := So.1.2.2.2.2.2.2.1
      have l2 := Su.1.2.2.2.2.2.2.1
      have l3 := Sh.1.2.2.2.2.2.2.1
      have mx1 : jI h1 301 (x + 30) 0 = 1 := (F1.ei (by omega) (by unfold pM; omega)).trans mxx
      refine VX2_bringTogether_34 _ _ _ _ _ ?_
      simp (disch := omega) only [(cM_k M1), (cM_r450_0 M1), (cM_k1 M1), (cM_n1 M1), (cM_r451_0 M1), (cM_k17 M1), (cM_n17 M1), (cM_r400_17 M1), (cM_k18 M1), (cM_n18 M1), (cM_r452_0 M1), (cM_k19 M1), (cM_n19 M1), (cM_r200_19 M1), (cM_k20 M1), (cM_n20 M1), (cM_r453_0 M1), (cM_k21 M1), (cM_n21 M1), (cM_r456_0 M1), (cM_k22 M1), (cM_n22 M1), (cM_r458_0 M1), (cM_k23 M1), (cM_n23 M1), (cM_r50_23 M1), (cM_k24 M1), (cM_n24 M1), (cM_r51_23 M1), (cM_k25 M1), (cM_n25 M1), (cM_r459_0 M1), (cM_k26 M1), (cM_n26 M1), (cM_r102_26 M1), (cM_k27 M1), (cM_n27 M1), (cM_r103_26 M1), (cM_k28 M1), (cM_n28 M1), (cM_r104_26 M1), (cM_k29 M1), (cM_n29 M1), (cM_r105_26 M1), (cM_k30 M1), (cM_n30 M1), (cM_r300_30 M1), (cM_k31 M1), (cM_n31 M1), (cM_r106_26 M1), (cM_k32 M1), (cM_n32 M1), (cM_r107_26 M1), (cM_k33 M1), (cM_n33 M1), (cM_r108_26 M1), (cM_k34 M1), (cM_n34 M1), (cM_r460_0 M1), (cM_k41 M1), (cM_n41 M1), (cM_r250_41 M1), (cM_k42 M1), (cM_n42 M1), q_clamp, q_in, nI_leI, nI_ltI, nI_eq, ql_0, qL_0, qt_0, qT_0, qe_0, qc_0, qi_0, ql_1, qL_1, qt_1, qT_1, qe_1, qc_1, qi_1, ql_2, qL_2, qt_2, qT_2, qe_2, qc_2, qi_2, ql_3, qL_3, qt_3, qT_3, qe_3, qc_3, qi_3, ql_4, qL_4, qt_4, qT_4, qe_4, qc_4, qi_4, ql_6, qL_6, qt_6, qT_6, qe_6, qc_6, qi_6, ql_8, qL_8, qt_8, qT_8, qe_8, qc_8, qi_8, ql_10, qL_10, qt_10, qT_10, qe_10, qc_10, qi_10, ql_24, qL_24, qt_24, qT_24, qe_24, qc_24, qi_24, ql_60, qL_60, qt_60, qT_60, qe_60, qc_60, qi_60, ql_100, qL_100, qt_100, qT_100, qe_100, qc_100, qi_100, ql_200, qL_200, qt_200, qT_200, qe_200, qc_200, qi_200, ql_400, qL_400, qt_400, qT_400, qe_400, qc_400, qi_400, ql_600, qL_600, qt_600, qT_600, qe_600, qc_600, qi_600, ql_900, qL_900, qt_900, qT_900, qe_900, qc_900, qi_900, ql_1200, qL_1200, qt_1200, qT_1200, qe_1200, qc_1200, qi_1200, ql_65536, qL_65536, qt_65536, qT_65536, qe_65536, qc_65536, qi_65536, a1, a2, a3, a4, a5, b1, b2, b3, b4, b5, c1, c2, c3, c4, c5, true_and, and_true, eq_self, forall_eq, forall_eq_apply_imp_iff]
      rw [mgA] at hm
      refine ⟨fun c => by omega, fun _ => c_bringTable (B := 600 * (i + 1)) M1 hz1 hi3 So Su Sh K1 mx1 (by omega) (by omega) (fun h2 q2 hq2 R2 K2 hl2 F2 => ?_) (fun h2 hq2 F2 => ?_)⟩
      · rw [hq2] at hm
        simp only at hm
        refine ⟨fun _ => ?_, fun c => absurd c (by decide)⟩
        rw [qa_1]
        refine ih (i + 1) h2 _ _ (by omega) (F1.trans F2 (fun tg a _ q => pT_pM hi3 q)) (fun u hu => ?_) K2 hl2 hm (fun i' => ?_)
        · by_cases e : u = i
          · subst e; simp only [if_pos]; exact R2
          · rw [if_neg e]
            exact (lo u (by omega)).cf F2 (by omega) (by omega) (by unfold pT pK; omega) (by unfold pT pK; omega) (by unfold pT pK; omega)
        · rw [F2.er (by omega) (by unfold pT pK; omega)]; exact v1 i'
      · rw [hq2] at hm
        exact ⟨fun c => absurd rfl c, fun _ => H0 h2 hm.symm (F1.trans F2 (fun tg a _ q => pT_pM hi3 q))⟩
  exact loop 3 0 h5 (fun _ => []) [] (by omega) F5 (fun u hu => by omega) k5 (by simp) hRES (fun _ => rfl)
theorem x_beginMerge {po ph kd : Nat} {v : Int32} (R : Rc h x m s n) (hw : s.wf) (hg : ¬ 0 < s.mg) (h1o : po < s.made) (h1h : ph < s.made) (b1o : bt s.here po = true) (b1h : bt s.here ph = true) (hkd : kd = 1 ∧ v = nI ph ∨ kd = 2 ∧ v = -1) (H : ∀ h', Rc h' x m (a_tog s po ph kd).2 n → xF h h' x m → Q (.int (a_tog s po ph kd).1) h') : jj_C mX9_beginMerge 0 0 [.ref x, .int (nI po), .int (nI ph), .int v] h Q := by
  refine jV_C (by decide +kernel) fun V => ?_
  have M := R.M
  have z := R.z
  have hz := z.2.1
  have hm := hw.1.2
  have G := R.2
  obtain ⟨w1, w2, w3, w4, w5⟩ := hw.2.2.2.2.2.2.2.1
  have hmg0 : s.mg = 0 := by omega
  have eO : cAt s (nI po) = some po := cAt_nI (by omega) b1o
  have eH : cAt s (nI ph) = some ph := cAt_nI (by omega) b1h
  obtain ⟨PO, KO⟩ := R.C h1o
  obtain ⟨PH, KH⟩ := R.C h1h
  refine EX9_beginMerge _ _ _ _ fun d => ⟨cM_k M, x_commitAt R hw (fun c1 hc1 => ?_) (fun hc1 => by rw [eO] at hc1; cases hc1)⟩
  rw [← Option.some.inj (eO.symm.trans hc1)]
  refine ⟨cM_k M, x_commitAt R hw (fun c2 hc2 => ?_) (fun hc2 => by rw [eH] at hc2; cases hc2)⟩
  rw [← Option.some.inj (eH.symm.trans hc2)]
  refine ⟨fun c => absurd c KO.1.nz, fun _ => ⟨fun _ => ?_, fun c => absurd c KH.1.nz⟩⟩
  simp (disch := omega) only [(cM_k M), (cM_r450_0 M), (cM_k1 M), (cM_n1 M), (cM_r451_0 M), (cM_k17 M), (cM_n17 M), (cM_r400_17 M), (cM_k18 M), (cM_n18 M), (cM_r452_0 M), (cM_k19 M), (cM_n19 M), (cM_r200_19 M), (cM_k20 M), (cM_n20 M), (cM_r453_0 M), (cM_k21 M), (cM_n21 M), (cM_r456_0 M), (cM_k22 M), (cM_n22 M), (cM_r458_0 M), (cM_k23 M), (cM_n23 M), (cM_r50_23 M), (cM_k24 M), (cM_n24 M), (cM_r51_23 M), (cM_k25 M), (cM_n25 M), (cM_r459_0 M), (cM_k26 M), (cM_n26 M), (cM_r102_26 M), (cM_k27 M), (cM_n27 M), (cM_r103_26 M), (cM_k28 M), (cM_n28 M), (cM_r104_26 M), (cM_k29 M), (cM_n29 M), (cM_r105_26 M), (cM_k30 M), (cM_n30 M), (cM_r300_30 M), (cM_k31 M), (cM_n31 M), (cM_r106_26 M), (cM_k32 M), (cM_n32 M), (cM_r107_26 M), (cM_k33 M), (cM_n33 M), (cM_r108_26 M), (cM_k34 M), (cM_n34 M), (cM_r460_0 M), (cM_k41 M), (cM_n41 M), (cM_r250_41 M), (cM_k42 M), (cM_n42 M), q_clamp, q_in, nI_leI, nI_ltI, nI_eq, ql_0, qL_0, qt_0, qT_0, qe_0, qc_0, qi_0, ql_1, qL_1, qt_1, qT_1, qe_1, qc_1, qi_1, ql_2, qL_2, qt_2, qT_2, qe_2, qc_2, qi_2, ql_3, qL_3, qt_3, qT_3, qe_3, qc_3, qi_3, ql_4, qL_4, qt_4, qT_4, qe_4, qc_4, qi_4, ql_6, qL_6, qt_6, qT_6, qe_6, qc_6, qi_6, ql_8, qL_8, qt_8, qT_8, qe_8, qc_8, qi_8, ql_10, qL_10, qt_10, qT_10, qe_10, qc_10, qi_10, ql_24, qL_24, qt_24, qT_24, qe_24, qc_24, qi_24, ql_60, qL_60, qt_60, qT_60, qe_60, qc_60, qi_60, ql_100, qL_100, qt_100, qT_100, qe_100, qc_100, qi_100, ql_200, qL_200, qt_200, qT_200, qe_200, qc_200, qi_200, ql_400, qL_400, qt_400, qT_400, qe_400, qc_400, qi_400, ql_600, qL_600, qt_600, qT_600, qe_600, qc_600, qi_600, ql_900, qL_900, qt_900, qT_900, qe_900, qc_900, qi_900, ql_1200, qL_1200, qt_1200, qT_1200, qe_1200, qc_1200, qi_1200, ql_65536, qL_65536, qt_65536, qT_65536, qe_65536, qc_65536, qi_65536, true_and, and_true, eq_self, forall_eq, forall_eq_apply_imp_iff]
  refine x_headAtHand R hw ?_
  simp (disch := omega) only [jj_vr, (cM_k M), (cM_r450_0 M), (cM_k1 M), (cM_n1 M), (cM_r451_0 M), (cM_k17 M), (cM_n17 M), (cM_r400_17 M), (cM_k18 M), (cM_n18 M), (cM_r452_0 M), (cM_k19 M), (cM_n19 M), (cM_r200_19 M), (cM_k20 M), (cM_n20 M), (cM_r453_0 M), (cM_k21 M), (cM_n21 M), (cM_r456_0 M), (cM_k22 M), (cM_n22 M), (cM_r458_0 M), (cM_k23 M), (cM_n23 M), (cM_r50_23 M), (cM_k24 M), (cM_n24 M), (cM_r51_23 M), (cM_k25 M), (cM_n25 M), (cM_r459_0 M), (cM_k26 M), (cM_n26 M), (cM_r102_26 M), (cM_k27 M), (cM_n27 M), (cM_r103_26 M), (cM_k28 M), (cM_n28 M), (cM_r104_26 M), (cM_k29 M), (cM_n29 M), (cM_r105_26 M), (cM_k30 M), (cM_n30 M), (cM_r300_30 M), (cM_k31 M), (cM_n31 M), (cM_r106_26 M), (cM_k32 M), (cM_n32 M), (cM_r107_26 M), (cM_k33 M), (cM_n33 M), (cM_r108_26 M), (cM_k34 M), (cM_n34 M), (cM_r460_0 M), (cM_k41 M), (cM_n41 M), (cM_r250_41 M), (cM_k42 M), (cM_n42 M), q_clamp, q_in, nI_leI, nI_ltI, nI_eq, ql_0, qL_0, qt_0, qT_0, qe_0, qc_0, qi_0, ql_1, qL_1, qt_1, qT_1, qe_1, qc_1, qi_1, ql_2, qL_2, qt_2, qT_2, qe_2, qc_2, qi_2, ql_3, qL_3, qt_3, qT_3, qe_3, qc_3, qi_3, ql_4, qL_4, qt_4, qT_4, qe_4, qc_4, qi_4, ql_6, qL_6, qt_6, qT_6, qe_6, qc_6, qi_6, ql_8, qL_8, qt_8, qT_8, qe_8, qc_8, qi_8, ql_10, qL_10, qt_10, qT_10, qe_10, qc_10, qi_10, ql_24, qL_24, qt_24, qT_24, qe_24, qc_24, qi_24, ql_60, qL_60, qt_60, qT_60, qe_60, qc_60, qi_60, ql_100, qL_100, qt_100, qT_100, qe_100, qc_100, qi_100, ql_200, qL_200, qt_200, qT_200, qe_200, qc_200, qi_200, ql_400, qL_400, qt_400, qT_400, qe_400, qc_400, qi_400, ql_600, qL_600, qt_600, qT_600, qe_600, qc_600, qi_600, ql_900, qL_900, qt_900, qT_900, qe_900, qc_900, qi_900, ql_1200, qL_1200, qt_1200, qT_1200, qe_1200, qc_1200, qi_1200, ql_65536, qL_65536, qt_65536, qT_65536, qe_65536, qc_65536, qi_65536, true_and, and_true, eq_self, forall_eq, forall_eq_apply_imp_iff]
  refine c_bringTog R hw h1o (hand_ok hw).2.1 h1h (fun h5 q hq R5 K5 F5 u0 u1 u2 => ?_) (fun h5 hq F5 => ?_)
  · have M5 := M.cf F5 hz (fun tg a q => by
      unfold pM at q
      by_cases e : tg = 1000
      · right; right; omega
      · right; left; simp only [List.mem_cons, List.not_mem_nil, or_false]; omega)
    refine ⟨fun _ => ?_, fun c => absurd c (by decide)⟩
    simp (disch := omega) only [(cM_k M5), (cM_r450_0 M5), (cM_k1 M5), (cM_n1 M5), (cM_r451_0 M5), (cM_k17 M5), (cM_n17 M5), (cM_r400_17 M5), (cM_k18 M5), (cM_n18 M5), (cM_r452_0 M5), (cM_k19 M5), (cM_n19 M5), (cM_r200_19 M5), (cM_k20 M5), (cM_n20 M5), (cM_r453_0 M5), (cM_k21 M5), (cM_n21 M5), (cM_r456_0 M5), (cM_k22 M5), (cM_n22 M5), (cM_r458_0 M5), (cM_k23 M5), (cM_n23 M5), (cM_r50_23 M5), (cM_k24 M5), (cM_n24 M5), (cM_r51_23 M5), (cM_k25 M5), (cM_n25 M5), (cM_r459_0 M5), (cM_k26 M5), (cM_n26 M5), (cM_r102_26 M5), (cM_k27 M5), (cM_n27 M5), (cM_r103_26 M5), (cM_k28 M5), (cM_n28 M5), (cM_r104_26 M5), (cM_k29 M5), (cM_n29 M5), (cM_r105_26 M5), (cM_k30 M5), (cM_n30 M5), (cM_r300_30 M5), (cM_k31 M5), (cM_n31 M5), (cM_r106_26 M5), (cM_k32 M5), (cM_n32 M5), (cM_r107_26 M5), (cM_k33 M5), (cM_n33 M5), (cM_r108_26 M5), (cM_k34 M5), (cM_n34 M5), (cM_r460_0 M5), (cM_k41 M5), (cM_n41 M5), (cM_r250_41 M5), (cM_k42 M5), (cM_n42 M5), q_clamp, q_in, nI_leI, nI_ltI, nI_eq, ql_0, qL_0, qt_0, qT_0, qe_0, qc_0, qi_0, ql_1, qL_1, qt_1, qT_1, qe_1, qc_1, qi_1, ql_2, qL_2, qt_2, qT_2, qe_2, qc_2, qi_2, ql_3, qL_3, qt_3, qT_3, qe_3, qc_3, qi_3, ql_4, qL_4, qt_4, qT_4, qe_4, qc_4, qi_4, ql_6, qL_6, qt_6, qT_6, qe_6, qc_6, qi_6, ql_8, qL_8, qt_8, qT_8, qe_8, qc_8, qi_8, ql_10, qL_10, qt_10, qT_10, qe_10, qc_10, qi_10, ql_24, qL_24, qt_24, qT_24, qe_24, qc_24, qi_24, ql_60, qL_60, qt_60, qT_60, qe_60, qc_60, qi_60, ql_100, qL_100, qt_100, qT_100, qe_100, qc_100, qi_100, ql_200, qL_200, qt_200, qT_200, qe_200, qc_200, qi_200, ql_400, qL_400, qt_400, qT_400, qe_400, qc_400, qi_400, ql_600, qL_600, qt_600, qT_600, qe_600, qc_600, qi_600, ql_900, qL_900, qt_900, qT_900, qe_900, qc_900, qi_900, ql_1200, qL_1200, qt_1200, qT_1200, qe_1200, qc_1200, qi_1200, ql_65536, qL_65536, qt_65536, qT_65536, qe_65536, qc_65536, qi_65536, jR_wI, true_and, and_true, eq_self, forall_eq, forall_eq_apply_imp_iff]
    generalize hh6 : wI (wI h5 100 (x + 26) 0 1) 101 (x + 26) 0 v = h6
    have F56 : cF (fun tg a => (tg = 100 ∨ tg = 101) ∧ a = x + 26) h5 h6 := by
      rw [← hh6]
      exact (cF.wI ⟨Or.inl rfl, rfl⟩).trans (cF.wI (P := fun tg a => (tg = 100 ∨ tg = 101) ∧ a = x + 26) ⟨Or.inr rfl, rfl⟩) (fun _ _ _ q => q)
    have F6 : cF (fun tg a => pM x tg a ∨ ((tg = 100 ∨ tg = 101) ∧ a = x + 26)) h h6 := (F5.mono fun tg a _ q => Or.inl q).trans F56 (fun tg a _ q => Or.inr q)
    have F' : cF (qF x) h h6 := F6.mono fun tg a _ q => q.elim pM_qF (fun q => ⟨by omega, by omega, by omega⟩)
    have i100 : jI h6 100 (x + 26) 0 = 1 := by rw [← hh6, jI_wI, if_neg (by omega), jI_wI, if_pos ⟨rfl, rfl, rfl⟩]
    have i101 : jI h6 101 (x + 26) 0 = v := by rw [← hh6, jI_wI, if_pos ⟨rfl, rfl, rfl⟩]
    have hz5 : x + 42 ≤ jZ h5 := Nat.le_trans hz F5.1
    have kd0 : 0 < kd := by omega
    have g := R.fld (s' := s.set4 (kd, ph, po, q.2)) hm V F' (fun P B => B) ⟨G.1.cf F6 hz (by unfold pM; omega) (by unfold pM; omega) (by unfold pM; omega) (by unfold pM; omega), G.2.1.cf F6 hz (by unfold pM; omega) (by unfold pM; omega) (by unfold pM; omega), ⟨?_, fun _ => ⟨?_, fun k hk => ?_⟩, K5.cf F56 hz5 (by omega) (by omega) (fun a _ _ => by omega), ?_⟩, G.2.2.2.cf (s := s) F6 hz (by unfold pM; omega) (by unfold pM; omega) (by unfold pM; omega)⟩
    · have R6 : ∀ t, t < 3 → rwO h6 (x + 35 + 2 * t) (x + 36 + 2 * t) (q.1 t) := fun t ht => (R5 t ht).cf F56 (by omega) (by omega) (by omega) (by omega) (by omega)
      have e2 : a_tog s po ph kd = (2 + nI q.2.length, (s.wk3 q.1).set4 (kd, ph, po, q.2)) := by unfold a_tog; rw [hq]
      have loop : ∀ p i (h7 : jj_H), i + p = 3 → Rc h7 x m ((s.set4 (kd, ph, po, q.2)).wk3 (fun u => if u < i then q.1 u else s.T 60 u)) n → xF h h7 x m → (∀ t, t < 3 → rwO h7 (x + 35 + 2 * t) (x + 36 + 2 * t) (q.1 t)) → jj_WP d mX9_beginMerge 0 0 74 [(0, .ref x), (6, .int (nI i))] [] h7 Q := by
        intro p
        induction p with
        | zero =>
          intro i h7 hi R7 F7 rr
          have e3 : i = 3 := by omega
          subst e3
          have M7 := R7.M
          have c1 : jI h7 109 (x + 26) 0 = nI q.2.length := R7.2.2.2.1.2.2.1.1
          refine VX9_beginMerge_74 _ _ ⟨fun _ => ?_, fun c => absurd (by decide) c⟩
          simp (disch := omega) only [(cM_k M7), (cM_r450_0 M7), (cM_k1 M7), (cM_n1 M7), (cM_r451_0 M7), (cM_k17 M7), (cM_n17 M7), (cM_r400_17 M7), (cM_k18 M7), (cM_n18 M7), (cM_r452_0 M7), (cM_k19 M7), (cM_n19 M7), (cM_r200_19 M7), (cM_k20 M7), (cM_n20 M7), (cM_r453_0 M7), (cM_k21 M7), (cM_n21 M7), (cM_r456_0 M7), (cM_k22 M7), (cM_n22 M7), (cM_r458_0 M7), (cM_k23 M7), (cM_n23 M7), (cM_r50_23 M7), (cM_k24 M7), (cM_n24 M7), (cM_r51_23 M7), (cM_k25 M7), (cM_n25 M7), (cM_r459_0 M7), (cM_k26 M7), (cM_n26 M7), (cM_r102_26 M7), (cM_k27 M7), (cM_n27 M7), (cM_r103_26 M7), (cM_k28 M7), (cM_n28 M7), (cM_r104_26 M7), (cM_k29 M7), (cM_n29 M7), (cM_r105_26 M7), (cM_k30 M7), (cM_n30 M7), (cM_r300_30 M7), (cM_k31 M7), (cM_n31 M7), (cM_r106_26 M7), (cM_k32 M7), (cM_n32 M7), (cM_r107_26 M7), (cM_k33 M7), (cM_n33 M7), (cM_r108_26 M7), (cM_k34 M7), (cM_n34 M7), (cM_r460_0 M7), (cM_k41 M7), (cM_n41 M7), (cM_r250_41 M7), (cM_k42 M7), (cM_n42 M7), c1, true_and, and_true, eq_self, forall_eq, forall_eq_apply_imp_iff]
          have R8 : Rc h7 x m ((s.set4 (kd, ph, po, q.2)).wk3 q.1) n := Rc.ext3 (s := s.set4 (kd, ph, po, q.2)) hm R7 (fun t ht => by rw [if_pos ht])
          have HH := H h7 (by rw [e2]; exact R8) F7
          rw [e2] at HH
          exact HH
        | succ p ih =>
          intro i h7 hi R7 F7 rr
          have hi3 : i < 3 := by omega
          have M7 := R7.M
          have z7 := R7.z.2.1
          have W := R7.W hi3
          have wt := R7.wt hi3
          have k1 := W.1.1
          obtain ⟨m1, m2, m3⟩ := M7.res hi3
          refine VX9_beginMerge_74 _ _ ?_
          simp (disch := omega) only [(cM_k M7), (cM_r450_0 M7), (cM_k1 M7), (cM_n1 M7), (cM_r451_0 M7), (cM_k17 M7), (cM_n17 M7), (cM_r400_17 M7), (cM_k18 M7), (cM_n18 M7), (cM_r452_0 M7), (cM_k19 M7), (cM_n19 M7), (cM_r200_19 M7), (cM_k20 M7), (cM_n20 M7), (cM_r453_0 M7), (cM_k21 M7), (cM_n21 M7), (cM_r456_0 M7), (cM_k22 M7), (cM_n22 M7), (cM_r458_0 M7), (cM_k23 M7), (cM_n23 M7), (cM_r50_23 M7), (cM_k24 M7), (cM_n24 M7), (cM_r51_23 M7), (cM_k25 M7), (cM_n25 M7), (cM_r459_0 M7), (cM_k26 M7), (cM_n26 M7), (cM_r102_26 M7), (cM_k27 M7), (cM_n27 M7), (cM_r103_26 M7), (cM_k28 M7), (cM_n28 M7), (cM_r104_26 M7), (cM_k29 M7), (cM_n29 M7), (cM_r105_26 M7), (cM_k30 M7), (cM_n30 M7), (cM_r300_30 M7), (cM_k31 M7), (cM_n31 M7), (cM_r106_26 M7), (cM_k32 M7), (cM_n32 M7), (cM_r107_26 M7), (cM_k33 M7), (cM_n33 M7), (cM_r108_26 M7), (cM_k34 M7), (cM_n34 M7), (cM_r460_0 M7), (cM_k41 M7), (cM_n41 M7), (cM_r250_41 M7), (cM_k42 M7), (cM_n42 M7), q_clamp, q_in, nI_leI, nI_ltI, nI_eq, ql_0, qL_0, qt_0, qT_0, qe_0, qc_0, qi_0, ql_1, qL_1, qt_1, qT_1, qe_1, qc_1, qi_1, ql_2, qL_2, qt_2, qT_2, qe_2, qc_2, qi_2, ql_3, qL_3, qt_3, qT_3, qe_3, qc_3, qi_3, ql_4, qL_4, qt_4, qT_4, qe_4, qc_4, qi_4, ql_6, qL_6, qt_6, qT_6, qe_6, qc_6, qi_6, ql_8, qL_8, qt_8, qT_8, qe_8, qc_8, qi_8, ql_10, qL_10, qt_10, qT_10, qe_10, qc_10, qi_10, ql_24, qL_24, qt_24, qT_24, qe_24, qc_24, qi_24, ql_60, qL_60, qt_60, qT_60, qe_60, qc_60, qi_60, ql_100, qL_100, qt_100, qT_100, qe_100, qc_100, qi_100, ql_200, qL_200, qt_200, qT_200, qe_200, qc_200, qi_200, ql_400, qL_400, qt_400, qT_400, qe_400, qc_400, qi_400, ql_600, qL_600, qt_600, qT_600, qe_600, qc_600, qi_600, ql_900, qL_900, qt_900, qT_900, qe_900, qc_900, qi_900, ql_1200, qL_1200, qt_1200, qT_1200, qe_1200, qc_1200, qi_1200, ql_65536, qL_65536, qt_65536, qT_65536, qe_65536, qc_65536, qi_65536, wt, k1, m1, true_and, and_true, eq_self, forall_eq, forall_eq_apply_imp_iff]
          refine ⟨fun c => by omega, fun _ => x_become R7 hm hi3 (rr i hi3) (by omega) (by omega) fun h8 R8 F8 G8 => ?_⟩
          rw [qa_1]
          refine ih (i + 1) h8 (by omega) ?_ (F7.trans F8) (fun t ht => (rr t ht).cf G8 (by omega) (by omega) (by unfold pW wb; omega) (by unfold pW wb; omega) (by unfold pW wb; omega))
          rw [St.wk3_wk] at R8
          have : (fun u => if u = i then q.1 i else if u < i then q.1 u else s.T 60 u) = (fun u => if u < i + 1 then q.1 u else s.T 60 u) := by
            funext u
            by_cases e : u = i
            · subst e; simp
            · by_cases e2 : u < i
              · rw [if_neg e, if_pos e2, if_pos (by omega)]
              · rw [if_neg e, if_neg e2, if_neg (by omega)]
          rw [this] at R8
          exact R8
      refine loop 3 0 h6 (by omega) ?_ g.2 R6
      have : (fun u => if u < 0 then q.1 u else s.T 60 u) = (s.set4 (kd, ph, po, q.2)).T 60 := by funext u; rw [if_neg (by omega)]; rfl
      rw [this, St.wk3_self]
      exact g.1
    · rw [i100]; show 1 = if 0 < kd then (1 : Int32) else 0; rw [if_pos kd0]
    · rw [i101]
      show v = if kd = 1 then nI ph else -1
      rcases hkd with ⟨e1, e2⟩ | ⟨e1, e2⟩
      · rw [if_pos e1, e2]
      · rw [if_neg (by omega), e2]
    · have ec : ∀ c, cad h6 x c = cad h x c := fun c => F6.er (by omega) (by unfold pM; omega)
      rw [ec, F56.er (by omega) (by omega)]
      show _ = cad h x (if k = 0 then po else if k = 1 then s.hN s.hand else ph)
      rcases (show k = 0 ∨ k = 1 ∨ k = 2 by omega) with e | e | e <;> subst e
      · exact u0
      · exact u1
      · exact u2
    · exact (F6.ei (tg := 301) (a := x + 30) (by omega) (by unfold pM; omega)).trans G.2.2.1.2.2.2
  · have M5 := M.cf F5 hz (fun tg a q => by
      unfold pM at q
      by_cases e : tg = 1000
      · right; right; omega
      · right; left; simp only [List.mem_cons, List.not_mem_nil, or_false]; omega)
    refine ⟨fun c => absurd rfl c, fun _ => ⟨cM_k M5, by rw [cM_r459_0 M5]; exact cM_k26 M5, ?_⟩⟩
    rw [cM_r459_0 M5]
    refine EX2_end _ fun d2 => ⟨cM_k26 M5, ?_⟩
    rintro _ rfl _ rfl _ rfl
    have F56 : cF (fun tg a => (tg = 100 ∨ tg = 109 ∨ tg = 110) ∧ a = x + 26) h5 (wI (wI (wI h5 100 (x + 26) 0 0) 109 (x + 26) 0 0) 110 (x + 26) 0 0) := ((cF.wI ⟨Or.inl rfl, rfl⟩).trans (cF.wI (P := fun tg a => (tg = 100 ∨ tg = 109 ∨ tg = 110) ∧ a = x + 26) ⟨Or.inr (Or.inl rfl), rfl⟩) (fun _ _ _ q => q)).trans (cF.wI (P := fun tg a => (tg = 100 ∨ tg = 109 ∨ tg = 110) ∧ a = x + 26) ⟨Or.inr (Or.inr rfl), rfl⟩) (fun _ _ _ q => q)
    have F6 : cF (fun tg a => pM x tg a ∨ ((tg = 100 ∨ tg = 109 ∨ tg = 110) ∧ a = x + 26)) h (wI (wI (wI h5 100 (x + 26) 0 0) 109 (x + 26) 0 0) 110 (x + 26) 0 0) := (F5.mono fun tg a _ q => Or.inl q).trans F56 (fun tg a _ q => Or.inr q)
    have F' : cF (qF x) h (wI (wI (wI h5 100 (x + 26) 0 0) 109 (x + 26) 0 0) 110 (x + 26) 0 0) := F6.mono fun tg a _ q => q.elim pM_qF (fun q => ⟨by omega, by omega, by omega⟩)
    have ecf := w3 hmg0
    have g := R.fld (s' := s) hm V F' (fun P B => B) ⟨G.1.cf F6 hz (by unfold pM; omega) (by unfold pM; omega) (by unfold pM; omega) (by unfold pM; omega), G.2.1.cf F6 hz (by unfold pM; omega) (by unfold pM; omega) (by unfold pM; omega), ⟨?_, fun q => absurd q hg, ⟨?_, ?_, fun i c hc => by rw [ecf] at hc; cases hc⟩, ?_⟩, G.2.2.2.cf (s := s) F6 hz (by unfold pM; omega) (by unfold pM; omega) (by unfold pM; omega)⟩
    · have e2 : a_tog s po ph kd = (-2, s) := by unfold a_tog; rw [hq]
      have HH := H _ (by rw [e2]; exact g.1) g.2
      rw [e2] at HH
      exact HH
    · rw [if_neg hg, jI_wI, if_neg (by omega), jI_wI, if_neg (by omega), jI_wI, if_pos ⟨rfl, rfl, rfl⟩]
    · rw [ecf, jI_wI, if_neg (by omega), jI_wI, if_pos ⟨rfl, rfl, rfl⟩]; rfl
    · rw [ecf, jI_wI, if_pos ⟨rfl, rfl, rfl⟩]; rfl
    · exact (F6.ei (tg := 301) (a := x + 30) (by omega) (by unfold pM; omega)).trans G.2.2.1.2.2.2
end JG4
