/-! the class: commits looked up, trees made -/
def tad (h : jj_H) (x p t : Nat) : Nat := if p = 60 then wb x t else tba h x p t
section JX4
variable {h h' h1 : jj_H} {x m n t : Nat} {s : St} {l : List Row} {Q : Value → jj_H → Prop}
theorem Rc.C (R : Rc h x m s n) {c : Nat} (hc : c < s.made) : ∃ P, kC h x m P s c := by obtain ⟨⟨P, B⟩, _⟩ := R; exact ⟨P, B.2.2.2.2.1 c hc⟩
theorem Sc.nz {a : Nat} (q : Sc h x m a) : a ≠ 0 := by have := q.1.1; omega
theorem x_commitAt {y : Int32} (R : Rc h x m s n) (hw : s.wf) (H1 : ∀ c, cAt s y = some c → Q (.ref (cad h x c)) h) (H0 : cAt s y = none → Q (.ref 0) h) : jj_C mX9_commitAt 0 0 [.ref x, .int y] h Q := by
  have M := R.M
  have hm := hw.1.2
  have i1 := R.2.1.1
  have i2 := R.2.1.2.1
  refine EX9_commitAt _ _ fun d => ⟨fun c => H0 (by unfold cAt; rw [lim_no1 c]), fun c => ?_⟩
  simp only [(cM_k M), (cM_r450_0 M), (cM_k1 M), (cM_n1 M), (cM_r451_0 M), (cM_k17 M), (cM_n17 M), (cM_r400_17 M), (cM_k18 M), (cM_n18 M), (cM_r452_0 M), (cM_k19 M), (cM_n19 M), (cM_r200_19 M), (cM_k20 M), (cM_n20 M), (cM_r453_0 M), (cM_k21 M), (cM_n21 M), (cM_r456_0 M), (cM_k22 M), (cM_n22 M), (cM_r458_0 M), (cM_k23 M), (cM_n23 M), (cM_r50_23 M), (cM_k24 M), (cM_n24 M), (cM_r51_23 M), (cM_k25 M), (cM_n25 M), (cM_r459_0 M), (cM_k26 M), (cM_n26 M), (cM_r102_26 M), (cM_k27 M), (cM_n27 M), (cM_r103_26 M), (cM_k28 M), (cM_n28 M), (cM_r104_26 M), (cM_k29 M), (cM_n29 M), (cM_r105_26 M), (cM_k30 M), (cM_n30 M), (cM_r300_30 M), (cM_k31 M), (cM_n31 M), (cM_r106_26 M), (cM_k32 M), (cM_n32 M), (cM_r107_26 M), (cM_k33 M), (cM_n33 M), (cM_r108_26 M), (cM_k34 M), (cM_n34 M), (cM_r460_0 M), (cM_k41 M), (cM_n41 M), (cM_r250_41 M), (cM_k42 M), (cM_n42 M), i1, i2, true_and, and_true, eq_self, forall_eq, forall_eq_apply_imp_iff]
  refine ⟨fun c2 => H0 ?_, fun c2 => ?_⟩
  · unfold cAt
    cases e : lim 60 y with
    | none => rfl
    | some k =>
      obtain ⟨e1, hk⟩ := lim_some (by decide) e
      rw [e1, nI_leI (by omega) (by omega)] at c2
      simp only
      rw [if_neg]
      intro z
      have := hw.2.2.1 k (by omega) z
      omega
  · obtain ⟨k, hk⟩ := lim_of (by omega) c c2
    obtain ⟨e1, hk2⟩ := lim_some (by omega) hk
    have e6 : lim 60 y = some k := by rw [e1]; exact lim_nI (by decide) (by omega)
    rw [e1, bt_shr (by omega)]
    refine ⟨fun c3 => ?_, fun c3 => H0 (by unfold cAt; rw [e6]; simp only; rw [c3]; rfl)⟩
    have c4 : bt s.here k = true := by
      cases z : bt s.here k with
      | true => rfl
      | false => exact absurd z c3
    simp (disch := omega) only [q_clamp, q_in, nI_leI, nI_ltI, nI_eq, ql_0, qL_0, qt_0, qT_0, qe_0, qc_0, qi_0, ql_1, qL_1, qt_1, qT_1, qe_1, qc_1, qi_1, ql_2, qL_2, qt_2, qT_2, qe_2, qc_2, qi_2, ql_3, qL_3, qt_3, qT_3, qe_3, qc_3, qi_3, ql_4, qL_4, qt_4, qT_4, qe_4, qc_4, qi_4, ql_6, qL_6, qt_6, qT_6, qe_6, qc_6, qi_6, ql_8, qL_8, qt_8, qT_8, qe_8, qc_8, qi_8, ql_10, qL_10, qt_10, qT_10, qe_10, qc_10, qi_10, ql_24, qL_24, qt_24, qT_24, qe_24, qc_24, qi_24, ql_60, qL_60, qt_60, qT_60, qe_60, qc_60, qi_60, ql_100, qL_100, qt_100, qT_100, qe_100, qc_100, qi_100, ql_200, qL_200, qt_200, qT_200, qe_200, qc_200, qi_200, ql_400, qL_400, qt_400, qT_400, qe_400, qc_400, qi_400, ql_600, qL_600, qt_600, qT_600, qe_600, qc_600, qi_600, ql_900, qL_900, qt_900, qT_900, qe_900, qc_900, qi_900, ql_1200, qL_1200, qt_1200, qT_1200, qe_1200, qc_1200, qi_1200, ql_65536, qL_65536, qt_65536, qT_65536, qe_65536, qc_65536, qi_65536, true_and, and_true, eq_self, forall_eq, forall_eq_apply_imp_iff]
    exact H1 k (by unfold cAt; rw [e6]; simp only; rw [c4]; rfl)
/-- a number of a commit, or -1 -/
def lnO (s : St) (v : Int32) : Int64 := if v = -1 then 0 else s.an (Int32.toNatClampNeg v)
theorem x_lineOf {v : Int32} (R : Rc h x m s n) (hw : s.wf) (hv : aCom v s.made) (H : Q (.long (lnO s v)) h) : jj_C mX9_lineOf 0 0 [.ref x, .int v] h Q := by
  have M := R.M
  have hm := hw.1.2
  have i1 := R.2.1.1
  refine EX9_lineOf _ _ fun d => ?_
  rcases hv with rfl | ⟨k, rfl, hk⟩
  · exact ⟨fun _ => by unfold lnO at H; rw [if_pos rfl] at H; exact H, fun c => absurd (by decide) c⟩
  · obtain ⟨P, K⟩ := R.C hk
    have nz := K.1.nz
    have kk := K.2.2.1
    have kl := K.2.2.2.2.2.1
    unfold cad at nz kk kl
    simp (disch := omega) only [(cM_k M), (cM_r450_0 M), (cM_k1 M), (cM_n1 M), (cM_r451_0 M), (cM_k17 M), (cM_n17 M), (cM_r400_17 M), (cM_k18 M), (cM_n18 M), (cM_r452_0 M), (cM_k19 M), (cM_n19 M), (cM_r200_19 M), (cM_k20 M), (cM_n20 M), (cM_r453_0 M), (cM_k21 M), (cM_n21 M), (cM_r456_0 M), (cM_k22 M), (cM_n22 M), (cM_r458_0 M), (cM_k23 M), (cM_n23 M), (cM_r50_23 M), (cM_k24 M), (cM_n24 M), (cM_r51_23 M), (cM_k25 M), (cM_n25 M), (cM_r459_0 M), (cM_k26 M), (cM_n26 M), (cM_r102_26 M), (cM_k27 M), (cM_n27 M), (cM_r103_26 M), (cM_k28 M), (cM_n28 M), (cM_r104_26 M), (cM_k29 M), (cM_n29 M), (cM_r105_26 M), (cM_k30 M), (cM_n30 M), (cM_r300_30 M), (cM_k31 M), (cM_n31 M), (cM_r106_26 M), (cM_k32 M), (cM_n32 M), (cM_r107_26 M), (cM_k33 M), (cM_n33 M), (cM_r108_26 M), (cM_k34 M), (cM_n34 M), (cM_r460_0 M), (cM_k41 M), (cM_n41 M), (cM_r250_41 M), (cM_k42 M), (cM_n42 M), i1, q_clamp, q_in, nI_leI, nI_ltI, nI_eq, ql_0, qL_0, qt_0, qT_0, qe_0, qc_0, qi_0, ql_1, qL_1, qt_1, qT_1, qe_1, qc_1, qi_1, ql_2, qL_2, qt_2, qT_2, qe_2, qc_2, qi_2, ql_3, qL_3, qt_3, qT_3, qe_3, qc_3, qi_3, ql_4, qL_4, qt_4, qT_4, qe_4, qc_4, qi_4, ql_6, qL_6, qt_6, qT_6, qe_6, qc_6, qi_6, ql_8, qL_8, qt_8, qT_8, qe_8, qc_8, qi_8, ql_10, qL_10, qt_10, qT_10, qe_10, qc_10, qi_10, ql_24, qL_24, qt_24, qT_24, qe_24, qc_24, qi_24, ql_60, qL_60, qt_60, qT_60, qe_60, qc_60, qi_60, ql_100, qL_100, qt_100, qT_100, qe_100, qc_100, qi_100, ql_200, qL_200, qt_200, qT_200, qe_200, qc_200, qi_200, ql_400, qL_400, qt_400, qT_400, qe_400, qc_400, qi_400, ql_600, qL_600, qt_600, qT_600, qe_600, qc_600, qi_600, ql_900, qL_900, qt_900, qT_900, qe_900, qc_900, qi_900, ql_1200, qL_1200, qt_1200, qT_1200, qe_1200, qc_1200, qi_1200, ql_65536, qL_65536, qt_65536, qT_65536, qe_65536, qc_65536, qi_65536, true_and, and_true, eq_self, forall_eq, forall_eq_apply_imp_iff]
    refine ⟨fun c => by omega, fun _ => ⟨fun c => by omega, fun _ => ⟨fun _ => ⟨kk, ?_⟩, fun c => absurd c nz⟩⟩⟩
    rw [kl]
    unfold lnO at H
    rw [if_neg (nI_m1 (by omega)), q_clamp (by omega)] at H
    exact H
theorem x_isAncestor {c : Nat} {v : Int32} (R : Rc h x m s n) (hw : s.wf) (hc : c < 60) (hv : aCom v s.made) (H1 : bt (lnO s v) c = true → Q (.int 1) h) (H0 : bt (lnO s v) c = false → Q (.int 0) h) : jj_C mX9_isAncestor 0 0 [.ref x, .int (nI c), .int v] h Q := by
  refine EX9_isAncestor _ _ _ fun d => ?_
  rw [qt_0 (by omega), qL_60 (by omega)]
  refine ⟨fun c => by omega, fun _ => ⟨fun c => by omega, fun _ => ⟨cM_k R.M, x_lineOf R hw hv ?_⟩⟩⟩
  simp only [jj_vj]
  rw [bt_shr (by omega)]
  refine ⟨H0, fun z => H1 ?_⟩
  cases e : bt (lnO s v) c with
  | true => rfl
  | false => exact absurd e z
theorem x_greatestOf {y : Int64} (R : Rc h x m s n) (hw : s.wf) (hy : ∀ i, i < 60 → bt y i = true → i < s.made) (H : Q (.int (nI (gr y 60))) h) : jj_C mX9_greatestOf 0 0 [.ref x, .long y] h Q := by
  have hm := hw.1
  have i1 := R.2.1.1
  refine EX9_greatestOf _ _ fun d => ⟨cM_k R.M, ?_⟩
  rw [i1]
  have top : ∀ k, s.made + k ≤ 60 → gr y (s.made + k) = gr y s.made := by
    intro k
    induction k with
    | zero => intro _; rfl
    | succ k ih =>
      intro hk
      rw [← Nat.add_assoc, gr, if_neg, ih (by omega)]
      intro z
      have := hy _ (by omega) z
      omega
  have e60 : gr y 60 = gr y s.made := by have := top (60 - s.made) (by omega); rw [show s.made + (60 - s.made) = 60 by omega] at this; exact this
  rw [e60] at H
  have loop : ∀ k, k ≤ 60 → Q (.int (nI (gr y k))) h → jj_WP d mX9_greatestOf 0 0 7 [(1, .long y), (3, .int (nI k - 1))] [] h Q := by
    intro k
    induction k with
    | zero => intro _ HH; exact VX9_greatestOf_7 _ _ ⟨fun _ => HH, fun c => absurd (by decide) c⟩
    | succ k ih =>
      intro hk HH
      rw [qs_1 (by omega), show k + 1 - 1 = k by omega]
      refine VX9_greatestOf_7 _ _ ?_
      rw [qt_0 (by omega), bt_shr (by omega)]
      rw [gr] at HH
      refine ⟨fun c => by omega, fun _ => ⟨fun c => ?_, fun c => ?_⟩⟩
      · rw [c] at HH
        have := ih (by omega) HH
        rw [Int32.sub_eq_add_neg] at this
        exact this
      · rw [if_pos (by cases e : bt y k with | true => rfl | false => exact absurd e c)] at HH
        exact HH
  exact loop s.made (by omega) H
theorem x_tableOf {y z : Int32} (R : Rc h x m s n) (hw : s.wf) (H1 : ∀ p t, pAt s y = some p → lim 3 z = some t → Q (.ref (tad h x p t)) h) (H0 : (pAt s y = none ∨ lim 3 z = none) → Q (.ref 0) h) : jj_C mX9_tableOf 0 0 [.ref x, .int y, .int z] h Q := by
  have M := R.M
  refine EX9_tableOf _ _ _ fun d => x_isTable (fun t ht => ⟨fun _ => ⟨fun c => ⟨cM_k M, x_commitAt R hw (fun k hk => ?_) (fun hk => ?_)⟩, fun c => ?_⟩, fun c => absurd c (by decide)⟩) (fun ht => ⟨fun c => absurd rfl c, fun _ => H0 (Or.inr ht)⟩)
  · obtain ⟨e, ht3⟩ := lim_some (by decide) ht
    obtain ⟨e1, hk1, _⟩ := cAt_some hw hk
    have hm := hw.1.2
    obtain ⟨P, K⟩ := R.C hk1
    have nz := K.1.nz
    have kk := K.2.2.1
    have k7 := K.2.2.2.2.2.2.1
    have k8 := K.2.2.2.2.2.2.2.1
    have := H1 k t (by unfold pAt; rw [if_neg c]; exact hk) ht
    unfold tad at this
    rw [if_neg (by omega)] at this
    refine ⟨fun _ => ⟨kk, k7, ?_⟩, fun c => absurd c nz⟩
    rw [e, k8, q_clamp (by omega)]
    exact ⟨vp_in_nI ht3 (by decide), this⟩
  · exact ⟨fun c => absurd rfl c, fun _ => H0 (Or.inl (by unfold pAt; rw [if_neg c]; exact hk))⟩
  · obtain ⟨e, ht3⟩ := lim_some (by decide) ht
    have wt := R.wt ht3
    have := H1 60 t (by unfold pAt; rw [if_pos c]) ht
    unfold tad at this
    rw [if_pos rfl] at this
    rw [e]
    simp (disch := omega) only [(cM_k M), (cM_r450_0 M), (cM_k1 M), (cM_n1 M), (cM_r451_0 M), (cM_k17 M), (cM_n17 M), (cM_r400_17 M), (cM_k18 M), (cM_n18 M), (cM_r452_0 M), (cM_k19 M), (cM_n19 M), (cM_r200_19 M), (cM_k20 M), (cM_n20 M), (cM_r453_0 M), (cM_k21 M), (cM_n21 M), (cM_r456_0 M), (cM_k22 M), (cM_n22 M), (cM_r458_0 M), (cM_k23 M), (cM_n23 M), (cM_r50_23 M), (cM_k24 M), (cM_n24 M), (cM_r51_23 M), (cM_k25 M), (cM_n25 M), (cM_r459_0 M), (cM_k26 M), (cM_n26 M), (cM_r102_26 M), (cM_k27 M), (cM_n27 M), (cM_r103_26 M), (cM_k28 M), (cM_n28 M), (cM_r104_26 M), (cM_k29 M), (cM_n29 M), (cM_r105_26 M), (cM_k30 M), (cM_n30 M), (cM_r300_30 M), (cM_k31 M), (cM_n31 M), (cM_r106_26 M), (cM_k32 M), (cM_n32 M), (cM_r107_26 M), (cM_k33 M), (cM_n33 M), (cM_r108_26 M), (cM_k34 M), (cM_n34 M), (cM_r460_0 M), (cM_k41 M), (cM_n41 M), (cM_r250_41 M), (cM_k42 M), (cM_n42 M), q_clamp, q_in, nI_leI, nI_ltI, nI_eq, ql_0, qL_0, qt_0, qT_0, qe_0, qc_0, qi_0, ql_1, qL_1, qt_1, qT_1, qe_1, qc_1, qi_1, ql_2, qL_2, qt_2, qT_2, qe_2, qc_2, qi_2, ql_3, qL_3, qt_3, qT_3, qe_3, qc_3, qi_3, ql_4, qL_4, qt_4, qT_4, qe_4, qc_4, qi_4, ql_6, qL_6, qt_6, qT_6, qe_6, qc_6, qi_6, ql_8, qL_8, qt_8, qT_8, qe_8, qc_8, qi_8, ql_10, qL_10, qt_10, qT_10, qe_10, qc_10, qi_10, ql_24, qL_24, qt_24, qT_24, qe_24, qc_24, qi_24, ql_60, qL_60, qt_60, qT_60, qe_60, qc_60, qi_60, ql_100, qL_100, qt_100, qT_100, qe_100, qc_100, qi_100, ql_200, qL_200, qt_200, qT_200, qe_200, qc_200, qi_200, ql_400, qL_400, qt_400, qT_400, qe_400, qc_400, qi_400, ql_600, qL_600, qt_600, qT_600, qe_600, qc_600, qi_600, ql_900, qL_900, qt_900, qT_900, qe_900, qc_900, qi_900, ql_1200, qL_1200, qt_1200, qT_1200, qe_1200, qc_1200, qi_1200, ql_65536, qL_65536, qt_65536, qT_65536, qe_65536, qc_65536, qi_65536, wt, true_and, and_true, eq_self, forall_eq, forall_eq_apply_imp_iff]
    exact this
/-- a tree of the work was made -/
theorem Rc.built {b : Nat} (R : Rc h x m s n) (hm : s.made ≤ 60) (V : jj_V h) (ht : t < 3) (hb : b = wb x t) (B' : bT h' b) (A' : nA h' b) (T' : tbX (Sw b) h' b (b + 3) (b + 4) (s.T 60 t) (tree (s.T 60 t))) (R' : rwO h' (b + 1) (b + 2) (s.T 60 t)) (F : bF h h' b (x + 18)) : Rc h' x m s n ∧ xF h h' x m ∧ ∀ c u, c < s.made → tba h' x c u = tba h x c u := by
  subst hb
  obtain ⟨⟨P, B⟩, G⟩ := R
  obtain ⟨z1, z2, z3, z4⟩ := id B.1
  have F2 := toCb F
  have W := B.2.2.1
  have nN : ∀ a, x ≤ a → a ≤ x + 42 → ¬ isN h (wb x t) a := fun a h1 h2 q => by
    obtain ⟨i, hi, e⟩ := q
    have := (W.1 t ht).2.2.2.2 i hi
    omega
  have ex : ∀ u, u < 3 → ∀ i, i < 202 → jR h 1000 (wb x u + 3) i ≤ jZ h := fun u hu i hi => by
    rcases (W.1 u hu).2.1.1 i hi with q | q
    · omega
    · exact (jV_le V (by omega)).2
  have q1 : ∀ tg a, x ≤ a → a ≤ x + 42 → pB h (wb x t) (x + 18) tg a → (a = wb x t ∧ (tg = 353 ∨ tg = 354)) ∨ (tg = 1000 ∧ (a = wb x t + 3 ∨ a = wb x t + 4 ∨ a = x + 18)) := fun tg a h1 h2 q => by
    rcases q with q | q
    · exact absurd q (nN a h1 h2)
    · exact q
  have r3 : ∀ u, u < 3 → u ≠ t → ∀ i, jR h' 1000 (wb x u + 3) i = jR h 1000 (wb x u + 3) i := fun u hu hne i => F2.er (by unfold wb; omega) fun q => by
    have := q1 _ _ (by unfold wb; omega) (by unfold wb; omega) q
    unfold wb at *
    omega
  have W' : Wk h' x (s.T 60) := by
    refine ⟨fun u hu => ?_, fun u u' i i' hu hu' hi hi' => ?_⟩
    · by_cases e : u = t
      · subst e
        refine ⟨B', A', R', fun _ => T', fun i hi => ?_⟩
        rcases F.2.2.2.2.2 i hi with q | q
        · rw [q]; exact (W.1 u hu).2.2.2.2 i hi
        · exact Or.inr (by omega)
      · refine (W.1 u hu).cf V F2 z2 hu (fun tg _ _ q => ?_) (fun q => ?_) (fun q => ?_) (fun j _ _ q => ?_) (fun a ha h0 tg _ _ q => ?_)
        · have := q1 _ _ (by unfold wb; omega) (by unfold wb; omega) q; unfold wb at *; omega
        · have := q1 _ _ (by unfold wb; omega) (by unfold wb; omega) q; unfold wb at *; omega
        · have := q1 _ _ (by unfold wb; omega) (by unfold wb; omega) q; unfold wb at *; omega
        · have := q1 _ _ (by unfold wb; omega) (by unfold wb; omega) q; unfold wb at *; omega
        · obtain ⟨i, hi, ei⟩ := ha
          have hgt := ((W.1 u hu).2.2.2.2 i hi).resolve_left (by rw [ei]; exact h0)
          rcases q with ⟨j, hj, ej⟩ | q
          · rcases W.2 u t i j hu ht hi hj (by rw [ei, ej]) with z | z
            · rw [ei] at z; exact h0 z
            · exact e z
          · unfold wb at *; omega
    · by_cases e : u = t
      · by_cases e' : u' = t
        · intro _; right; omega
        · subst e
          rw [r3 u' hu' e']
          rcases F.2.2.2.2.2 i hi with q | q
          · rw [q]; exact W.2 u u' i i' hu hu' hi hi'
          · intro z
            have := ex u' hu' i' hi'
            omega
      · by_cases e' : u' = t
        · subst e'
          rw [r3 u hu e]
          rcases F.2.2.2.2.2 i' hi' with q | q
          · rw [q]; exact W.2 u u' i i' hu hu' hi hi'
          · intro z
            have := ex u hu i hi
            omega
        · rw [r3 u hu e, r3 u' hu' e']; exact W.2 u u' i i' hu hu' hi hi'
  have nS : ∀ tg a, x ≤ a → a ≤ x + 42 → ¬ (x + 2 ≤ a ∧ a ≤ x + 16) → a ≠ x + 18 → ¬ pB h (wb x t) (x + 18) tg a := fun tg a h1 h2 h3 h4 q => by
    have := q1 _ _ h1 h2 q
    unfold wb at *
    omega
  have D : fP x (pB h (wb x t) (x + 18)) := fun tg a q => by
    by_cases h0 : x ≤ a ∧ a ≤ x + 42
    · right
      have := q1 tg a h0.1 h0.2 q
      by_cases e : tg = 1000
      · right; unfold wb at *; omega
      · left; simp only [List.mem_cons, List.not_mem_nil, or_false]; omega
    · left; omega
  have hW : ∀ a, Wn h' x a → Wn h x a ∨ jZ h < a := by
    rintro a ⟨u, hu, i, hi, e⟩
    by_cases hut : u = t
    · subst hut
      rcases F.2.2.2.2.2 i hi with q | q
      · left; exact ⟨u, hu, i, hi, by rw [← q]; exact e⟩
      · right; omega
    · left; exact ⟨u, hu, i, hi, by rw [← r3 u hu hut]; exact e⟩
  have hs : ∀ tg a, Sc h x m a → ¬ pB h (wb x t) (x + 18) tg a := fun tg a sc q => by
    have h1 := sc.1.1
    rcases q with q | q
    · exact sc.1.2.2 ⟨t, ht, q⟩
    · unfold wb at *; omega
  have g := RcB.gen hm B F2 D hs (nS _ _ (by omega) (by omega) (by omega) (by omega)) (nS _ _ (by omega) (by omega) (by omega) (by omega)) (nS _ _ (by omega) (by omega) (by omega) (by omega)) W' hW
  rw [St.wk3_self] at g
  refine ⟨⟨⟨P, g.1⟩, G.cf F2 z2 fun tg a q => ?_⟩, fun hh => mF.of F2 z3 fun tg a h1 h2 q => ?_, fun c u hc => ((B.2.2.2.2.1 c hc).ads g.2 (F2.er (by omega) (nS _ _ (by omega) (by omega) (by omega) (by omega)))).2.2 u⟩
  · by_cases h0 : x ≤ a ∧ a ≤ x + 42
    · have := q1 tg a h0.1 h0.2 q; unfold wb at *; omega
    · omega
  · rcases q with q | q
    · exact z4 a h1 h2 (by omega) ⟨t, ht, q⟩
    · unfold wb at *; omega
theorem x_treeOf {y z : Int32} (R : Rc h x m s n) (hw : s.wf) (H1 : ∀ p t, pAt s y = some p → lim 3 z = some t → ∀ h', Rc h' x m s n → xF h h' x m → jI h' 354 (tad h' x p t) 0 = 0 → (p ≠ 60 ∨ jI h 354 (wb x t) 0 = 0 → h' = h) → (∀ c u, c < s.made → tba h' x c u = tba h x c u) → Q (.ref (tad h' x p t)) h') (H0 : (pAt s y = none ∨ lim 3 z = none) → Q (.ref 0) h) : jj_C mX9_treeOf 1616 14544 [.ref x, .int y, .int z] h Q := by
  refine jV_C (by decide +kernel) fun V => ?_
  have M := R.M
  refine EX9_treeOf _ _ _ fun d => ⟨cM_k M, x_tableOf R hw (fun p t hp ht => ?_) (fun e => ⟨fun _ => H0 e, fun c => absurd rfl c⟩)⟩
  obtain ⟨e, ht3⟩ := lim_some (by decide) ht
  rcases pAt_some hw hp with ⟨_, e6⟩ | ⟨e1, hk, _⟩
  · subst e6
    have et : ∀ h, tad h x 60 t = wb x t := fun h => by unfold tad; rw [if_pos rfl]
    have W := R.W ht3
    rw [et]
    refine ⟨fun c => by unfold wb at c; omega, fun _ => ⟨W.1.1, fun c => ?_, fun c => ?_⟩⟩
    · have := H1 60 t hp ht h R xF.rf (by rw [et]; exact c) (fun _ => rfl) (fun _ _ _ => rfl)
      rw [et] at this
      exact this
    · refine ⟨cM_k M, by rw [cM_r451_0 M]; exact cM_k17 M, by omega, by omega, ?_⟩
      rw [cM_r451_0 M]
      refine c_build W.1 W.2.1 W.2.2.1 (cM_k17 M) (cM_r400_17 M) (cM_k18 M) (cM_n18 M) (by unfold wb; omega) (by unfold wb; omega) fun h2 B2 A2 T2 R2 i2 F2 => ?_
      have g := R.built hw.1.2 V ht3 rfl B2 A2 T2 R2 F2
      have := H1 60 t hp ht h2 g.1 g.2.1 (by rw [et]; exact i2) (fun z => by
        rcases z with z | z
        · exact absurd rfl z
        · exact absurd z c) g.2.2
      rw [et] at this
      exact this
  · have hm := hw.1.2
    have et : tad h x p t = tba h x p t := by unfold tad; rw [if_neg (by omega)]
    obtain ⟨P, K⟩ := R.C hk
    obtain ⟨s1, r, w, na, st, s2, s3, s4, s5, e1, R', e2, T⟩ := K.2.2.2.2.2.2.2.2 t ht3
    have := H1 p t hp ht h R xF.rf (by rw [et]; exact e2) (fun _ => rfl) (fun _ _ _ => rfl)
    rw [et] at this ⊢
    exact ⟨fun c => absurd c s1.nz, fun _ => ⟨T.1, fun _ => this, fun c => absurd e2 c⟩⟩
theorem Rc.tv {p : Nat} (R : Rc h x m s n) (hp : p < s.made ∨ p = 60) (hm : s.made ≤ 60) (ht : t < 3) (st : jI h 354 (tad h x p t) 0 = 0) : ∃ S na st, tbX S h (tad h x p t) na st (s.T p t) (tree (s.T p t)) ∧ tad h x p t ≠ 0 := by
  by_cases e : p = 60
  · subst e
    unfold tad at *
    rw [if_pos rfl] at *
    exact ⟨_, _, _, (R.W ht).2.2.2.1 st, by unfold wb; omega⟩
  · unfold tad at *
    rw [if_neg e] at *
    obtain ⟨P, K⟩ := R.C (hp.resolve_right e)
    obtain ⟨s1, r, w, na, st, s2, s3, s4, s5, e1, R', e2, T⟩ := K.2.2.2.2.2.2.2.2 t ht
    exact ⟨_, _, _, T, s1.nz⟩
end JX4
