/-! the class: a commit is made -/
section JCo
variable {h h' h1 : jj_H} {x m n t : Nat} {s : St} {P P' : Pl} {Q : Value → jj_H → Prop}
theorem RcB.built {b : Nat} {P : Pl} (B : RcB h x m s n P) (hm : s.made ≤ 60) (V : jj_V h) (ht : t < 3) (hb : b = wb x t) (B' : bT h' b) (A' : nA h' b) (T' : tbX (Sw b) h' b (b + 3) (b + 4) (s.T 60 t) (tree (s.T 60 t))) (R' : rwO h' (b + 1) (b + 2) (s.T 60 t)) (F : bF h h' b (x + 18)) : RcB h' x m s n P ∧ sF h h' x m ∧ xF h h' x m ∧ cF (pB h b (x + 18)) h h' ∧ (∀ tg a, Sc h x m a → ¬ pB h b (x + 18) tg a) ∧ (∀ a, Wn h' x a → Wn h x a ∨ jZ h < a) ∧ (∀ tg a, pB h b (x + 18) tg a → a < x ∨ (x < a ∧ a < x + 19) ∨ x + 42 < a) := by
  subst hb
  obtain ⟨z1, z2, z3, z4⟩ := id B.1
  have F2 := toCb F
  have W := B.2.2.1
  have nN : ∀ a, x ≤ a → a ≤ x + 42 → ¬ isN h (wb x t) a := fun a h1 h2 q => by
    obtain ⟨i, hi, e⟩ := q
    have := (W.1 t ht).2.2.2.2 i hi
    omega
  have ex : ∀ u, u < 3 → ∀ i, i < 202 → jR h 1000 (wb x u + 3) i ≤ jZ h := fun u hu i hi => by
    rcases (W.1 u hu).2.1.1 i hi with q | q
    · omega
    · exact (jV_le V (by omega)).2
  have q1 : ∀ tg a, x ≤ a → a ≤ x + 42 → pB h (wb x t) (x + 18) tg a → (a = wb x t ∧ (tg = 353 ∨ tg = 354)) ∨ (tg = 1000 ∧ (a = wb x t + 3 ∨ a = wb x t + 4 ∨ a = x + 18)) := fun tg a h1 h2 q => by
    rcases q with q | q
    · exact absurd q (nN a h1 h2)
    · exact q
  have r3 : ∀ u, u < 3 → u ≠ t → ∀ i, jR h' 1000 (wb x u + 3) i = jR h 1000 (wb x u + 3) i := fun u hu hne i => F2.er (by unfold wb; omega) fun q => by
    have := q1 _ _ (by unfold wb; omega) (by unfold wb; omega) q
    unfold wb at *
    omega
  have W' : Wk h' x (s.T 60) := by
    refine ⟨fun u hu => ?_, fun u u' i i' hu hu' hi hi' => ?_⟩
    · by_cases e : u = t
      · subst e
        refine ⟨B', A', R', fun _ => T', fun i hi => ?_⟩
        rcases F.2.2.2.2.2 i hi with q | q
        · rw [q]; exact (W.1 u hu).2.2.2.2 i hi
        · exact Or.inr (by omega)
      · refine (W.1 u hu).cf V F2 z2 hu (fun tg _ _ q => ?_) (fun q => ?_) (fun q => ?_) (fun j _ _ q => ?_) (fun a ha h0 tg _ _ q => ?_)
        · have := q1 _ _ (by unfold wb; omega) (by unfold wb; omega) q; unfold wb at *; omega
        · have := q1 _ _ (by unfold wb; omega) (by unfold wb; omega) q; unfold wb at *; omega
        · have := q1 _ _ (by unfold wb; omega) (by unfold wb; omega) q; unfold wb at *; omega
        · have := q1 _ _ (by unfold wb; omega) (by unfold wb; omega) q; unfold wb at *; omega
        · obtain ⟨i, hi, ei⟩ := ha
          have hgt := ((W.1 u hu).2.2.2.2 i hi).resolve_left (by rw [ei]; exact h0)
          rcases q with ⟨j, hj, ej⟩ | q
          · rcases W.2 u t i j hu ht hi hj (by rw [ei, ej]) with z | z
            · rw [ei] at z; exact h0 z
            · exact e z
          · unfold wb at *; omega
    · by_cases e : u = t
      · by_cases e' : u' = t
        · intro _; right; omega
        · subst e
          rw [r3 u' hu' e']
          rcases F.2.2.2.2.2 i hi with q | q
          · rw [q]; exact W.2 u u' i i' hu hu' hi hi'
          · intro z
            have := ex u' hu' i' hi'
            omega
      · by_cases e' : u' = t
        · subst e'
          rw [r3 u hu e]
          rcases F.2.2.2.2.2 i' hi' with q | q
          · rw [q]; exact W.2 u u' i i' hu hu' hi hi'
          · intro z
            have := ex u hu i hi
            omega
        · rw [r3 u hu e, r3 u' hu' e']; exact W.2 u u' i i' hu hu' hi hi'
  have nS : ∀ tg a, x ≤ a → a ≤ x + 42 → ¬ (x + 2 ≤ a ∧ a ≤ x + 16) → a ≠ x + 18 → ¬ pB h (wb x t) (x + 18) tg a := fun tg a h1 h2 h3 h4 q => by
    have := q1 _ _ h1 h2 q
    unfold wb at *
    omega
  have D : fP x (pB h (wb x t) (x + 18)) := fun tg a q => by
    by_cases h0 : x ≤ a ∧ a ≤ x + 42
    · right
      have := q1 tg a h0.1 h0.2 q
      by_cases e : tg = 1000
      · right; unfold wb at *; omega
      · left; simp only [List.mem_cons, List.not_mem_nil, or_false]; omega
    · left; omega
  have hW : ∀ a, Wn h' x a → Wn h x a ∨ jZ h < a := by
    rintro a ⟨u, hu, i, hi, e⟩
    by_cases hut : u = t
    · subst hut
      rcases F.2.2.2.2.2 i hi with q | q
      · left; exact ⟨u, hu, i, hi, by rw [← q]; exact e⟩
      · right; omega
    · left; exact ⟨u, hu, i, hi, by rw [← r3 u hu hut]; exact e⟩
  have hs : ∀ tg a, Sc h x m a → ¬ pB h (wb x t) (x + 18) tg a := fun tg a sc q => by
    have h1 := sc.1.1
    rcases q with q | q
    · exact sc.1.2.2 ⟨t, ht, q⟩
    · unfold wb at *; omega
  have g := RcB.gen hm B F2 D hs (nS _ _ (by omega) (by omega) (by omega) (by omega)) (nS _ _ (by omega) (by omega) (by omega) (by omega)) (nS _ _ (by omega) (by omega) (by omega) (by omega)) W' hW
  rw [St.wk3_self] at g
  refine ⟨g.1, g.2, fun hh => mF.of F2 z3 fun tg a h1 h2 q => ?_, F2, hs, hW, fun tg a q => ?_⟩
  · rcases q with q | q
    · exact z4 a h1 h2 (by omega) ⟨t, ht, q⟩
    · unfold wb at *; omega
  · by_cases h0 : x ≤ a ∧ a ≤ x + 42
    · have := q1 tg a h0.1 h0.2 q; unfold wb at *; omega
    · omega
/-- the work's tree, whatever the state -/
theorem x_treeW (B : RcB h x m s n P) (hm : s.made ≤ 60) (ht : t < 3) (H : ∀ h', RcB h' x m s n P → sF h h' x m → xF h h' x m → jI h' 354 (wb x t) 0 = 0 → (∃ T, cF T h h' ∧ (∀ tg a, Sc h x m a → ¬ T tg a) ∧ (∀ tg a, T tg a → a < x ∨ (x < a ∧ a < x + 19) ∨ x + 42 < a)) → (∀ a, Wn h' x a → Wn h x a ∨ jZ h < a) → Q (.ref (wb x t)) h') : jj_C mX9_treeOf 1616 14544 [.ref x, .int (-1), .int (nI t)] h Q := by
  refine jV_C (by decide +kernel) fun V => ?_
  have M := B.2.1
  have W := B.2.2.1.1 t ht
  have wt : jR h 1000 (x + 1) t = wb x t := (M.2.2 t ht).1
  refine EX9_treeOf _ _ _ fun d => ⟨cM_k M, EX9_tableOf _ _ _ fun d2 => x_isTable (fun t' ht' => ?_) (fun ht' => by rw [lim_nI (by decide) ht] at ht'; cases ht')⟩
  refine ⟨fun _ => ⟨fun c => absurd rfl c, fun _ => ?_⟩, fun c => absurd c (by decide)⟩
  simp (disch := omega) only [(cM_k M), (cM_r450_0 M), (cM_k1 M), (cM_n1 M), (cM_r451_0 M), (cM_k17 M), (cM_n17 M), (cM_r400_17 M), (cM_k18 M), (cM_n18 M), (cM_r452_0 M), (cM_k19 M), (cM_n19 M), (cM_r200_19 M), (cM_k20 M), (cM_n20 M), (cM_r453_0 M), (cM_k21 M), (cM_n21 M), (cM_r456_0 M), (cM_k22 M), (cM_n22 M), (cM_r458_0 M), (cM_k23 M), (cM_n23 M), (cM_r50_23 M), (cM_k24 M), (cM_n24 M), (cM_r51_23 M), (cM_k25 M), (cM_n25 M), (cM_r459_0 M), (cM_k26 M), (cM_n26 M), (cM_r102_26 M), (cM_k27 M), (cM_n27 M), (cM_r103_26 M), (cM_k28 M), (cM_n28 M), (cM_r104_26 M), (cM_k29 M), (cM_n29 M), (cM_r105_26 M), (cM_k30 M), (cM_n30 M), (cM_r300_30 M), (cM_k31 M), (cM_n31 M), (cM_r106_26 M), (cM_k32 M), (cM_n32 M), (cM_r107_26 M), (cM_k33 M), (cM_n33 M), (cM_r108_26 M), (cM_k34 M), (cM_n34 M), (cM_r460_0 M), (cM_k41 M), (cM_n41 M), (cM_r250_41 M), (cM_k42 M), (cM_n42 M), q_clamp, q_in, nI_leI, nI_ltI, nI_eq, ql_0, qL_0, qt_0, qT_0, qe_0, qc_0, qi_0, ql_1, qL_1, qt_1, qT_1, qe_1, qc_1, qi_1, ql_2, qL_2, qt_2, qT_2, qe_2, qc_2, qi_2, ql_3, qL_3, qt_3, qT_3, qe_3, qc_3, qi_3, ql_4, qL_4, qt_4, qT_4, qe_4, qc_4, qi_4, ql_6, qL_6, qt_6, qT_6, qe_6, qc_6, qi_6, ql_8, qL_8, qt_8, qT_8, qe_8, qc_8, qi_8, ql_10, qL_10, qt_10, qT_10, qe_10, qc_10, qi_10, ql_24, qL_24, qt_24, qT_24, qe_24, qc_24, qi_24, ql_60, qL_60, qt_60, qT_60, qe_60, qc_60, qi_60, ql_100, qL_100, qt_100, qT_100, qe_100, qc_100, qi_100, ql_200, qL_200, qt_200, qT_200, qe_200, qc_200, qi_200, ql_400, qL_400, qt_400, qT_400, qe_400, qc_400, qi_400, ql_600, qL_600, qt_600, qT_600, qe_600, qc_600, qi_600, ql_900, qL_900, qt_900, qT_900, qe_900, qc_900, qi_900, ql_1200, qL_1200, qt_1200, qT_1200, qe_1200, qc_1200, qi_1200, ql_65536, qL_65536, qt_65536, qT_65536, qe_65536, qc_65536, qi_65536, wt, true_and, and_true, eq_self, forall_eq, forall_eq_apply_imp_iff]
  show ((wb x t) = 0 → _) ∧ _
  refine ⟨fun c => by unfold wb at c; omega, fun _ => ⟨W.1.1, fun c => H h B sF.rf xF.rf c ⟨fun _ _ => False, cF.rf, fun _ _ _ q => q, fun _ _ q => absurd q id⟩ (fun a w => Or.inl w), fun c => ?_⟩⟩
  refine ⟨by omega, by omega, ?_⟩
  refine c_build W.1 W.2.1 W.2.2.1 (cM_k17 M) (cM_r400_17 M) (cM_k18 M) (cM_n18 M) (by unfold wb; omega) (by unfold wb; omega) fun h2 B2 A2 T2 R2 i2 F2 => ?_
  obtain ⟨g1, g2, g3, g4, g5, g6, g7⟩ := B.built hm V ht rfl B2 A2 T2 R2 F2
  exact H h2 g1 g2 g3 i2 ⟨_, g4, g5, g7⟩ g6
theorem pool_all (B : RcB h x m s n P) {k : NK} (hk : thS s k) : ∃ b, (b, k) ∈ P (bk k) := by
  obtain ⟨c, hc, _, h3⟩ := hk
  obtain ⟨t, ht, h4⟩ := mem_nk3.mp h3
  obtain ⟨s1, r, w, na, st, s2, s3, s4, s5, e1, R', e2, T⟩ := (B.2.2.2.2.1 c hc).2.2.2.2.2.2.2.2 t ht
  obtain ⟨nd, h5, h6⟩ := List.mem_map.mp h4
  obtain ⟨i, hi⟩ := List.getElem?_of_mem h5
  obtain ⟨r', w', ⟨p1, _⟩, _⟩ := T.2.2.2.2.2.2.2.2.2.2.2 i nd hi
  rw [h6] at p1
  exact ⟨_, p1⟩
theorem RcB.kept (B : RcB h x m s n P) (V : jj_V h) (F : cF (fun tg a => tg = 1000 ∧ a = x + 20) h h') (wn : ∀ a, Wn h' x a → Wn h x a) (Po : PO h' x m P') (sub : ∀ k a, (a, k) ∈ P (bk k) → (a, k) ∈ P' (bk k)) (new : ∀ β p, β < 4096 → p ∈ P' β → p ∈ P β ∨ (jI h' 157 p.1 0 = 0 ∧ jI h' 158 p.1 0 = 0 ∧ ∀ b, (b, p.2) ∉ P (bk p.2))) : RcB h' x m s n P' ∧ sF h h' x m ∧ xF h h' x m := by
  have pa : ∀ {k}, thS s k → ∃ b, (b, k) ∈ P (bk k) := fun hk => pool_all B hk
  obtain ⟨⟨z1, z2, z3, z4⟩, M, W, Po0, C, Mq⟩ := B
  have hz := F.1
  have sf : sF h h' x m := sF.of F (fun tg a s q => by have := s.1.1; omega) (fun b w => Or.inl (wn b w))
  refine ⟨⟨⟨z1, by omega, by omega, fun a h1 h2 h3 w => z4 a h1 h2 h3 (wn a w)⟩, M.cf F z2 (fun tg a q => by right; right; omega), W.cf V F z2 z1 (fun tg a q _ => by omega), Po, fun c hc => (C c hc).sf sf (F.er (by omega) (by omega)) sub, ?_⟩, sf, fun hh => mF.of F z3 fun tg a h1 h2 q => by omega⟩
  obtain ⟨⟨q, q1, q2, q3, q4, q5⟩, q6⟩ := Mq
  refine ⟨⟨q, q1, q2, (F.ei (by omega) (by omega)).trans q3, fun β hβ p hp => ?_, fun c t hc ht => ?_⟩, fun β hβ p hp => ?_⟩
  · rcases new β p hβ hp with y | ⟨y1, _, _⟩
    · have s1 := ((Po0 β hβ).1.mem p y).1
      rw [F.ei s1.1.2.1 (by have := s1.1.1; omega)]
      exact q4 β hβ p y
    · exact ⟨0, Nat.zero_le _, y1⟩
  · rw [((C c hc).ads sf (F.er (by omega) (by omega))).2.2 t]
    have s1 := ((C c hc).2.2.2.2.2.2.2.2 t ht).1
    rw [F.ei s1.1.2.1 (by have := s1.1.1; omega)]
    exact q5 c t hc ht
  · rcases new β p hβ hp with y | ⟨_, y2, y3⟩
    · have s1 := ((Po0 β hβ).1.mem p y).1
      rw [F.ei s1.1.2.1 (by have := s1.1.1; omega)]
      exact q6 β hβ p y
    · refine ⟨fun th => ?_, fun _ => y2⟩
      obtain ⟨b, hb⟩ := pa th
      exact absurd hb (y3 b)
/-- an array of tables that is nobody's yet is written -/
theorem RcB.ta {ta i v : Nat} (B : RcB h x m s n P) (V : jj_V h) (k27 : jK h ta = 27) (hx : x + 42 < ta) (hta : ta ≤ jZ h) (hm : ta < m ∨ m + 24 < ta) (hne : ∀ c, c < s.made → jR h 3 (cad h x c) 0 ≠ ta) : RcB (wR h 1000 ta i v) x m s n P ∧ xF h (wR h 1000 ta i v) x m ∧ (∀ a, Sc h x m a → Sc (wR h 1000 ta i v) x m a) := by
  obtain ⟨⟨z1, z2, z3, z4⟩, M, W, Po, C, Mq⟩ := B
  have F : cF (fun tg a => tg = 1000 ∧ a = ta) h (wR h 1000 ta i v) := cF.wR ⟨rfl, rfl⟩
  have wn : ∀ b, Wn (wR h 1000 ta i v) x b → Wn h x b := Wn.cf F z2 (fun a h1 h2 q => by omega)
  have hs : ∀ a, Sc h x m a → Sc (wR h 1000 ta i v) x m a := fun a s => s.cf F wn
  have hT : ∀ tg a, Sc h x m a → (tg = 1000 ∧ a = ta) → 25 ≤ jK h a := fun tg a _ q => by rw [q.2, k27]; decide
  have nwt : ¬ Wn h x ta := by
    rintro ⟨u, hu, j, hj, e⟩
    rcases (W.1 u hu).2.1.1 j hj with q | q
    · omega
    · rw [e] at q; omega
  refine ⟨⟨⟨z1, z2, z3, fun a h1 h2 h3 w => z4 a h1 h2 h3 (wn a w)⟩, M.cf F z2 (fun tg a q => by left; omega), W.cf V F z2 z1 (fun tg a q _ => Or.inr (Or.inr ⟨by omega, by rw [q.2]; exact nwt⟩)), Po.kf F hs hT (fun β => F.er (by omega) (by omega)), fun c hc => ?_, ?_⟩, fun hh => mF.of F z3 fun tg a h1 h2 q => by omega, hs⟩
  · have K := C c hc
    have hne' := hne c hc
    have e1 : cad (wR h 1000 ta i v) x c = cad h x c := F.er (by omega) (by omega)
    have e2 : jR (wR h 1000 ta i v) 3 (cad h x c) 0 = jR h 3 (cad h x c) 0 := F.er K.1.1.2.1 (by omega)
    have e3 : ∀ t, tba (wR h 1000 ta i v) x c t = tba h x c t := fun t => by
      unfold tba
      rw [e1, e2]
      exact F.er K.2.1.1.2.1 (fun q => hne' q.2)
    obtain ⟨k1, k2, k3, k4, k5, k6, k7, k8, k9⟩ := K
    unfold kC
    rw [e1, e2]
    refine ⟨hs _ k1, hs _ k2, k3, k4, k5, k6, k7, k8, fun t ht => ?_⟩
    rw [e3]
    obtain ⟨s1, r, w, na, st, s2, s3, s4, s5, f1, R', f2, T⟩ := k9 t ht
    have kw := R'.2.2.1
    have kna := T.2.2.2.1
    have kst := T.2.2.2.2.1
    have ne : ∀ {a}, jK h a ≠ 27 → ∀ tg, ¬ (tg = 1000 ∧ a = ta) := fun hk tg q => hk (by rw [q.2]; exact k27)
    refine ⟨hs _ s1, r, w, na, st, hs _ s2, hs _ s3, hs _ s4, hs _ s5, (F.er s1.1.2.1 (by omega)).trans f1, R'.cf F s2.1.2.1 s3.1.2.1 (by omega) (by omega) (ne (by omega) _), f2, T.cf F s1.1.2.1 s4.1.2.1 s5.1.2.1 (fun tg _ _ => by omega) (ne (by omega) _) (ne (by omega) _) fun i' a r' w' k hi ha q NN => ?_⟩
    obtain ⟨q1, q2, q3, q4⟩ := id q
    obtain ⟨e0, NN⟩ := NN
    have kw' : jK h w' = 21 := by obtain ⟨_, _, _, _, _, _, _, _, l0, f0, R0, _⟩ := NN; exact R0.2.2.1
    exact ⟨⟨q1, hs _ q2, hs _ q3, hs _ q4⟩, q2.1.2.1, q3.1.2.1, q4.1.2.1, fun tg _ _ => by omega, by omega, by omega, ne (by omega) _⟩
  · obtain ⟨⟨q, q1, q2, q3, q4, q5⟩, q6⟩ := Mq
    refine ⟨⟨q, q1, q2, q3, q4, fun c t hc ht => ?_⟩, q6⟩
    have K := C c hc
    have hne' := hne c hc
    have e1 : cad (wR h 1000 ta i v) x c = cad h x c := F.er (by omega) (by omega)
    have e2 : jR (wR h 1000 ta i v) 3 (cad h x c) 0 = jR h 3 (cad h x c) 0 := F.er K.1.1.2.1 (by omega)
    have e3 : tba (wR h 1000 ta i v) x c t = tba h x c t := by
      unfold tba
      rw [e1, e2]
      exact F.er K.2.1.1.2.1 (fun q => hne' q.2)
    rw [e3]
    exact q5 c t hc ht
end JCo
