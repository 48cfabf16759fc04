/-! the class: stored -/
section JSu
variable {h h' g : jj_H} {x m n t : Nat} {s : St} {P : Pl} {Q : Value → jj_H → Prop} {S : NK → Prop} {D : Int32 → Prop}
theorem x_treeW2 (B : RcB h x m s n P) (hm : s.made ≤ 60) (ht : t < 3) (H : ∀ h', RcB h' x m s n P → xF h h' x m → jI h' 354 (wb x t) 0 = 0 → (∃ T, cF T h h' ∧ (∀ tg a, Sc h x m a → ¬ T tg a) ∧ (∀ tg a, T tg a → a < x ∨ (x < a ∧ a < x + 19) ∨ x + 42 < a) ∧ ∀ u, u < 3 → u ≠ t → ¬ T 354 (wb x u)) → Q (.ref (wb x t)) h') : jj_C mX9_treeOf 1616 14544 [.ref x, .int (-1), .int (nI t)] h Q := by
  refine jV_C (by decide +kernel) fun V => ?_
  have M := B.2.1
  have W := B.2.2.1.1 t ht
  have wt : jR h 1000 (x + 1) t = wb x t := (M.2.2 t ht).1
  refine EX9_treeOf _ _ _ fun d => ⟨cM_k M, EX9_tableOf _ _ _ fun d2 => x_isTable (fun t' ht' => ?_) (fun ht' => by rw [lim_nI (by decide) ht] at ht'; cases ht')⟩
  refine ⟨fun _ => ⟨fun c => absurd rfl c, fun _ => ?_⟩, fun c => absurd c (by decide)⟩
  simp (disch := omega) only [(cM_k M), (cM_r450_0 M), (cM_k1 M), (cM_n1 M), (cM_r451_0 M), (cM_k17 M), (cM_n17 M), (cM_r400_17 M), (cM_k18 M), (cM_n18 M), (cM_r452_0 M), (cM_k19 M), (cM_n19 M), (cM_r200_19 M), (cM_k20 M), (cM_n20 M), (cM_r453_0 M), (cM_k21 M), (cM_n21 M), (cM_r456_0 M), (cM_k22 M), (cM_n22 M), (cM_r458_0 M), (cM_k23 M), (cM_n23 M), (cM_r50_23 M), (cM_k24 M), (cM_n24 M), (cM_r51_23 M), (cM_k25 M), (cM_n25 M), (cM_r459_0 M), (cM_k26 M), (cM_n26 M), (cM_r102_26 M), (cM_k27 M), (cM_n27 M), (cM_r103_26 M), (cM_k28 M), (cM_n28 M), (cM_r104_26 M), (cM_k29 M), (cM_n29 M), (cM_r105_26 M), (cM_k30 M), (cM_n30 M), (cM_r300_30 M), (cM_k31 M), (cM_n31 M), (cM_r106_26 M), (cM_k32 M), (cM_n32 M), (cM_r107_26 M), (cM_k33 M), (cM_n33 M), (cM_r108_26 M), (cM_k34 M), (cM_n34 M), (cM_r460_0 M), (cM_k41 M), (cM_n41 M), (cM_r250_41 M), (cM_k42 M), (cM_n42 M), q_clamp, q_in, nI_leI, nI_ltI, nI_eq, ql_0, qL_0, qt_0, qT_0, qe_0, qc_0, qi_0, ql_1, qL_1, qt_1, qT_1, qe_1, qc_1, qi_1, ql_2, qL_2, qt_2, qT_2, qe_2, qc_2, qi_2, ql_3, qL_3, qt_3, qT_3, qe_3, qc_3, qi_3, ql_4, qL_4, qt_4, qT_4, qe_4, qc_4, qi_4, ql_6, qL_6, qt_6, qT_6, qe_6, qc_6, qi_6, ql_8, qL_8, qt_8, qT_8, qe_8, qc_8, qi_8, ql_10, qL_10, qt_10, qT_10, qe_10, qc_10, qi_10, ql_24, qL_24, qt_24, qT_24, qe_24, qc_24, qi_24, ql_60, qL_60, qt_60, qT_60, qe_60, qc_60, qi_60, ql_100, qL_100, qt_100, qT_100, qe_100, qc_100, qi_100, ql_200, qL_200, qt_200, qT_200, qe_200, qc_200, qi_200, ql_400, qL_400, qt_400, qT_400, qe_400, qc_400, qi_400, ql_600, qL_600, qt_600, qT_600, qe_600, qc_600, qi_600, ql_900, qL_900, qt_900, qT_900, qe_900, qc_900, qi_900, ql_1200, qL_1200, qt_1200, qT_1200, qe_1200, qc_1200, qi_1200, ql_65536, qL_65536, qt_65536, qT_65536, qe_65536, qc_65536, qi_65536, wt, true_and, and_true, eq_self, forall_eq, forall_eq_apply_imp_iff]
  show ((wb x t) = 0 → _) ∧ _
  refine ⟨fun c => by unfold wb at c; omega, fun _ => ⟨W.1.1, fun c => H h B xF.rf c ⟨fun _ _ => False, cF.rf, fun _ _ _ q => q, fun _ _ q => absurd q id, fun _ _ _ q => q⟩, fun c => ?_⟩⟩
  refine ⟨by omega, by omega, ?_⟩
  refine c_build W.1 W.2.1 W.2.2.1 (cM_k17 M) (cM_r400_17 M) (cM_k18 M) (cM_n18 M) (by unfold wb; omega) (by unfold wb; omega) fun h2 B2 A2 T2 R2 i2 F2 => ?_
  obtain ⟨g1, g2, g3, g4, g5, g6, g7⟩ := B.built hm V ht rfl B2 A2 T2 R2 F2
  refine H h2 g1 g3 i2 ⟨_, g4, g5, g7, fun u hu hne q => ?_⟩
  rcases q with ⟨i, hi, e⟩ | q | q
  · have := W.2.2.2.2 i hi
    unfold wb at *
    omega
  · unfold wb at *; omega
  · unfold wb at *; omega
theorem MT.add {tg : Nat} {v : Int32} {k : NK} (M : MT tg v D h P S) (Po : PO h x m P) (hno : ∀ b, (b, k) ∉ P (bk k)) : MT tg v D h P (fun y => y = k ∨ S y) := by
  intro β hβ p hp
  have := M β hβ p hp
  refine ⟨this.1, fun z => this.2.mp (z.resolve_left fun e => hno p.1 ?_), fun z => Or.inr (this.2.mpr z)⟩
  rw [← e, (Po β hβ).2.2 p hp]
  exact hp
theorem nks_mem {l : List Row} {k : NK} : (∃ nd ∈ flat (tree l), nk l nd = k) ↔ k ∈ nks l := by
  unfold nks
  rw [List.mem_map]
theorem c_before {a r w e : Nat} {k : NK} (M : cM h x) (W : Wk h x (s.T 60)) (ht : t ≤ 3) (tr : ∀ u, u < t → jI h 354 (wb x u) 0 = 0) (N : ndO h a r w k e) (H1 : (∃ u, u < t ∧ k ∈ nks (s.T 60 u)) → Q (.int 1) h) (H0 : (¬ ∃ u, u < t ∧ k ∈ nks (s.T 60 u)) → Q (.int 0) h) : jj_C mX9_isInWorkBefore 0 0 [.ref x, .int (nI t), .ref a] h Q := by
  refine EX9_isInWorkBefore _ _ _ fun d => ?_
  have loop : ∀ q u, u + q = t → (∀ u', u' < u → k ∉ nks (s.T 60 u')) → jj_WP d mX9_isInWorkBefore 0 0 2 [(0, .ref x), (1, .int (nI t)), (2, .ref a), (3, .int (nI u))] [] h Q := by
    intro q
    induction q with
    | zero =>
      intro u hu no
      refine VX9_isInWorkBefore_2 _ _ _ _ ?_
      rw [nI_leI (by omega) (by omega)]
      refine ⟨fun _ => H0 ?_, fun c => by omega⟩
      rintro ⟨u', h1, h2⟩
      exact no u' (by omega) h2
    | succ q ih =>
      intro u hu no
      have hu3 : u < 3 := by omega
      have T := (W.1 u hu3).2.2.2.1 (tr u (by omega))
      have wt : jR h 1000 (x + 1) u = wb x u := (M.2.2 u hu3).1
      refine VX9_isInWorkBefore_2 _ _ _ _ ?_
      rw [nI_leI (by omega) (by omega), cM_r450_0 M, cM_n1 M, q_clamp (by omega), wt, qa_1]
      refine ⟨fun c => by omega, fun _ => ⟨cM_k M, cM_k1 M, vp_in_nI hu3 (by decide), T.1, c_hasSame T (fun lv ns hlv nd' hnd' => ((tree_at _ hlv).1 nd' hnd').1) N (fun hy => ?_) (fun hy => ?_)⟩⟩
      · exact ⟨fun c => absurd c (by decide), fun _ => H1 ⟨u, by omega, nks_mem.mp hy⟩⟩
      · refine ⟨fun _ => ih (u + 1) (by omega) fun u' hu' => ?_, fun c => absurd rfl c⟩
        by_cases e : u' = u
        · rw [e]; exact fun z => hy (nks_mem.mpr z)
        · exact no u' (by omega)
  exact loop t 0 (Nat.zero_add _) (fun u' hu' => by omega)
theorem c_cw {q : Nat} (B : RcB h x m s n P) (G : RcG h x s) (hm : s.made ≤ 60) (hq : jI h 201 (x + 19) 0 = nI q) (Mt : MT 157 (nI q) (dQ q) h P S) (ht : t < 3) (hs : Srt (s.T 60 t)) (tr : ∀ u, u < t → jI h 354 (wb x u) 0 = 0) (nw : ∀ k, (∀ b, (b, k) ∉ P (bk k)) → (S k ↔ ∃ u, u < t ∧ k ∈ nks (s.T 60 u))) (H : ∀ h', RcB h' x m s n P → RcG h' x s → xF h h' x m → jI h' 201 (x + 19) 0 = nI q → MT 157 (nI q) (dQ q) h' P (fun y => y ∈ nks (s.T 60 t) ∨ S y) → (∀ u, u < t + 1 → jI h' 354 (wb x u) 0 = 0) → Q (.int (nI (dct S (nks (s.T 60 t))))) h') : jj_C mX9_countUnseenOfWork 1616 14544 [.ref x, .int (nI t)] h Q := by
  refine EX9_countUnseenOfWork _ _ fun d => ⟨cM_k B.2.1, Nat.le_refl _, Nat.le_refl _, x_treeW2 B hm ht fun h1 B1 X1 st1 FT => ?_⟩
  obtain ⟨T1, F1, f1, f2, f3⟩ := FT
  have zz := B.1.2.1
  have G1 : RcG h1 x s := G.cf F1 zz (fun tg a c => by have := f2 _ _ c; omega)
  have q1 : jI h1 201 (x + 19) 0 = nI q := (F1.ei (by omega) (fun c => by have := f2 _ _ c; omega)).trans hq
  have M1 : MT 157 (nI q) (dQ q) h1 P S := Mt.cf B.2.2.2.1 F1 f1
  have tr1 : ∀ u, u < t + 1 → jI h1 354 (wb x u) 0 = 0 := fun u hu => by
    by_cases e : u = t
    · rw [e]; exact st1
    · exact (F1.ei (by unfold wb; omega) (f3 u (by omega) e)).trans (tr u (by omega))
  have ll : (s.T 60 t).length ≤ 200 := (B.2.2.1.1 t ht).2.2.1.2.2.2.2.2.2.1
  have htl := (tree_len _ ll).1
  generalize hl : s.T 60 t = l at *
  simp only [jj_vr]
  have loop : ∀ qq i cnt (g : jj_H) (S1 : NK → Prop) bc bs, i + qq = (flat (tree l)).length → RcB g x m s n P → RcG g x s → xF h g x m → jI g 201 (x + 19) 0 = nI q → MT 157 (nI q) (dQ q) g P S1 → (∀ u, u < t + 1 → jI g 354 (wb x u) 0 = 0) → (∀ k, (∀ b, (b, k) ∉ P (bk k)) → (S1 k ↔ ((∃ u, u < t ∧ k ∈ nks (s.T 60 u)) ∨ k ∈ (nks l).take i))) → (∀ h', RcB h' x m s n P → RcG h' x s → xF h h' x m → jI h' 201 (x + 19) 0 = nI q → MT 157 (nI q) (dQ q) h' P (fun y => y ∈ (nks l).drop i ∨ S1 y) → (∀ u, u < t + 1 → jI h' 354 (wb x u) 0 = 0) → Q (.int (nI (cnt + dct S1 ((nks l).drop i)))) h') → jj_WP d mX9_countUnseenOfWork bc bs 12 [(0, .ref x), (1, .int (nI t)), (2, .ref (wb x t)), (3, .int (nI cnt)), (4, .int (nI i))] [] g Q := by
    intro qq
    induction qq with
    | zero =>
      intro i cnt g S1 bc bs hi Bg Gg Xg qg Mg tg ng HH
      have T := (Bg.2.2.1.1 t ht).2.2.2.1 (tg t (by omega))
      rw [hl] at T
      refine VX9_countUnseenOfWork_12 _ _ _ _ _ ⟨fun c => by unfold wb at c; omega, fun _ => ⟨T.1, c_nodesInAll T ?_⟩⟩
      simp only [jj_vi]
      rw [nI_leI (by omega) (by omega)]
      refine ⟨fun _ => ?_, fun c => by omega⟩
      have := HH g Bg Gg Xg qg
      rw [nks_end (by omega)] at this
      exact this (Mg.set fun y => ⟨Or.inr, fun z => z.resolve_left (fun c => by cases c)⟩) tg
    | succ qq ih =>
      intro i cnt g S1 bc bs hi Bg Gg Xg qg Mg tg ng HH
      have T := (Bg.2.2.1.1 t ht).2.2.2.1 (tg t (by omega))
      rw [hl] at T
      obtain ⟨nd, hnd⟩ : ∃ nd, (flat (tree l))[i]? = some nd := ⟨_, List.getElem?_eq_getElem (by omega)⟩
      obtain ⟨r0, w0, s0, N⟩ := T.2.2.2.2.2.2.2.2.2.2.2 i nd hnd
      have hn1 := T.2.2.2.2.2.2.2.1
      have hn2 := T.2.2.2.2.2.2.2.2.1
      have edr := nks_drop hnd
      rw [edr] at HH
      have etk : (nks l).take (i + 1) = (nks l).take i ++ [nk l nd] := by
        have e2 : (nks l)[i]? = some (nk l nd) := by unfold nks; rw [List.getElem?_map, hnd]; rfl
        rw [List.take_add_one, e2]
        rfl
      have ntk : nk l nd ∉ (nks l).take i := fun z => by
        obtain ⟨j, hj⟩ := List.getElem?_of_mem z
        have hji : j < i := by
          have := (List.getElem?_eq_some_iff.mp hj).1
          rw [List.length_take] at this
          omega
        rw [List.getElem?_take_of_lt hji] at hj
        unfold nks at hj
        rw [List.getElem?_map] at hj
        cases e : (flat (tree l))[j]? with
        | none => rw [e] at hj; cases hj
        | some nd' =>
          rw [e] at hj
          exact nk_inj hs e hnd (by omega) (Option.some.inj hj)
      have go : ∀ cnt2 (g2 : jj_H), RcB g2 x m s n P → RcG g2 x s → xF h g2 x m → jI g2 201 (x + 19) 0 = nI q → MT 157 (nI q) (dQ q) g2 P (fun y => y = nk l nd ∨ S1 y) → (∀ u, u < t + 1 → jI g2 354 (wb x u) 0 = 0) → cnt2 + dct (fun y => y = nk l nd ∨ S1 y) ((nks l).drop (i + 1)) = cnt + dct S1 (nk l nd :: (nks l).drop (i + 1)) → jj_WP d mX9_countUnseenOfWork bc bs 12 [(0, .ref x), (1, .int (nI t)), (2, .ref (wb x t)), (3, .int (nI cnt2)), (4, .int (nI (i + 1)))] [] g2 Q := by
        intro cnt2 g2 a1 a2 a3 a4 a5 a6 ec
        refine ih (i + 1) cnt2 g2 (fun y => y = nk l nd ∨ S1 y) bc bs (by omega) a1 a2 a3 a4 a5 a6 (fun k hk => ?_) fun h' c1 c2 c3 c4 c5 c6 => ?_
        · rw [etk, List.mem_append, List.mem_singleton, ng k hk]
          constructor
          · rintro (z | z | z)
            · exact Or.inr (Or.inr z)
            · exact Or.inl z
            · exact Or.inr (Or.inl z)
          · rintro (z | z | z)
            · exact Or.inr (Or.inl z)
            · exact Or.inr (Or.inr z)
            · exact Or.inl z
        · have es : ∀ y, (y ∈ (nks l).drop (i + 1) ∨ (y = nk l nd ∨ S1 y)) ↔ (y ∈ nk l nd :: (nks l).drop (i + 1) ∨ S1 y) := fun y => ⟨fun z => z.elim (fun z => Or.inl (List.mem_cons_of_mem _ z)) (fun z => z.elim (fun z => Or.inl (by rw [z]; exact List.mem_cons_self)) Or.inr), fun z => z.elim (fun z => (List.mem_cons.mp z).elim (fun z => Or.inr (Or.inl z)) Or.inl) (fun z => Or.inr (Or.inr z))⟩
          have := HH h' c1 c2 c3 c4 (c5.set es) c6
          rw [ec]
          exact this
      have yes : S1 (nk l nd) → cnt + dct (fun y => y = nk l nd ∨ S1 y) ((nks l).drop (i + 1)) = cnt + dct S1 (nk l nd :: (nks l).drop (i + 1)) := fun hS => by
        rw [dct_in hS]
        congr 2
        exact set_ext fun y => ⟨fun z => z.elim (fun z => by rw [z]; exact hS) id, Or.inr⟩
      have no : ¬ S1 (nk l nd) → cnt + 1 + dct (fun y => y = nk l nd ∨ S1 y) ((nks l).drop (i + 1)) = cnt + dct S1 (nk l nd :: (nks l).drop (i + 1)) := fun hS => by
        rw [dct_new hS]
        omega
      have Mc := Bg.2.1
      refine jV_WP fun Vg => VX9_countUnseenOfWork_12 _ _ _ _ _ ⟨fun c => by unfold wb at c; omega, fun _ => ⟨T.1, c_nodesInAll T ?_⟩⟩
      simp only [jj_vi]
      rw [nI_leI (by omega) (by omega)]
      refine ⟨fun c => by omega, fun _ => ⟨cM_k Mc, T.1, by rw [T.2.1]; exact T.2.2.2.1, ?_⟩⟩
      rw [T.2.1, cM_r452_0 Mc, q_clamp (by omega), qa_1, qa_1]
      refine ⟨vp_in_nI (by omega) (by omega), cM_k19 Mc, c_pfind Mc Bg.2.2.2.1 N (fun b hb => ?_) (fun hno => ?_)⟩
      · have sb := (Bg.2.2.2.1.kn hb).1
        refine ⟨fun c => absurd c sb.nz, fun _ => ⟨cM_k Mc, ?_⟩⟩
        rw [cM_r452_0 Mc]
        obtain ⟨b1, b2, b3, b4⟩ := Bg.w (tg := 157) (v := nI q) Vg sb ⟨Or.inl rfl, qg.symm⟩
        have M2 := Mg.mark Bg.2.2.2.1 (⟨q, Nat.le_refl _, rfl⟩ : dQ q (nI q)) hb
        have q2 : jI (wI g 157 b 0 (nI q)) 201 (x + 19) 0 = nI q := by rw [jI_wI, if_neg (by omega)]; exact qg
        have t2 : ∀ u, u < t + 1 → jI (wI g 157 b 0 (nI q)) 354 (wb x u) 0 = 0 := fun u hu => by rw [jI_wI, if_neg (by omega)]; exact tg u hu
        exact ⟨cM_k19 Mc, c_see Bg qg Mg hb (fun hS => ⟨fun _ => go cnt _ b1 (b3 Gg) (Xg.trans b2) q2 M2 t2 (yes hS), fun c => absurd rfl c⟩) (fun hS => ⟨fun c => absurd c (by decide), fun _ => go (cnt + 1) _ b1 (b3 Gg) (Xg.trans b2) q2 M2 t2 (no hS)⟩)⟩
      · refine ⟨fun _ => ⟨T.1, by rw [T.2.1]; exact T.2.2.2.1, ?_⟩, fun c => absurd rfl c⟩
        rw [T.2.1]
        refine ⟨vp_in_nI (by omega) (by omega), cM_k Mc, c_before (s := s) Mc Bg.2.2.1 (by omega) (fun u hu => tg u (by omega)) N (fun hy => ?_) (fun hy => ?_)⟩
        · have hS : S1 (nk l nd) := (ng _ hno).mpr (Or.inl hy)
          exact ⟨fun _ => go cnt g Bg Gg Xg qg (Mg.add Bg.2.2.2.1 hno) tg (yes hS), fun c => absurd c (by decide)⟩
        · have hS : ¬ S1 (nk l nd) := fun z => ((ng _ hno).mp z).elim hy ntk
          exact ⟨fun c => absurd rfl c, fun _ => go (cnt + 1) g Bg Gg Xg qg (Mg.add Bg.2.2.2.1 hno) tg (no hS)⟩
  refine loop _ 0 0 h1 S _ _ (Nat.zero_add _) B1 G1 X1 q1 M1 tr1 (fun k hk => ?_) fun h' c1 c2 c3 c4 c5 c6 => ?_
  · rw [nw k hk]
    exact ⟨Or.inl, fun z => z.resolve_right (fun c => by cases c)⟩
  · rw [List.drop_zero] at c5 ⊢
    rw [Nat.zero_add]
    exact H h' c1 c2 c3 c4 c5 c6
theorem x_stored (R : Rc h x m s n) (hw : s.wf) (hn : n + 1 < 1000) (H : ∀ h', Rc h' x m s (n + 1) → xF h h' x m → Q (.int (a_stored s)) h') : jj_C mX9_stored 4848 43632 [.ref x] h Q := by
  refine jV_C (by decide +kernel) fun V => ?_
  have hm := hw.1.2
  obtain ⟨⟨P, B⟩, G⟩ := R
  have M := B.2.1
  obtain ⟨q, q1, q2, B1, X1, G1, M1, tm1⟩ := B.begin V hn
  refine EX9_stored _ fun d => ⟨cM_k M, by rw [cM_r452_0 M]; exact cM_k19 M, ?_⟩
  rw [cM_r452_0 M]
  refine EX4_beginCount _ fun d2 => ⟨cM_k19 M, ?_⟩
  rw [q2, qa_1]
  rintro _ rfl
  generalize hh1 : wI h 201 (x + 19) 0 (nI (q + 1)) = h1 at *
  have qh1 : jI h1 201 (x + 19) 0 = nI (q + 1) := by rw [← hh1, jI_wI, if_pos ⟨rfl, rfl, rfl⟩]
  have G1' := G1 G
  -- the work
  have work : ∀ qq t cnt (g : jj_H) (S1 : NK → Prop) bc bs, t + qq = 3 → 1616 * qq ≤ bc → 14544 * qq ≤ bs → RcB g x m s (n + 1) P → RcG g x s → xF h g x m → jI g 201 (x + 19) 0 = nI (q + 1) → MT 157 (nI (q + 1)) (dQ (q + 1)) g P S1 → cnO S1 cnt → (∀ u, u < t → jI g 354 (wb x u) 0 = 0) → (∀ k, (∀ b, (b, k) ∉ P (bk k)) → (S1 k ↔ ∃ u, u < t ∧ k ∈ nks (s.T 60 u))) → (∀ k, S1 k ↔ ((∃ c, c < s.made ∧ bt s.here c = true ∧ k ∈ nk3 (s.T c)) ∨ ∃ u, u < t ∧ k ∈ nks (s.T 60 u))) → jj_WP d mX9_stored bc bs 69 [(0, .ref x), (1, .int (nI cnt)), (2, .int (nI t))] [] g Q := by
    intro qq
    induction qq with
    | zero =>
      intro t cnt g S1 bc bs ht _ _ Bg Gg Xg qg Mg Og tg ng hS
      refine VX9_stored_69 _ _ _ ?_
      rw [qL_3 (by omega)]
      refine ⟨fun _ => ?_, fun c => by omega⟩
      have e3 : t = 3 := by omega
      subst e3
      have ec : nI cnt = a_stored s := by
        unfold a_stored
        rw [Og.fin fun k => ?_]
        rw [hS, mem_sq]
        constructor
        · rintro (⟨c, h1, h2, h3⟩ | ⟨u, h1, h2⟩)
          · refine ⟨c, Nat.zero_le _, by omega, ?_, h3⟩
            unfold cS
            rw [if_neg (by omega)]
            exact h2
          · refine ⟨60, Nat.zero_le _, by omega, ?_, mem_nk3.mpr ⟨u, h1, h2⟩⟩
            unfold cS
            rw [if_pos rfl]
        · rintro ⟨i, h1, h2, h3, h4⟩
          unfold cS at h3
          by_cases e : i = 60
          · subst e
            exact Or.inr (mem_nk3.mp h4)
          · rw [if_neg e] at h3
            exact Or.inl ⟨i, hw.2.2.1 i (by omega) h3, h3, h4⟩
      rw [ec]
      exact H g ⟨⟨P, Bg⟩, Gg⟩ Xg
    | succ qq ih =>
      intro t cnt g S1 bc bs ht hbc hbs Bg Gg Xg qg Mg Og tg ng hS
      have ht3 : t < 3 := by omega
      refine VX9_stored_69 _ _ _ ?_
      rw [qL_3 (by omega)]
      refine ⟨fun c => by omega, fun _ => ⟨cM_k Bg.2.1, by omega, by omega, c_cw Bg Gg hm qg Mg ht3 (hw.2.1 60 t (Or.inr rfl) ht3).1 tg ng fun g' b1 b2 b3 b4 b5 b6 => ?_⟩⟩
      simp only [jj_vi]
      rw [nI_add, qa_1]
      refine ih (t + 1) _ g' _ _ _ (by omega) (by omega) (by omega) b1 b2 (Xg.trans b3) b4 b5 Og.add b6 (fun k hk => ?_) (fun k => ?_)
      · rw [ng k hk]
        constructor
        · rintro (z | ⟨u, h1, h2⟩)
          · exact ⟨t, by omega, z⟩
          · exact ⟨u, by omega, h2⟩
        · rintro ⟨u, h1, h2⟩
          by_cases e : u = t
          · rw [e] at h2; exact Or.inl h2
          · exact Or.inr ⟨u, by omega, h2⟩
      · rw [hS]
        constructor
        · rintro (z | z | ⟨u, h1, h2⟩)
          · exact Or.inr ⟨t, by omega, z⟩
          · exact Or.inl z
          · exact Or.inr ⟨u, by omega, h2⟩
        · rintro (z | ⟨u, h1, h2⟩)
          · exact Or.inr (Or.inl z)
          · by_cases e : u = t
            · rw [e] at h2; exact Or.inl h2
            · exact Or.inr (Or.inr ⟨u, by omega, h2⟩)
  -- a commit's three tables
  have inner : ∀ qq t (c cnt : Nat) (g : jj_H) (S1 : NK → Prop), c < s.made → t + qq = 3 → RcB g x m s (n + 1) P → RcG g x s → xF h g x m → jI g 201 (x + 19) 0 = nI (q + 1) → MT 157 (nI (q + 1)) (dQ (q + 1)) g P S1 → TM (q + 1) g x s S1 → cnO S1 cnt → (∀ g' cnt' S', RcB g' x m s (n + 1) P → RcG g' x s → xF h g' x m → jI g' 201 (x + 19) 0 = nI (q + 1) → MT 157 (nI (q + 1)) (dQ (q + 1)) g' P S' → TM (q + 1) g' x s S' → cnO S' cnt' → (∀ k, S' k ↔ (S1 k ∨ ∃ u, t ≤ u ∧ u < 3 ∧ k ∈ nks (s.T c u))) → jj_WP d mX9_stored 4848 43632 11 [(0, .ref x), (1, .int (nI cnt')), (2, .int (nI (c + 1)))] [] g' Q) → jj_WP d mX9_stored 4848 43632 28 [(0, .ref x), (1, .int (nI cnt)), (2, .int (nI c)), (3, .ref (cad g x c)), (4, .int (nI t))] [] g Q := by
    intro qq
    induction qq with
    | zero =>
      intro t c cnt g S1 hc ht Bg Gg Xg qg Mg tg Og HH
      have K := Bg.2.2.2.2.1 c hc
      refine VX9_stored_28 _ _ _ _ _ ⟨fun z => absurd z K.1.nz, fun _ => ?_⟩
      rw [qL_3 (by omega), qa_1]
      refine ⟨fun _ => HH g cnt S1 Bg Gg Xg qg Mg tg Og fun k => ⟨Or.inl, fun z => z.elim id ?_⟩, fun z => by omega⟩
      rintro ⟨u, h1, h2, _⟩
      omega
    | succ qq ih =>
      intro t c cnt g S1 hc ht Bg Gg Xg qg Mg tg Og HH
      have K := Bg.2.2.2.2.1 c hc
      have ht3 : t < 3 := by omega
      have Mc := Bg.2.1
      refine VX9_stored_28 _ _ _ _ _ ⟨fun z => absurd z K.1.nz, fun _ => ?_⟩
      rw [qL_3 (by omega)]
      refine ⟨fun z => by omega, fun _ => ⟨cM_k Mc, K.2.2.1, K.2.2.2.2.2.2.1, by rw [K.2.2.2.2.2.2.2.1]; exact vp_in_nI ht3 (by decide), ?_⟩⟩
      rw [cM_r452_0 Mc, q_clamp (by omega)]
      refine ⟨cM_k19 Mc, c_count Bg Gg qg Mg tg hc ht3 fun g' b1 b2 b3 b4 b5 b6 b7 => ?_⟩
      simp only [jj_vi]
      rw [nI_add, qa_1, ← (tba_eq (x := x) b4 c 0).2]
      refine ih (t + 1) c _ g' _ hc (by omega) b1 b2 (Xg.trans b3) b5 b6 b7 Og.add fun g2 cnt2 S2 c1 c2 c3 c4 c5 c6 c7 c8 => ?_
      refine HH g2 cnt2 S2 c1 c2 c3 c4 c5 c6 c7 fun k => ?_
      rw [c8]
      constructor
      · rintro ((z | z) | ⟨u, h1, h2, h3⟩)
        · exact Or.inr ⟨t, Nat.le_refl _, ht3, z⟩
        · exact Or.inl z
        · exact Or.inr ⟨u, by omega, h2, h3⟩
      · rintro (z | ⟨u, h1, h2, h3⟩)
        · exact Or.inl (Or.inr z)
        · by_cases e : u = t
          · rw [e] at h3; exact Or.inl (Or.inl h3)
          · exact Or.inr ⟨u, by omega, h2, h3⟩
  have loop : ∀ qq (c cnt : Nat) (g : jj_H) (S1 : NK → Prop), c + qq = s.made → RcB g x m s (n + 1) P → RcG g x s → xF h g x m → jI g 201 (x + 19) 0 = nI (q + 1) → MT 157 (nI (q + 1)) (dQ (q + 1)) g P S1 → TM (q + 1) g x s S1 → cnO S1 cnt → (∀ k, S1 k ↔ ∃ c', c' < c ∧ bt s.here c' = true ∧ k ∈ nk3 (s.T c')) → jj_WP d mX9_stored 4848 43632 11 [(0, .ref x), (1, .int (nI cnt)), (2, .int (nI c))] [] g Q := by
    intro qq
    induction qq with
    | zero =>
      intro c cnt g S1 hc Bg Gg Xg qg Mg tg Og hS
      have i1 : jI g 454 x 0 = nI s.made := Gg.1.1
      refine VX9_stored_11 _ _ _ ⟨cM_k Bg.2.1, ?_⟩
      rw [i1, nI_leI (by omega) (by omega)]
      refine ⟨fun _ => work 3 0 cnt g S1 _ _ (by omega) (by omega) (by omega) Bg Gg Xg qg Mg Og (fun u hu => by omega) (fun k hk => ⟨fun z => ?_, ?_⟩) (fun k => ?_), fun z => by omega⟩
      · obtain ⟨c', h1, h2, h3⟩ := (hS k).mp z
        obtain ⟨t, ht, h4⟩ := mem_nk3.mp h3
        obtain ⟨s1, r, w, na, st, s2, s3, s4, s5, e1, R', e2, T⟩ := (Bg.2.2.2.2.1 c' (by omega)).2.2.2.2.2.2.2.2 t ht
        obtain ⟨nd, h5, h6⟩ := List.mem_map.mp h4
        obtain ⟨i, hi⟩ := List.getElem?_of_mem h5
        obtain ⟨r', w', ⟨p1, _⟩, _⟩ := T.2.2.2.2.2.2.2.2.2.2.2 i nd hi
        rw [h6] at p1
        exact absurd p1 (hk _)
      · rintro ⟨u, h1, _⟩
        omega
      · rw [hS]
        constructor
        · rintro ⟨c', h1, h2, h3⟩
          exact Or.inl ⟨c', by omega, h2, h3⟩
        · rintro (⟨c', h1, h2, h3⟩ | ⟨u, h1, _⟩)
          · exact ⟨c', by omega, h2, h3⟩
          · omega
    | succ qq ih =>
      intro c cnt g S1 hc Bg Gg Xg qg Mg tg Og hS
      have i1 : jI g 454 x 0 = nI s.made := Gg.1.1
      have Rg : Rc g x m s (n + 1) := ⟨⟨P, Bg⟩, Gg⟩
      refine VX9_stored_11 _ _ _ ⟨cM_k Bg.2.1, ?_⟩
      rw [i1, nI_leI (by omega) (by omega)]
      refine ⟨fun z => by omega, fun _ => x_commitAt Rg hw (fun c' hc' => ?_) (fun hc' => ?_)⟩
      · obtain ⟨e1, h1, h2, h3⟩ := cAt_some hw hc'
        have ec : c' = c := by
          have := (nI_eq (by omega) (by omega)).mp e1
          omega
        subst ec
        refine inner 3 0 c' cnt g S1 h1 (by omega) Bg Gg Xg qg Mg tg Og fun g' cnt' S' b1 b2 b3 b4 b5 b6 b7 b8 => ?_
        refine ih (c' + 1) cnt' g' S' (by omega) b1 b2 b3 b4 b5 b6 b7 fun k => ?_
        rw [b8, hS]
        constructor
        · rintro (⟨d', h4, h5, h6⟩ | ⟨u, h4, h5, h6⟩)
          · exact ⟨d', by omega, h5, h6⟩
          · exact ⟨c', by omega, h2, mem_nk3.mpr ⟨u, h5, h6⟩⟩
        · rintro ⟨d', h4, h5, h6⟩
          by_cases e : d' = c'
          · subst e
            obtain ⟨u, h7, h8⟩ := mem_nk3.mp h6
            exact Or.inr ⟨u, Nat.zero_le _, h7, h8⟩
          · exact Or.inl ⟨d', by omega, h5, h6⟩
      · have hb : bt s.here c = false := by
          cases w : bt s.here c with
          | false => rfl
          | true =>
            unfold cAt at hc'
            rw [lim_nI (by decide) (by omega)] at hc'
            simp only at hc'
            rw [if_pos w] at hc'
            cases hc'
        refine VX9_stored_28 _ _ _ _ _ ⟨fun _ => ?_, fun z => absurd rfl z⟩
        rw [qa_1]
        refine ih (c + 1) cnt g S1 (by omega) Bg Gg Xg qg Mg tg Og fun k => ?_
        rw [hS]
        constructor
        · rintro ⟨d', h4, h5, h6⟩
          exact ⟨d', by omega, h5, h6⟩
        · rintro ⟨d', h4, h5, h6⟩
          by_cases e : d' = c
          · subst e; rw [hb] at h5; cases h5
          · exact ⟨d', by omega, h5, h6⟩
  refine loop s.made 0 0 h1 (fun _ => False) (by omega) B1 G1' X1 qh1 M1 tm1 ⟨[], rfl, fun y => ⟨fun z => absurd z id, fun z => by cases z⟩⟩ fun k => ⟨fun z => absurd z id, ?_⟩
  rintro ⟨c', h1, _⟩
  omega
end JSu
