/-! the class: the work's rows -/
theorem sq_congr {c : Nat → Bool} {f f' : Nat → List NK} : ∀ {k s : Nat}, (∀ i, s ≤ i → i < s + k → c i = true → f i = f' i) → sq c f k s = sq c f' k s := by
  intro k
  induction k with
  | zero => intro s _; rfl
  | succ k ih =>
    intro s h
    rw [sq, sq, ih fun i h1 h2 h3 => h i (by omega) (by omega) h3]
    by_cases hc : c s = true
    · rw [if_pos hc, if_pos hc, h s (Nat.le_refl _) (by omega) hc]
    · rw [if_neg hc, if_neg hc]
theorem D_ext {s s' : St} {y : Int64} (h : ∀ p, p < 60 → bt y p = true → s.T p = s'.T p) : s.D y = s'.D y := by
  unfold St.D
  rw [sq_congr (f' := fun p => nk3 (s'.T p))]
  intro i _ h2 h3
  unfold cS at h3
  by_cases e : i = 60
  · rw [if_pos e] at h3; cases h3
  · rw [if_neg e] at h3
    rw [h i (by omega) h3]
section JX1
variable {h h' h1 : jj_H} {x m n t : Nat} {s : St} {l : List Row} {Q : Value → jj_H → Prop}
theorem RcG.wk3 {ls : Nat → List Row} (G : RcG h x s) : RcG h x (s.wk3 ls) := by
  refine ⟨G.1, G.2.1, G.2.2.1, G.2.2.2.1, ?_, G.2.2.2.2.2⟩
  have : (s.wk3 ls).D s.thr = s.D s.thr := D_ext fun p hp _ => St.wk3_T hp
  show _ = nI ((s.wk3 ls).D s.thr)
  rw [this]
  exact G.2.2.2.2.1
theorem Rc.M (R : Rc h x m s n) : cM h x := by obtain ⟨⟨P, B⟩, _⟩ := R; exact B.2.1
theorem Rc.W (R : Rc h x m s n) (ht : t < 3) : wT h x t (s.T 60 t) := by obtain ⟨⟨P, B⟩, _⟩ := R; exact B.2.2.1.1 t ht
theorem Rc.mg (R : Rc h x m s n) : jI h 100 (x + 26) 0 = (if 0 < s.mg then 1 else 0) := R.2.2.2.1.1
theorem Rc.z (R : Rc h x m s n) : kZ h x m := by obtain ⟨⟨P, B⟩, _⟩ := R; exact B.1
theorem Rc.wt (R : Rc h x m s n) (ht : t < 3) : jR h 1000 (x + 1) t = wb x t := (R.M.2.2 t ht).1
/-- one table of the work was written -/
theorem Rc.row (R : Rc h x m s n) (hm : s.made ≤ 60) (V : jj_V h) (ht : t < 3) (F : wFr (wI h 354 (wb x t) 0 1) h' (wb x t + 1) (wb x t + 2)) (R' : rwO h' (wb x t + 1) (wb x t + 2) l) : Rc h' x m (s.wk t l) n ∧ xF h h' x m := by
  obtain ⟨⟨P, B⟩, G⟩ := R
  obtain ⟨z1, z2, z3, z4⟩ := id B.1
  have hb : wb x t = x + 2 + 5 * t := rfl
  have F2 : cF (fun tg a => (tg = 354 ∧ a = wb x t) ∨ pW (wb x t + 1) (wb x t + 2) tg a) h h' := cF.trans (cF.wI (Or.inl ⟨rfl, rfl⟩)) F.toC (fun tg a _ p => Or.inr p)
  generalize hQ : (fun tg a => (tg = 354 ∧ a = wb x t) ∨ pW (wb x t + 1) (wb x t + 2) tg a) = Q' at F2
  have q1 : ∀ tg a, Q' tg a → (a = wb x t ∧ tg = 354) ∨ (a = wb x t + 1 ∧ tg = 301) ∨ (a = wb x t + 2 ∧ tg = 1000) := fun tg a q => by
    rw [← hQ] at q
    unfold pW at q
    omega
  have st : jI h' 354 (wb x t) 0 = 1 := by
    rw [F.2 _ _ _ (by omega) (by omega), jI_wI, if_pos ⟨rfl, rfl, rfl⟩]
  have r3 : ∀ u, u < 3 → ∀ i, jR h' 1000 (wb x u + 3) i = jR h 1000 (wb x u + 3) i := fun u hu i => F2.er (by unfold wb; omega) fun q => by
    have := q1 _ _ q
    unfold wb at *
    omega
  have W : Wk h' x (fun u => if u = t then l else s.T 60 u) := by
    refine ⟨fun u hu => ?_, fun u u' i i' hu hu' hi hi' => by rw [r3 u hu, r3 u' hu']; exact B.2.2.1.2 u u' i i' hu hu' hi hi'⟩
    by_cases e : u = t
    · subst e
      simp only [if_pos]
      obtain ⟨⟨a1, a2, a3, a4, a5, a6, a7, a8, a9, a10, a11, a12⟩, A, _, _, N⟩ := B.2.2.1.1 u hu
      have ex : ∀ i, i < 202 → jR h 1000 (wb x u + 3) i ≠ 0 → jR h 1000 (wb x u + 3) i ≤ jZ h := fun i hi h0 => (jV_le V (by rw [(A.1 i hi).resolve_left h0]; decide)).2
      have nq : ∀ tg a, 302 ≤ tg → tg ≤ 353 → ¬ Q' tg a := fun tg a _ _ q => by have := q1 _ _ q; omega
      refine ⟨⟨(F2.ek (by omega)).trans a1, (F2.er (by omega) (nq _ _ (by decide) (by decide))).trans a2, (F2.er (by omega) (nq _ _ (by decide) (by decide))).trans a3, (F2.er (by omega) (nq _ _ (by decide) (by decide))).trans a4, (F2.ek (by omega)).trans a5, (F2.er (by omega) fun q => by have := q1 _ _ q; omega).trans a6, (F2.ek (by omega)).trans a7, (F2.en (by omega)).trans a8, (F2.ek (by omega)).trans a9, (F2.en (by omega)).trans a10, (F2.ek (by omega)).trans a11, (F2.en (by omega)).trans a12⟩, ⟨fun i hi => ?_, fun i j hi hj => ?_⟩, R', fun z => by rw [st] at z; exact absurd z (by decide), fun i hi => ?_⟩
      · rw [r3 u hu]
        by_cases h0 : jR h 1000 (wb x u + 3) i = 0
        · exact Or.inl h0
        · right
          rw [F2.ek (ex i hi h0)]
          exact (A.1 i hi).resolve_left h0
      · rw [r3 u hu, r3 u hu]; exact A.2 i j hi hj
      · rw [r3 u hu]; exact N i hi
    · simp only [if_neg e]
      refine (B.2.2.1.1 u hu).cf V F2 z2 hu (fun tg _ _ q => ?_) (fun q => ?_) (fun q => ?_) (fun j _ _ q => ?_) (fun a ha h0 tg _ _ q => ?_)
      · have := q1 _ _ q; unfold wb at *; omega
      · have := q1 _ _ q; unfold wb at *; omega
      · have := q1 _ _ q; unfold wb at *; omega
      · have := q1 _ _ q; unfold wb at *; omega
      · have := q1 _ _ q; omega
  have D : fP x Q' := fun tg a q => by
    have := q1 _ _ q
    by_cases e : tg = 1000
    · right; right; unfold wb at *; omega
    · right; left
      simp only [List.mem_cons, List.not_mem_nil, or_false]
      omega
  have nS : ∀ tg a, x + 17 ≤ a ∨ a ≤ x → ¬ Q' tg a := fun tg a ha q => by have := q1 _ _ q; unfold wb at *; omega
  have g := RcB.gen hm B F2 D (fun tg a s => nS tg a (by have := s.1.1; omega)) (nS _ _ (by omega)) (nS _ _ (by omega)) (nS _ _ (by omega)) W (fun a w => Or.inl (Wn.eq r3 a w))
  rw [← St.wk_wk3] at g
  refine ⟨⟨⟨P, g.1⟩, ?_⟩, fun hh => mF.of F2 z3 fun tg a h1 h2 => nS tg a (by omega)⟩
  rw [St.wk_wk3]
  exact (G.cf F2 z2 fun tg a q => by have := q1 _ _ q; unfold wb at *; omega).wk3
theorem x_isTable {y : Int32} (H1 : ∀ t, lim 3 y = some t → Q (.int 1) h) (H0 : lim 3 y = none → Q (.int 0) h) : jj_C mX9_isTable 0 0 [.int y] h Q :=
  EX9_isTable _ fun d => ⟨fun c => H0 (lim_no1 c), fun c => ⟨fun c2 => H0 (lim_no2 c2), fun c2 => (lim_of (by decide) c c2).elim H1⟩⟩
theorem x_isBranch {y : Int32} (H1 : ∀ t, lim 6 y = some t → Q (.int 1) h) (H0 : lim 6 y = none → Q (.int 0) h) : jj_C mX9_isBranch 0 0 [.int y] h Q :=
  EX9_isBranch _ fun d => ⟨fun c => H0 (lim_no1 c), fun c => ⟨fun c2 => H0 (lim_no2 c2), fun c2 => (lim_of (by decide) c c2).elim H1⟩⟩
theorem x_put {y k c0 c1 c2 : Int32} (R : Rc h x m s n) (hw : s.wf) (H : ∀ h', Rc h' x m (a_put s y k c0 c1 c2).2 n → xF h h' x m → Q (.int (a_put s y k c0 c1 c2).1) h') : jj_C mX9_put 0 0 [.ref x, .int y, .int k, .int c0, .int c1, .int c2] h Q := by
  refine jV_C (by decide +kernel) fun V => ?_
  refine EX9_put _ _ _ _ _ _ fun d => x_isTable (fun t ht => ?_) (fun ht => ?_)
  · obtain ⟨e, ht3⟩ := lim_some (by decide) ht
    have M := R.M
    have W := R.W ht3
    have wt := R.wt ht3
    have hmg := R.mg
    have k1 := W.1.1
    have r1 := W.1.2.1
    have k2 := W.1.2.2.2.2.1
    have hs := hw.2.1 60 t (Or.inr rfl) ht3
    refine ⟨fun _ => ?_, fun c => absurd c (by decide)⟩
    rw [e]
    simp (disch := omega) only [(cM_k M), (cM_r450_0 M), (cM_k1 M), (cM_n1 M), (cM_r451_0 M), (cM_k17 M), (cM_n17 M), (cM_r400_17 M), (cM_k18 M), (cM_n18 M), (cM_r452_0 M), (cM_k19 M), (cM_n19 M), (cM_r200_19 M), (cM_k20 M), (cM_n20 M), (cM_r453_0 M), (cM_k21 M), (cM_n21 M), (cM_r456_0 M), (cM_k22 M), (cM_n22 M), (cM_r458_0 M), (cM_k23 M), (cM_n23 M), (cM_r50_23 M), (cM_k24 M), (cM_n24 M), (cM_r51_23 M), (cM_k25 M), (cM_n25 M), (cM_r459_0 M), (cM_k26 M), (cM_n26 M), (cM_r102_26 M), (cM_k27 M), (cM_n27 M), (cM_r103_26 M), (cM_k28 M), (cM_n28 M), (cM_r104_26 M), (cM_k29 M), (cM_n29 M), (cM_r105_26 M), (cM_k30 M), (cM_n30 M), (cM_r300_30 M), (cM_k31 M), (cM_n31 M), (cM_r106_26 M), (cM_k32 M), (cM_n32 M), (cM_r107_26 M), (cM_k33 M), (cM_n33 M), (cM_r108_26 M), (cM_k34 M), (cM_n34 M), (cM_r460_0 M), (cM_k41 M), (cM_n41 M), (cM_r250_41 M), (cM_k42 M), (cM_n42 M), q_clamp, q_in, nI_leI, nI_ltI, nI_eq, ql_0, qL_0, qt_0, qT_0, qe_0, qc_0, qi_0, ql_1, qL_1, qt_1, qT_1, qe_1, qc_1, qi_1, ql_2, qL_2, qt_2, qT_2, qe_2, qc_2, qi_2, ql_3, qL_3, qt_3, qT_3, qe_3, qc_3, qi_3, ql_4, qL_4, qt_4, qT_4, qe_4, qc_4, qi_4, ql_6, qL_6, qt_6, qT_6, qe_6, qc_6, qi_6, ql_8, qL_8, qt_8, qT_8, qe_8, qc_8, qi_8, ql_10, qL_10, qt_10, qT_10, qe_10, qc_10, qi_10, ql_24, qL_24, qt_24, qT_24, qe_24, qc_24, qi_24, ql_60, qL_60, qt_60, qT_60, qe_60, qc_60, qi_60, ql_100, qL_100, qt_100, qT_100, qe_100, qc_100, qi_100, ql_200, qL_200, qt_200, qT_200, qe_200, qc_200, qi_200, ql_400, qL_400, qt_400, qT_400, qe_400, qc_400, qi_400, ql_600, qL_600, qt_600, qT_600, qe_600, qc_600, qi_600, ql_900, qL_900, qt_900, qT_900, qe_900, qc_900, qi_900, ql_1200, qL_1200, qt_1200, qT_1200, qe_1200, qc_1200, qi_1200, ql_65536, qL_65536, qt_65536, qT_65536, qe_65536, qc_65536, qi_65536, hmg, wt, k1, r1, k2, jR_wI, true_and, and_true, eq_self, forall_eq, forall_eq_apply_imp_iff]
    refine ⟨fun c => ?_, fun c => ?_⟩
    · have hg : ¬ 0 < s.mg := fun z => by rw [if_pos z] at c; exact absurd c (by decide)
      have R1 : rwO (wI h 354 (wb x t) 0 1) (wb x t + 1) (wb x t + 2) (s.T 60 t) := W.2.2.1.cf (P := fun tg a => tg = 354 ∧ a = wb x t) (cF.wI ⟨rfl, rfl⟩) (by have := R.z; unfold kZ wb at *; omega) (by have := R.z; unfold kZ wb at *; omega) (by omega) (by omega) (by omega)
      refine c_setRow W.1.2.2.2.2.2.2.2.1 R1 hs.1 (fun h2 hroom R2 F2 => ?_) (fun hfull => ?_)
      · have := R.row hw.1.2 V ht3 F2 R2
        have e2 : a_put s y k c0 c1 c2 = (if (lk (s.T 60 t) k).isSome then 0 else 1, s.wk t (insT (s.T 60 t) (k, c0, c1, c2))) := by simp only [a_put, ht, if_neg hg, if_neg hroom]
        have HH := H h2 (by rw [e2]; exact this.1) this.2
        rw [e2] at HH
        exact HH
      · have := R.row hw.1.2 V ht3 wFr.rf R1
        have e2 : a_put s y k c0 c1 c2 = (-2, s) := by simp only [a_put, ht, if_neg hg, if_pos hfull]
        have e3 : s.wk t (s.T 60 t) = s := by
          rw [St.wk_wk3]
          have : (fun u => if u = t then s.T 60 t else s.T 60 u) = s.T 60 := by
            funext u
            by_cases e : u = t
            · rw [if_pos e, e]
            · rw [if_neg e]
          rw [this, St.wk3_self]
        rw [e3] at this
        have HH := H _ (by rw [e2]; exact this.1) this.2
        rw [e2] at HH
        exact HH
    · have hg : 0 < s.mg := by
        rcases Nat.eq_zero_or_pos s.mg with z | z
        · rw [z, if_neg (by decide)] at c; exact absurd rfl c
        · exact z
      have e2 : a_put s y k c0 c1 c2 = (-3, s) := by simp only [a_put, ht, if_pos hg]
      have HH := H h (by rw [e2]; exact R) xF.rf
      rw [e2] at HH
      exact HH
  · refine ⟨fun c => absurd rfl c, fun _ => ?_⟩
    have e2 : a_put s y k c0 c1 c2 = (-5, s) := by simp only [a_put, ht]
    have HH := H h (by rw [e2]; exact R) xF.rf
    rw [e2] at HH
    exact HH
end JX1
