/-! the class: calls on the work -/
theorem mg_0 {n : Nat} (c : (if 0 < n then (1 : Int32) else 0) = 0) : ¬ 0 < n := fun z => by rw [if_pos z] at c; exact absurd c (by decide)
theorem mg_1 {n : Nat} (c : ¬ (if 0 < n then (1 : Int32) else 0) = 0) : 0 < n := by
  rcases Nat.eq_zero_or_pos n with z | z
  · rw [z, if_neg (by decide)] at c; exact absurd rfl c
  · exact z
theorem St.wk_self (s : St) (t : Nat) : s.wk t (s.T 60 t) = s := by
  rw [St.wk_wk3]
  have : (fun u => if u = t then s.T 60 t else s.T 60 u) = s.T 60 := by
    funext u
    by_cases e : u = t
    · rw [if_pos e, e]
    · rw [if_neg e]
  rw [this, St.wk3_self]
section JX2
variable {h h' h1 : jj_H} {x m n t : Nat} {s : St} {l : List Row} {Q : Value → jj_H → Prop}
theorem Rc.row1 (R : Rc h x m s n) (ht : t < 3) : rwO (wI h 354 (wb x t) 0 1) (wb x t + 1) (wb x t + 2) (s.T 60 t) :=
  (R.W ht).2.2.1.cf (P := fun tg a => tg = 354 ∧ a = wb x t) (cF.wI ⟨rfl, rfl⟩) (by have := R.z; unfold kZ wb at *; omega) (by have := R.z; unfold kZ wb at *; omega) (by omega) (by omega) (by omega)
theorem Rc.stale (R : Rc h x m s n) (hm : s.made ≤ 60) (V : jj_V h) (ht : t < 3) : Rc (wI h 354 (wb x t) 0 1) x m s n ∧ xF h (wI h 354 (wb x t) 0 1) x m := by
  have := R.row hm V ht wFr.rf (R.row1 ht)
  rw [St.wk_self] at this
  exact this
theorem x_cell {y k c v : Int32} (R : Rc h x m s n) (hw : s.wf) (H : ∀ h', Rc h' x m (a_cell s y k c v).2 n → xF h h' x m → Q (.int (a_cell s y k c v).1) h') : jj_C mX9_cell 0 0 [.ref x, .int y, .int k, .int c, .int v] h Q := by
  refine jV_C (by decide +kernel) fun V => ?_
  have bad : ∀ v', a_cell s y k c v = (v', s) → Q (.int v') h := fun v' e => by
    have := H h (by rw [e]; exact R) xF.rf
    rw [e] at this
    exact this
  refine EX9_cell _ _ _ _ _ fun d => x_isTable (fun t ht => ?_) (fun ht => ?_)
  · refine ⟨fun c => absurd c (by decide), fun _ => c_isColumn (fun j hj => ?_) (fun hj => ?_)⟩
    · obtain ⟨e, ht3⟩ := lim_some (by decide) ht
      have M := R.M
      have W := R.W ht3
      have wt := R.wt ht3
      have hmg := R.mg
      have k1 := W.1.1
      have r1 := W.1.2.1
      have k2 := W.1.2.2.2.2.1
      have hs := hw.2.1 60 t (Or.inr rfl) ht3
      refine ⟨fun _ => ?_, fun c => absurd c (by decide)⟩
      rw [e]
      simp (disch := omega) only [(cM_k M), (cM_r450_0 M), (cM_k1 M), (cM_n1 M), (cM_r451_0 M), (cM_k17 M), (cM_n17 M), (cM_r400_17 M), (cM_k18 M), (cM_n18 M), (cM_r452_0 M), (cM_k19 M), (cM_n19 M), (cM_r200_19 M), (cM_k20 M), (cM_n20 M), (cM_r453_0 M), (cM_k21 M), (cM_n21 M), (cM_r456_0 M), (cM_k22 M), (cM_n22 M), (cM_r458_0 M), (cM_k23 M), (cM_n23 M), (cM_r50_23 M), (cM_k24 M), (cM_n24 M), (cM_r51_23 M), (cM_k25 M), (cM_n25 M), (cM_r459_0 M), (cM_k26 M), (cM_n26 M), (cM_r102_26 M), (cM_k27 M), (cM_n27 M), (cM_r103_26 M), (cM_k28 M), (cM_n28 M), (cM_r104_26 M), (cM_k29 M), (cM_n29 M), (cM_r105_26 M), (cM_k30 M), (cM_n30 M), (cM_r300_30 M), (cM_k31 M), (cM_n31 M), (cM_r106_26 M), (cM_k32 M), (cM_n32 M), (cM_r107_26 M), (cM_k33 M), (cM_n33 M), (cM_r108_26 M), (cM_k34 M), (cM_n34 M), (cM_r460_0 M), (cM_k41 M), (cM_n41 M), (cM_r250_41 M), (cM_k42 M), (cM_n42 M), q_clamp, q_in, nI_leI, nI_ltI, nI_eq, ql_0, qL_0, qt_0, qT_0, qe_0, qc_0, qi_0, ql_1, qL_1, qt_1, qT_1, qe_1, qc_1, qi_1, ql_2, qL_2, qt_2, qT_2, qe_2, qc_2, qi_2, ql_3, qL_3, qt_3, qT_3, qe_3, qc_3, qi_3, ql_4, qL_4, qt_4, qT_4, qe_4, qc_4, qi_4, ql_6, qL_6, qt_6, qT_6, qe_6, qc_6, qi_6, ql_8, qL_8, qt_8, qT_8, qe_8, qc_8, qi_8, ql_10, qL_10, qt_10, qT_10, qe_10, qc_10, qi_10, ql_24, qL_24, qt_24, qT_24, qe_24, qc_24, qi_24, ql_60, qL_60, qt_60, qT_60, qe_60, qc_60, qi_60, ql_100, qL_100, qt_100, qT_100, qe_100, qc_100, qi_100, ql_200, qL_200, qt_200, qT_200, qe_200, qc_200, qi_200, ql_400, qL_400, qt_400, qT_400, qe_400, qc_400, qi_400, ql_600, qL_600, qt_600, qT_600, qe_600, qc_600, qi_600, ql_900, qL_900, qt_900, qT_900, qe_900, qc_900, qi_900, ql_1200, qL_1200, qt_1200, qT_1200, qe_1200, qc_1200, qi_1200, ql_65536, qL_65536, qt_65536, qT_65536, qe_65536, qc_65536, qi_65536, hmg, wt, k1, r1, k2, jR_wI, true_and, and_true, eq_self, forall_eq, forall_eq_apply_imp_iff]
      refine ⟨fun c4 => ?_, fun c4 => bad _ (by simp only [a_cell, ht, hj, if_pos (mg_1 c4)])⟩
      have hg := mg_0 c4
      refine c_setColumn W.1.2.2.2.2.2.2.2.1 (R.row1 ht3) hs.1 hj (fun h2 hsome R2 F2 => ?_) (fun hnone => ?_)
      · have := R.row hw.1.2 V ht3 F2 R2
        have hn : ¬ (lk (s.T 60 t) k).isNone = true := fun z => by
          cases e : lk (s.T 60 t) k with
          | none => rw [e] at hsome; cases hsome
          | some r => rw [e] at z; cases z
        have e2 : a_cell s y k c v = (1, s.wk t (colT (s.T 60 t) k j v)) := by simp only [a_cell, ht, hj, if_neg hg, if_neg hn]
        have HH := H h2 (by rw [e2]; exact this.1) this.2
        rw [e2] at HH
        exact ⟨fun c => absurd c (by decide), fun _ => HH⟩
      · have := R.stale hw.1.2 V ht3
        have e2 : a_cell s y k c v = (-1, s) := by simp only [a_cell, ht, hj, if_neg hg, if_pos hnone]
        have HH := H _ (by rw [e2]; exact this.1) this.2
        rw [e2] at HH
        exact ⟨fun _ => HH, fun c => absurd rfl c⟩
    · exact ⟨fun c => absurd rfl c, fun _ => bad _ (by simp only [a_cell, ht, hj])⟩
  · exact ⟨fun _ => bad _ (by simp only [a_cell, ht]), fun c => absurd rfl c⟩
theorem x_drop {y k : Int32} (R : Rc h x m s n) (hw : s.wf) (H : ∀ h', Rc h' x m (a_drop s y k).2 n → xF h h' x m → Q (.int (a_drop s y k).1) h') : jj_C mX9_drop 0 0 [.ref x, .int y, .int k] h Q := by
  refine jV_C (by decide +kernel) fun V => ?_
  have bad : ∀ v', a_drop s y k = (v', s) → Q (.int v') h := fun v' e => by
    have := H h (by rw [e]; exact R) xF.rf
    rw [e] at this
    exact this
  refine EX9_drop _ _ _ fun d => x_isTable (fun t ht => ?_) (fun ht => ?_)
  · obtain ⟨e, ht3⟩ := lim_some (by decide) ht
    have M := R.M
    have W := R.W ht3
    have wt := R.wt ht3
    have hmg := R.mg
    have k1 := W.1.1
    have r1 := W.1.2.1
    have k2 := W.1.2.2.2.2.1
    have hs := hw.2.1 60 t (Or.inr rfl) ht3
    refine ⟨fun _ => ?_, fun c => absurd c (by decide)⟩
    rw [e]
    simp (disch := omega) only [(cM_k M), (cM_r450_0 M), (cM_k1 M), (cM_n1 M), (cM_r451_0 M), (cM_k17 M), (cM_n17 M), (cM_r400_17 M), (cM_k18 M), (cM_n18 M), (cM_r452_0 M), (cM_k19 M), (cM_n19 M), (cM_r200_19 M), (cM_k20 M), (cM_n20 M), (cM_r453_0 M), (cM_k21 M), (cM_n21 M), (cM_r456_0 M), (cM_k22 M), (cM_n22 M), (cM_r458_0 M), (cM_k23 M), (cM_n23 M), (cM_r50_23 M), (cM_k24 M), (cM_n24 M), (cM_r51_23 M), (cM_k25 M), (cM_n25 M), (cM_r459_0 M), (cM_k26 M), (cM_n26 M), (cM_r102_26 M), (cM_k27 M), (cM_n27 M), (cM_r103_26 M), (cM_k28 M), (cM_n28 M), (cM_r104_26 M), (cM_k29 M), (cM_n29 M), (cM_r105_26 M), (cM_k30 M), (cM_n30 M), (cM_r300_30 M), (cM_k31 M), (cM_n31 M), (cM_r106_26 M), (cM_k32 M), (cM_n32 M), (cM_r107_26 M), (cM_k33 M), (cM_n33 M), (cM_r108_26 M), (cM_k34 M), (cM_n34 M), (cM_r460_0 M), (cM_k41 M), (cM_n41 M), (cM_r250_41 M), (cM_k42 M), (cM_n42 M), q_clamp, q_in, nI_leI, nI_ltI, nI_eq, ql_0, qL_0, qt_0, qT_0, qe_0, qc_0, qi_0, ql_1, qL_1, qt_1, qT_1, qe_1, qc_1, qi_1, ql_2, qL_2, qt_2, qT_2, qe_2, qc_2, qi_2, ql_3, qL_3, qt_3, qT_3, qe_3, qc_3, qi_3, ql_4, qL_4, qt_4, qT_4, qe_4, qc_4, qi_4, ql_6, qL_6, qt_6, qT_6, qe_6, qc_6, qi_6, ql_8, qL_8, qt_8, qT_8, qe_8, qc_8, qi_8, ql_10, qL_10, qt_10, qT_10, qe_10, qc_10, qi_10, ql_24, qL_24, qt_24, qT_24, qe_24, qc_24, qi_24, ql_60, qL_60, qt_60, qT_60, qe_60, qc_60, qi_60, ql_100, qL_100, qt_100, qT_100, qe_100, qc_100, qi_100, ql_200, qL_200, qt_200, qT_200, qe_200, qc_200, qi_200, ql_400, qL_400, qt_400, qT_400, qe_400, qc_400, qi_400, ql_600, qL_600, qt_600, qT_600, qe_600, qc_600, qi_600, ql_900, qL_900, qt_900, qT_900, qe_900, qc_900, qi_900, ql_1200, qL_1200, qt_1200, qT_1200, qe_1200, qc_1200, qi_1200, ql_65536, qL_65536, qt_65536, qT_65536, qe_65536, qc_65536, qi_65536, hmg, wt, k1, r1, k2, jR_wI, true_and, and_true, eq_self, forall_eq, forall_eq_apply_imp_iff]
    refine ⟨fun c => ?_, fun c => bad _ (by simp only [a_drop, ht, if_pos (mg_1 c)])⟩
    have hg := mg_0 c
    refine c_removeRow W.1.2.2.2.2.2.2.2.1 (R.row1 ht3) hs.1 (fun h2 R2 F2 => ?_)
    have := R.row hw.1.2 V ht3 F2 R2
    have e2 : a_drop s y k = (if (lk (s.T 60 t) k).isSome then 1 else 0, s.wk t (delT (s.T 60 t) k)) := by simp only [a_drop, ht, if_neg hg]
    have HH := H h2 (by rw [e2]; exact this.1) this.2
    rw [e2] at HH
    by_cases q : (lk (s.T 60 t) k).isSome = true
    · rw [if_pos q] at HH ⊢
      exact ⟨fun c => absurd c (by decide), fun _ => HH⟩
    · rw [if_neg q] at HH ⊢
      exact ⟨fun _ => HH, fun c => absurd rfl c⟩
  · exact ⟨fun c => absurd rfl c, fun _ => bad _ (by simp only [a_drop, ht])⟩
theorem x_get {y k c : Int32} (R : Rc h x m s n) (hw : s.wf) (H : Q (.long (a_get s y k c)) h) : jj_C mX9_get 0 0 [.ref x, .int y, .int k, .int c] h Q := by
  refine EX9_get _ _ _ _ fun d => x_isTable (fun t ht => ?_) (fun ht => ?_)
  · obtain ⟨e, ht3⟩ := lim_some (by decide) ht
    have M := R.M
    have W := R.W ht3
    have wt := R.wt ht3
    have k1 := W.1.1
    have r1 := W.1.2.1
    have k2 := W.1.2.2.2.2.1
    have hs := hw.2.1 60 t (Or.inr rfl) ht3
    refine ⟨fun c => absurd c (by decide), fun _ => ?_⟩
    rw [e]
    simp (disch := omega) only [(cM_k M), (cM_r450_0 M), (cM_k1 M), (cM_n1 M), (cM_r451_0 M), (cM_k17 M), (cM_n17 M), (cM_r400_17 M), (cM_k18 M), (cM_n18 M), (cM_r452_0 M), (cM_k19 M), (cM_n19 M), (cM_r200_19 M), (cM_k20 M), (cM_n20 M), (cM_r453_0 M), (cM_k21 M), (cM_n21 M), (cM_r456_0 M), (cM_k22 M), (cM_n22 M), (cM_r458_0 M), (cM_k23 M), (cM_n23 M), (cM_r50_23 M), (cM_k24 M), (cM_n24 M), (cM_r51_23 M), (cM_k25 M), (cM_n25 M), (cM_r459_0 M), (cM_k26 M), (cM_n26 M), (cM_r102_26 M), (cM_k27 M), (cM_n27 M), (cM_r103_26 M), (cM_k28 M), (cM_n28 M), (cM_r104_26 M), (cM_k29 M), (cM_n29 M), (cM_r105_26 M), (cM_k30 M), (cM_n30 M), (cM_r300_30 M), (cM_k31 M), (cM_n31 M), (cM_r106_26 M), (cM_k32 M), (cM_n32 M), (cM_r107_26 M), (cM_k33 M), (cM_n33 M), (cM_r108_26 M), (cM_k34 M), (cM_n34 M), (cM_r460_0 M), (cM_k41 M), (cM_n41 M), (cM_r250_41 M), (cM_k42 M), (cM_n42 M), q_clamp, q_in, nI_leI, nI_ltI, nI_eq, ql_0, qL_0, qt_0, qT_0, qe_0, qc_0, qi_0, ql_1, qL_1, qt_1, qT_1, qe_1, qc_1, qi_1, ql_2, qL_2, qt_2, qT_2, qe_2, qc_2, qi_2, ql_3, qL_3, qt_3, qT_3, qe_3, qc_3, qi_3, ql_4, qL_4, qt_4, qT_4, qe_4, qc_4, qi_4, ql_6, qL_6, qt_6, qT_6, qe_6, qc_6, qi_6, ql_8, qL_8, qt_8, qT_8, qe_8, qc_8, qi_8, ql_10, qL_10, qt_10, qT_10, qe_10, qc_10, qi_10, ql_24, qL_24, qt_24, qT_24, qe_24, qc_24, qi_24, ql_60, qL_60, qt_60, qT_60, qe_60, qc_60, qi_60, ql_100, qL_100, qt_100, qT_100, qe_100, qc_100, qi_100, ql_200, qL_200, qt_200, qT_200, qe_200, qc_200, qi_200, ql_400, qL_400, qt_400, qT_400, qe_400, qc_400, qi_400, ql_600, qL_600, qt_600, qT_600, qe_600, qc_600, qi_600, ql_900, qL_900, qt_900, qT_900, qe_900, qc_900, qi_900, ql_1200, qL_1200, qt_1200, qT_1200, qe_1200, qc_1200, qi_1200, ql_65536, qL_65536, qt_65536, qT_65536, qe_65536, qc_65536, qi_65536, wt, k1, r1, k2, true_and, and_true, eq_self, forall_eq, forall_eq_apply_imp_iff]
    refine c_columnOf W.2.2.1 hs.1 ?_
    simp only [a_get, ht] at H
    cases hj : lim 3 c with
    | none => rw [hj] at H; exact H
    | some j => rw [hj] at H; exact H
  · refine ⟨fun _ => ?_, fun c => absurd rfl c⟩
    simp only [a_get, ht] at H
    exact H
theorem x_size {y : Int32} (R : Rc h x m s n) (H : Q (.int (a_size s y)) h) : jj_C mX9_size 0 0 [.ref x, .int y] h Q := by
  refine EX9_size _ _ fun d => x_isTable (fun t ht => ?_) (fun ht => ?_)
  · obtain ⟨e, ht3⟩ := lim_some (by decide) ht
    have M := R.M
    have W := R.W ht3
    have wt := R.wt ht3
    have k1 := W.1.1
    have r1 := W.1.2.1
    have k2 := W.1.2.2.2.2.1
    have c1 := W.2.2.1.2.2.2.2.2.1
    refine ⟨fun c => absurd c (by decide), fun _ => ?_⟩
    rw [e]
    simp (disch := omega) only [(cM_k M), (cM_r450_0 M), (cM_k1 M), (cM_n1 M), (cM_r451_0 M), (cM_k17 M), (cM_n17 M), (cM_r400_17 M), (cM_k18 M), (cM_n18 M), (cM_r452_0 M), (cM_k19 M), (cM_n19 M), (cM_r200_19 M), (cM_k20 M), (cM_n20 M), (cM_r453_0 M), (cM_k21 M), (cM_n21 M), (cM_r456_0 M), (cM_k22 M), (cM_n22 M), (cM_r458_0 M), (cM_k23 M), (cM_n23 M), (cM_r50_23 M), (cM_k24 M), (cM_n24 M), (cM_r51_23 M), (cM_k25 M), (cM_n25 M), (cM_r459_0 M), (cM_k26 M), (cM_n26 M), (cM_r102_26 M), (cM_k27 M), (cM_n27 M), (cM_r103_26 M), (cM_k28 M), (cM_n28 M), (cM_r104_26 M), (cM_k29 M), (cM_n29 M), (cM_r105_26 M), (cM_k30 M), (cM_n30 M), (cM_r300_30 M), (cM_k31 M), (cM_n31 M), (cM_r106_26 M), (cM_k32 M), (cM_n32 M), (cM_r107_26 M), (cM_k33 M), (cM_n33 M), (cM_r108_26 M), (cM_k34 M), (cM_n34 M), (cM_r460_0 M), (cM_k41 M), (cM_n41 M), (cM_r250_41 M), (cM_k42 M), (cM_n42 M), q_clamp, q_in, nI_leI, nI_ltI, nI_eq, ql_0, qL_0, qt_0, qT_0, qe_0, qc_0, qi_0, ql_1, qL_1, qt_1, qT_1, qe_1, qc_1, qi_1, ql_2, qL_2, qt_2, qT_2, qe_2, qc_2, qi_2, ql_3, qL_3, qt_3, qT_3, qe_3, qc_3, qi_3, ql_4, qL_4, qt_4, qT_4, qe_4, qc_4, qi_4, ql_6, qL_6, qt_6, qT_6, qe_6, qc_6, qi_6, ql_8, qL_8, qt_8, qT_8, qe_8, qc_8, qi_8, ql_10, qL_10, qt_10, qT_10, qe_10, qc_10, qi_10, ql_24, qL_24, qt_24, qT_24, qe_24, qc_24, qi_24, ql_60, qL_60, qt_60, qT_60, qe_60, qc_60, qi_60, ql_100, qL_100, qt_100, qT_100, qe_100, qc_100, qi_100, ql_200, qL_200, qt_200, qT_200, qe_200, qc_200, qi_200, ql_400, qL_400, qt_400, qT_400, qe_400, qc_400, qi_400, ql_600, qL_600, qt_600, qT_600, qe_600, qc_600, qi_600, ql_900, qL_900, qt_900, qT_900, qe_900, qc_900, qi_900, ql_1200, qL_1200, qt_1200, qT_1200, qe_1200, qc_1200, qi_1200, ql_65536, qL_65536, qt_65536, qT_65536, qe_65536, qc_65536, qi_65536, wt, k1, r1, k2, c1, true_and, and_true, eq_self, forall_eq, forall_eq_apply_imp_iff]
    simp only [a_size, ht] at H
    exact H
  · refine ⟨fun _ => ?_, fun c => absurd rfl c⟩
    simp only [a_size, ht] at H
    exact H
theorem c_keyAtI {r w : Nat} {k : Int32} (R : rwO h r w l) (H : Q (.long (match lim l.length k with | none => nth | some j => Int32.toInt64 (l.getD j (0, 0, 0, 0)).1)) h) : jj_C mX6_keyAt 0 0 [.ref r, .int k] h Q := by
  obtain ⟨k1, rw_, k2, n1, n2, c1, l1, ws⟩ := R
  refine EX6_keyAt _ _ fun d => ?_
  simp only [k1, c1, true_and, and_true, eq_self, forall_eq, forall_eq_apply_imp_iff]
  refine ⟨fun c => by rw [lim_no1 c] at H; exact H, fun c => ⟨fun c2 => by rw [lim_no2 c2] at H; exact H, fun c2 => ?_⟩⟩
  obtain ⟨j, hj⟩ := lim_of (by omega) c c2
  obtain ⟨e, hjl⟩ := lim_some (by omega) hj
  rw [hj] at H
  obtain ⟨y, hy⟩ : ∃ y, l[j]? = some y := ⟨_, List.getElem?_eq_getElem hjl⟩
  have v : jI h 1000 w (4 * j) = y.1 := ws j y 0 hy (by omega)
  simp only at H
  rw [List.getD_eq_getElem?_getD, hy] at H
  rw [e]
  simp (disch := omega) only [rw_, k2, qm_3, qm_4, qm_16, qm_600, qm_200, qm_8, qn_210, qn_3, qa_0, qb_0, qa_1, qb_1, qa_2, qb_2, qa_3, qb_3, qa_4, qb_4, qa_16, qb_16, qa_180, qb_180, qs_1, qs_2, qs_3, qs_4, qs_6, qs_24, nI_add, q_sub, q_pred, q_clamp, q_in, nI_leI, nI_ltI, nI_eq, ql_0, qL_0, qt_0, qT_0, qe_0, qc_0, qi_0, ql_1, qL_1, qt_1, qT_1, qe_1, qc_1, qi_1, ql_2, qL_2, qt_2, qT_2, qe_2, qc_2, qi_2, ql_3, qL_3, qt_3, qT_3, qe_3, qc_3, qi_3, ql_4, qL_4, qt_4, qT_4, qe_4, qc_4, qi_4, ql_6, qL_6, qt_6, qT_6, qe_6, qc_6, qi_6, ql_8, qL_8, qt_8, qT_8, qe_8, qc_8, qi_8, ql_10, qL_10, qt_10, qT_10, qe_10, qc_10, qi_10, ql_24, qL_24, qt_24, qT_24, qe_24, qc_24, qi_24, ql_60, qL_60, qt_60, qT_60, qe_60, qc_60, qi_60, ql_100, qL_100, qt_100, qT_100, qe_100, qc_100, qi_100, ql_200, qL_200, qt_200, qT_200, qe_200, qc_200, qi_200, ql_400, qL_400, qt_400, qT_400, qe_400, qc_400, qi_400, ql_600, qL_600, qt_600, qT_600, qe_600, qc_600, qi_600, ql_900, qL_900, qt_900, qT_900, qe_900, qc_900, qi_900, ql_1200, qL_1200, qt_1200, qT_1200, qe_1200, qc_1200, qi_1200, ql_65536, qL_65536, qt_65536, qT_65536, qe_65536, qc_65536, qi_65536, v, true_and, and_true, eq_self, forall_eq, forall_eq_apply_imp_iff]
  exact H
theorem x_kth {y k : Int32} (R : Rc h x m s n) (H : Q (.long (a_kth s y k)) h) : jj_C mX9_kth 0 0 [.ref x, .int y, .int k] h Q := by
  refine EX9_kth _ _ _ fun d => x_isTable (fun t ht => ?_) (fun ht => ?_)
  · obtain ⟨e, ht3⟩ := lim_some (by decide) ht
    have M := R.M
    have W := R.W ht3
    have wt := R.wt ht3
    have k1 := W.1.1
    have r1 := W.1.2.1
    have k2 := W.1.2.2.2.2.1
    refine ⟨fun c => absurd c (by decide), fun _ => ?_⟩
    rw [e]
    simp (disch := omega) only [(cM_k M), (cM_r450_0 M), (cM_k1 M), (cM_n1 M), (cM_r451_0 M), (cM_k17 M), (cM_n17 M), (cM_r400_17 M), (cM_k18 M), (cM_n18 M), (cM_r452_0 M), (cM_k19 M), (cM_n19 M), (cM_r200_19 M), (cM_k20 M), (cM_n20 M), (cM_r453_0 M), (cM_k21 M), (cM_n21 M), (cM_r456_0 M), (cM_k22 M), (cM_n22 M), (cM_r458_0 M), (cM_k23 M), (cM_n23 M), (cM_r50_23 M), (cM_k24 M), (cM_n24 M), (cM_r51_23 M), (cM_k25 M), (cM_n25 M), (cM_r459_0 M), (cM_k26 M), (cM_n26 M), (cM_r102_26 M), (cM_k27 M), (cM_n27 M), (cM_r103_26 M), (cM_k28 M), (cM_n28 M), (cM_r104_26 M), (cM_k29 M), (cM_n29 M), (cM_r105_26 M), (cM_k30 M), (cM_n30 M), (cM_r300_30 M), (cM_k31 M), (cM_n31 M), (cM_r106_26 M), (cM_k32 M), (cM_n32 M), (cM_r107_26 M), (cM_k33 M), (cM_n33 M), (cM_r108_26 M), (cM_k34 M), (cM_n34 M), (cM_r460_0 M), (cM_k41 M), (cM_n41 M), (cM_r250_41 M), (cM_k42 M), (cM_n42 M), q_clamp, q_in, nI_leI, nI_ltI, nI_eq, ql_0, qL_0, qt_0, qT_0, qe_0, qc_0, qi_0, ql_1, qL_1, qt_1, qT_1, qe_1, qc_1, qi_1, ql_2, qL_2, qt_2, qT_2, qe_2, qc_2, qi_2, ql_3, qL_3, qt_3, qT_3, qe_3, qc_3, qi_3, ql_4, qL_4, qt_4, qT_4, qe_4, qc_4, qi_4, ql_6, qL_6, qt_6, qT_6, qe_6, qc_6, qi_6, ql_8, qL_8, qt_8, qT_8, qe_8, qc_8, qi_8, ql_10, qL_10, qt_10, qT_10, qe_10, qc_10, qi_10, ql_24, qL_24, qt_24, qT_24, qe_24, qc_24, qi_24, ql_60, qL_60, qt_60, qT_60, qe_60, qc_60, qi_60, ql_100, qL_100, qt_100, qT_100, qe_100, qc_100, qi_100, ql_200, qL_200, qt_200, qT_200, qe_200, qc_200, qi_200, ql_400, qL_400, qt_400, qT_400, qe_400, qc_400, qi_400, ql_600, qL_600, qt_600, qT_600, qe_600, qc_600, qi_600, ql_900, qL_900, qt_900, qT_900, qe_900, qc_900, qi_900, ql_1200, qL_1200, qt_1200, qT_1200, qe_1200, qc_1200, qi_1200, ql_65536, qL_65536, qt_65536, qT_65536, qe_65536, qc_65536, qi_65536, wt, k1, r1, k2, true_and, and_true, eq_self, forall_eq, forall_eq_apply_imp_iff]
    refine c_keyAtI W.2.2.1 ?_
    simp only [a_kth, ht] at H
    exact H
  · refine ⟨fun _ => ?_, fun c => absurd rfl c⟩
    simp only [a_kth, ht] at H
    exact H
theorem x_rank {y k : Int32} (R : Rc h x m s n) (hw : s.wf) (H : Q (.int (a_rank s y k)) h) : jj_C mX9_rank 0 0 [.ref x, .int y, .int k] h Q := by
  refine EX9_rank _ _ _ fun d => x_isTable (fun t ht => ?_) (fun ht => ?_)
  · obtain ⟨e, ht3⟩ := lim_some (by decide) ht
    have M := R.M
    have W := R.W ht3
    have wt := R.wt ht3
    have k1 := W.1.1
    have r1 := W.1.2.1
    have k2 := W.1.2.2.2.2.1
    have hs := hw.2.1 60 t (Or.inr rfl) ht3
    refine ⟨fun c => absurd c (by decide), fun _ => ?_⟩
    rw [e]
    simp (disch := omega) only [(cM_k M), (cM_r450_0 M), (cM_k1 M), (cM_n1 M), (cM_r451_0 M), (cM_k17 M), (cM_n17 M), (cM_r400_17 M), (cM_k18 M), (cM_n18 M), (cM_r452_0 M), (cM_k19 M), (cM_n19 M), (cM_r200_19 M), (cM_k20 M), (cM_n20 M), (cM_r453_0 M), (cM_k21 M), (cM_n21 M), (cM_r456_0 M), (cM_k22 M), (cM_n22 M), (cM_r458_0 M), (cM_k23 M), (cM_n23 M), (cM_r50_23 M), (cM_k24 M), (cM_n24 M), (cM_r51_23 M), (cM_k25 M), (cM_n25 M), (cM_r459_0 M), (cM_k26 M), (cM_n26 M), (cM_r102_26 M), (cM_k27 M), (cM_n27 M), (cM_r103_26 M), (cM_k28 M), (cM_n28 M), (cM_r104_26 M), (cM_k29 M), (cM_n29 M), (cM_r105_26 M), (cM_k30 M), (cM_n30 M), (cM_r300_30 M), (cM_k31 M), (cM_n31 M), (cM_r106_26 M), (cM_k32 M), (cM_n32 M), (cM_r107_26 M), (cM_k33 M), (cM_n33 M), (cM_r108_26 M), (cM_k34 M), (cM_n34 M), (cM_r460_0 M), (cM_k41 M), (cM_n41 M), (cM_r250_41 M), (cM_k42 M), (cM_n42 M), q_clamp, q_in, nI_leI, nI_ltI, nI_eq, ql_0, qL_0, qt_0, qT_0, qe_0, qc_0, qi_0, ql_1, qL_1, qt_1, qT_1, qe_1, qc_1, qi_1, ql_2, qL_2, qt_2, qT_2, qe_2, qc_2, qi_2, ql_3, qL_3, qt_3, qT_3, qe_3, qc_3, qi_3, ql_4, qL_4, qt_4, qT_4, qe_4, qc_4, qi_4, ql_6, qL_6, qt_6, qT_6, qe_6, qc_6, qi_6, ql_8, qL_8, qt_8, qT_8, qe_8, qc_8, qi_8, ql_10, qL_10, qt_10, qT_10, qe_10, qc_10, qi_10, ql_24, qL_24, qt_24, qT_24, qe_24, qc_24, qi_24, ql_60, qL_60, qt_60, qT_60, qe_60, qc_60, qi_60, ql_100, qL_100, qt_100, qT_100, qe_100, qc_100, qi_100, ql_200, qL_200, qt_200, qT_200, qe_200, qc_200, qi_200, ql_400, qL_400, qt_400, qT_400, qe_400, qc_400, qi_400, ql_600, qL_600, qt_600, qT_600, qe_600, qc_600, qi_600, ql_900, qL_900, qt_900, qT_900, qe_900, qc_900, qi_900, ql_1200, qL_1200, qt_1200, qT_1200, qe_1200, qc_1200, qi_1200, ql_65536, qL_65536, qt_65536, qT_65536, qe_65536, qc_65536, qi_65536, wt, k1, r1, k2, true_and, and_true, eq_self, forall_eq, forall_eq_apply_imp_iff]
    refine c_placeOf W.2.2.1 hs.1 ?_
    simp only [a_rank, ht] at H
    exact H
  · refine ⟨fun _ => ?_, fun c => absurd rfl c⟩
    simp only [a_rank, ht] at H
    exact H
end JX2
