/-! the class: fill -/
theorem fky_shift {f st : Int32} {i k : Nat} (hi : i ≤ k) (h : nI i * st = 0) : fky f st (k - i) = fky f st k := by
  unfold fky
  congr 1
  rw [show nI k = nI (k - i) + nI i by rw [nI_add]; congr 1; omega, Int32.add_mul, h, Int32.add_zero]
theorem fky_diff {f st : Int32} {i k : Nat} (hi : i < k) (h : fky f st i = fky f st k) : nI (k - i) * st = 0 := by
  unfold fky at h
  have h2 : nI i * st = nI k * st := by
    have : -f + (f + nI i * st) = -f + (f + nI k * st) := by rw [h]
    rw [← Int32.add_assoc, ← Int32.add_assoc, Int32.add_left_neg, Int32.zero_add, Int32.zero_add] at this
    exact this
  rw [show nI k = nI (k - i) + nI i by rw [nI_add]; congr 1; omega, Int32.add_mul] at h2
  have : nI i * st - nI i * st = nI (k - i) * st + nI i * st - nI i * st := by rw [← h2]
  rw [Int32.sub_self, Int32.sub_eq_add_neg, Int32.add_assoc, Int32.add_right_neg, Int32.add_zero] at this
  exact this.symm
theorem mor_stop {l : List Row} {f st : Int32} {i : Nat} (h0 : 0 < i) (h : nI i * st = 0) : ∀ d, mor l f st (i + d) = mor l f st i := by
  intro d
  induction d with
  | zero => rfl
  | succ d ih =>
    rw [← Nat.add_assoc, mor, ih]
    have : nov (fky f st) (fky f st (i + d)) (i + d) = false := by
      cases e : nov (fky f st) (fky f st (i + d)) (i + d) with
      | false => rfl
      | true => exact absurd (fky_shift (f := f) (by omega) h) (nov_iff.mp e (i + d - i) (by omega))
    rw [this, Bool.and_false]
    rfl
section JX3
variable {h h' h1 : jj_H} {x m n t r w : Nat} {s : St} {l : List Row} {Q : Value → jj_H → Prop}
theorem c_countNew {f st : Int32} {q : Nat} (R : rwO h r w l) (hs : Srt l) (hq : q ≤ 100) (H : Q (.int (nI (mor l f st q))) h) : jj_C mX9_countNewKeys 0 0 [.ref r, .int f, .int st, .int (nI q)] h Q := by
  refine EX9_countNewKeys _ _ _ _ fun d => ?_
  have hle := rk_le l
  have hll := R.2.2.2.2.2.2.1
  have loop : ∀ p i, i + p = q → (∀ j, 0 < j → j < i → nI j * st ≠ 0) → jj_WP d mX9_countNewKeys 0 0 6 [(0, .ref r), (1, .int f), (2, .int st), (3, .int (nI q)), (4, .int (nI (mor l f st i))), (5, .int (nI i))] [] h Q := by
    intro p
    induction p with
    | zero =>
      intro i hi lo
      refine VX9_countNewKeys_6 _ _ _ _ _ _ ?_
      rw [nI_leI (by omega) (by omega)]
      refine ⟨fun _ => ?_, fun c => by omega⟩
      rw [show i = q by omega]
      exact H
    | succ p ih =>
      intro i hi lo
      have step : (0 < i → nI i * st ≠ 0) → jj_C mX6_find 0 0 [.ref r, .int (f + nI i * st)] h (fun v4 h3 => jj_vi (fun y5 => (¬ y5 = (-1) → jj_WP d mX9_countNewKeys 0 0 6 [(0, .ref r), (1, .int f), (2, .int st), (3, .int (nI q)), (4, .int (nI (mor l f st i))), (5, .int (nI i + 1))] [] h3 Q) ∧ (y5 = (-1) → jj_WP d mX9_countNewKeys 0 0 6 [(0, .ref r), (1, .int f), (2, .int st), (3, .int (nI q)), (4, .int (nI (mor l f st i) + 1)), (5, .int (nI i + 1))] [] h3 Q)) v4) := by
        intro hne
        have lo2 : ∀ j, 0 < j → j < i + 1 → nI j * st ≠ 0 := fun j h1 h2 => by
          by_cases e : j = i
          · rw [e]; exact hne (by omega)
          · exact lo j h1 (by omega)
        have nv : nov (fky f st) (fky f st i) i = true := nov_iff.mpr fun j hj e => lo2 (i - j) (by omega) (by omega) (fky_diff hj e)
        have nx := ih (i + 1) (by omega) lo2
        rw [mor, nv, Bool.and_true] at nx
        have := hle (fky f st i)
        refine c_find R hs (fun y hy => ?_) (fun hy => ?_)
        · have hy' : lk l (fky f st i) = some y := hy
          rw [hy'] at nx
          refine ⟨fun _ => ?_, fun c => absurd c (nI_m1 (by show rk l (fky f st i) < _; omega))⟩
          rw [qa_1]
          exact nx
        · have hy' : lk l (fky f st i) = none := hy
          rw [hy'] at nx
          refine ⟨fun c => absurd rfl c, fun _ => ?_⟩
          rw [qa_1, qa_1]
          exact nx
      refine VX9_countNewKeys_6 _ _ _ _ _ _ ?_
      rw [nI_leI (by omega) (by omega), qe_0 (by omega)]
      refine ⟨fun c => by omega, fun _ => ⟨fun c => ⟨R.1, step fun z => by omega⟩, fun c => ⟨fun c2 => ?_, fun c2 => ⟨R.1, step fun _ => c2⟩⟩⟩⟩
      rw [← mor_stop (by omega) c2 (q - i), show i + (q - i) = q by omega]
      exact H
  exact loop q 0 (by omega) (fun j h1 h2 => by omega)
theorem x_fill {y f st q0 w : Int32} (R : Rc h x m s n) (hw : s.wf) (H : ∀ h', Rc h' x m (a_fill s y f st q0 w).2 n → xF h h' x m → Q (.int (a_fill s y f st q0 w).1) h') : jj_C mX9_fill 0 0 [.ref x, .int y, .int f, .int st, .int q0, .int w] h Q := by
  refine jV_C (by decide +kernel) fun V => ?_
  have bad : ∀ v', a_fill s y f st q0 w = (v', s) → Q (.int v') h := fun v' e => by
    have := H h (by rw [e]; exact R) xF.rf
    rw [e] at this
    exact this
  have lq : ∀ {q : Int32}, 100 < q → (101 : Int32) ≤ q := fun {q} hq => by
    rw [Int32.lt_iff_toInt_lt] at hq
    rw [Int32.le_iff_toInt_le]
    have : (100 : Int32).toInt = 100 := rfl
    have : (101 : Int32).toInt = 101 := rfl
    omega
  have lq2 : ∀ {q : Int32}, ¬ 100 < q → ¬ (nI 101) ≤ q := fun {q} hq z => by
    rw [Int32.lt_iff_toInt_lt] at hq
    rw [Int32.le_iff_toInt_le] at z
    have : (100 : Int32).toInt = 100 := rfl
    have : (nI 101).toInt = 101 := rfl
    omega
  refine EX9_fill _ _ _ _ _ _ fun d => x_isTable (fun t ht => ?_) (fun ht => ?_)
  · refine ⟨fun c => absurd c (by decide), fun _ => ⟨fun c => bad _ (by simp only [a_fill, ht, lim_no1 c]), fun c => ⟨fun c2 => bad _ (by simp only [a_fill, ht, lim_no2 (n := 101) (lq c2)]), fun c2 => ⟨fun c3 => ?_, fun c3 => ?_⟩⟩⟩⟩
    · obtain ⟨r, hr⟩ := lim_of (n := 101) (by decide) c (lq2 c2)
      obtain ⟨e1, hr2⟩ := lim_some (by decide) hr
      obtain ⟨e, ht3⟩ := lim_some (by decide) ht
      have M := R.M
      have W := R.W ht3
      have wt := R.wt ht3
      have hmg := R.mg
      have k1 := W.1.1
      have r1 := W.1.2.1
      have k2 := W.1.2.2.2.2.1
      have hS := (hw.2.1 60 t (Or.inr rfl) ht3).1
      have hll := (hw.2.1 60 t (Or.inr rfl) ht3).2
      have cc := W.2.2.1.2.2.2.2.2.1
      rw [e, e1]
      simp (disch := omega) only [(cM_k M), (cM_r450_0 M), (cM_k1 M), (cM_n1 M), (cM_r451_0 M), (cM_k17 M), (cM_n17 M), (cM_r400_17 M), (cM_k18 M), (cM_n18 M), (cM_r452_0 M), (cM_k19 M), (cM_n19 M), (cM_r200_19 M), (cM_k20 M), (cM_n20 M), (cM_r453_0 M), (cM_k21 M), (cM_n21 M), (cM_r456_0 M), (cM_k22 M), (cM_n22 M), (cM_r458_0 M), (cM_k23 M), (cM_n23 M), (cM_r50_23 M), (cM_k24 M), (cM_n24 M), (cM_r51_23 M), (cM_k25 M), (cM_n25 M), (cM_r459_0 M), (cM_k26 M), (cM_n26 M), (cM_r102_26 M), (cM_k27 M), (cM_n27 M), (cM_r103_26 M), (cM_k28 M), (cM_n28 M), (cM_r104_26 M), (cM_k29 M), (cM_n29 M), (cM_r105_26 M), (cM_k30 M), (cM_n30 M), (cM_r300_30 M), (cM_k31 M), (cM_n31 M), (cM_r106_26 M), (cM_k32 M), (cM_n32 M), (cM_r107_26 M), (cM_k33 M), (cM_n33 M), (cM_r108_26 M), (cM_k34 M), (cM_n34 M), (cM_r460_0 M), (cM_k41 M), (cM_n41 M), (cM_r250_41 M), (cM_k42 M), (cM_n42 M), q_clamp, q_in, nI_leI, nI_ltI, nI_eq, ql_0, qL_0, qt_0, qT_0, qe_0, qc_0, qi_0, ql_1, qL_1, qt_1, qT_1, qe_1, qc_1, qi_1, ql_2, qL_2, qt_2, qT_2, qe_2, qc_2, qi_2, ql_3, qL_3, qt_3, qT_3, qe_3, qc_3, qi_3, ql_4, qL_4, qt_4, qT_4, qe_4, qc_4, qi_4, ql_6, qL_6, qt_6, qT_6, qe_6, qc_6, qi_6, ql_8, qL_8, qt_8, qT_8, qe_8, qc_8, qi_8, ql_10, qL_10, qt_10, qT_10, qe_10, qc_10, qi_10, ql_24, qL_24, qt_24, qT_24, qe_24, qc_24, qi_24, ql_60, qL_60, qt_60, qT_60, qe_60, qc_60, qi_60, ql_100, qL_100, qt_100, qT_100, qe_100, qc_100, qi_100, ql_200, qL_200, qt_200, qT_200, qe_200, qc_200, qi_200, ql_400, qL_400, qt_400, qT_400, qe_400, qc_400, qi_400, ql_600, qL_600, qt_600, qT_600, qe_600, qc_600, qi_600, ql_900, qL_900, qt_900, qT_900, qe_900, qc_900, qi_900, ql_1200, qL_1200, qt_1200, qT_1200, qe_1200, qc_1200, qi_1200, ql_65536, qL_65536, qt_65536, qT_65536, qe_65536, qc_65536, qi_65536, hmg, wt, k1, r1, k2, jR_wI, cc, true_and, and_true, eq_self, forall_eq, forall_eq_apply_imp_iff]
      refine ⟨fun c4 => ?_, fun c4 => bad _ (by simp only [a_fill, ht, hr, if_neg c3, if_pos (mg_1 c4)])⟩
      have hg := mg_0 c4
      have hmo := mor_le (s.T 60 t) f st r
      refine c_countNew W.2.2.1 hS (by omega) ?_
      simp (disch := omega) only [jj_vi, (cM_k M), (cM_r450_0 M), (cM_k1 M), (cM_n1 M), (cM_r451_0 M), (cM_k17 M), (cM_n17 M), (cM_r400_17 M), (cM_k18 M), (cM_n18 M), (cM_r452_0 M), (cM_k19 M), (cM_n19 M), (cM_r200_19 M), (cM_k20 M), (cM_n20 M), (cM_r453_0 M), (cM_k21 M), (cM_n21 M), (cM_r456_0 M), (cM_k22 M), (cM_n22 M), (cM_r458_0 M), (cM_k23 M), (cM_n23 M), (cM_r50_23 M), (cM_k24 M), (cM_n24 M), (cM_r51_23 M), (cM_k25 M), (cM_n25 M), (cM_r459_0 M), (cM_k26 M), (cM_n26 M), (cM_r102_26 M), (cM_k27 M), (cM_n27 M), (cM_r103_26 M), (cM_k28 M), (cM_n28 M), (cM_r104_26 M), (cM_k29 M), (cM_n29 M), (cM_r105_26 M), (cM_k30 M), (cM_n30 M), (cM_r300_30 M), (cM_k31 M), (cM_n31 M), (cM_r106_26 M), (cM_k32 M), (cM_n32 M), (cM_r107_26 M), (cM_k33 M), (cM_n33 M), (cM_r108_26 M), (cM_k34 M), (cM_n34 M), (cM_r460_0 M), (cM_k41 M), (cM_n41 M), (cM_r250_41 M), (cM_k42 M), (cM_n42 M), qm_3, qm_4, qm_16, qm_600, qm_200, qm_8, qn_210, qn_3, qa_0, qb_0, qa_1, qb_1, qa_2, qb_2, qa_3, qb_3, qa_4, qb_4, qa_16, qb_16, qa_180, qb_180, qs_1, qs_2, qs_3, qs_4, qs_6, qs_24, nI_add, q_sub, q_pred, q_clamp, q_in, nI_leI, nI_ltI, nI_eq, ql_0, qL_0, qt_0, qT_0, qe_0, qc_0, qi_0, ql_1, qL_1, qt_1, qT_1, qe_1, qc_1, qi_1, ql_2, qL_2, qt_2, qT_2, qe_2, qc_2, qi_2, ql_3, qL_3, qt_3, qT_3, qe_3, qc_3, qi_3, ql_4, qL_4, qt_4, qT_4, qe_4, qc_4, qi_4, ql_6, qL_6, qt_6, qT_6, qe_6, qc_6, qi_6, ql_8, qL_8, qt_8, qT_8, qe_8, qc_8, qi_8, ql_10, qL_10, qt_10, qT_10, qe_10, qc_10, qi_10, ql_24, qL_24, qt_24, qT_24, qe_24, qc_24, qi_24, ql_60, qL_60, qt_60, qT_60, qe_60, qc_60, qi_60, ql_100, qL_100, qt_100, qT_100, qe_100, qc_100, qi_100, ql_200, qL_200, qt_200, qT_200, qe_200, qc_200, qi_200, ql_400, qL_400, qt_400, qT_400, qe_400, qc_400, qi_400, ql_600, qL_600, qt_600, qT_600, qe_600, qc_600, qi_600, ql_900, qL_900, qt_900, qT_900, qe_900, qc_900, qi_900, ql_1200, qL_1200, qt_1200, qT_1200, qe_1200, qc_1200, qi_1200, ql_65536, qL_65536, qt_65536, qT_65536, qe_65536, qc_65536, qi_65536, wt, k1, true_and, and_true, eq_self, forall_eq, forall_eq_apply_imp_iff]
      generalize hL : s.T 60 t = L at *
      refine ⟨fun c5 => ?_, fun c5 => bad _ (by simp only [a_fill, ht, hr, if_neg c3, if_neg hg, hL, if_pos (show 200 < L.length + mor L f st r by omega)])⟩
      have lays : ∀ q k (h2 : jj_H) (w' : Int32) (l' : List Row), k + q = r → wFr (wI h 354 (wb x t) 0 1) h2 (wb x t + 1) (wb x t + 2) → rwO h2 (wb x t + 1) (wb x t + 2) l' → fSt L f st k l' → fls f st q k w' l' = fls f st r 0 w L → jj_WP d mX9_fill 0 0 91 [(2, .int f), (3, .int st), (4, .int (nI r)), (6, .ref (wb x t + 1)), (7, .int w'), (8, .int (nI k))] [] h2 Q := by
        intro q
        induction q with
        | zero =>
          intro k h2 w' l' hk F2 R2 hS2 hE
          refine VX9_fill_91 _ _ _ _ _ _ ?_
          rw [nI_leI (by omega) (by omega)]
          refine ⟨fun _ => ⟨R2.1, ?_⟩, fun c => by omega⟩
          simp only [fls] at hE
          have e : a_fill s y f st q0 w = (nI (fls f st r 0 w L).length, s.wk t (fls f st r 0 w L)) := by simp only [a_fill, ht, hr, if_neg c3, if_neg hg, hL, if_neg (show ¬ 200 < L.length + mor L f st r by omega)]
          have := R.row hw.1.2 V ht3 F2 R2
          have HH := H h2 (by rw [e, ← hE]; exact this.1) this.2
          rw [e, ← hE] at HH
          rw [R2.2.2.2.2.2.1]
          exact HH
        | succ q ih =>
          intro k h2 w' l' hk F2 R2 hS2 hE
          refine VX9_fill_91 _ _ _ _ _ _ ?_
          rw [nI_leI (by omega) (by omega)]
          refine ⟨fun c => by omega, fun _ => EX9_nextSeed _ fun _ => EX9_nextSeed _ fun _ => EX9_nextSeed _ fun _ => ⟨R2.1, ?_⟩⟩
          have n8 : jN h2 (wb x t + 2) = 800 := by
            unfold jN
            rw [F2.1]
            exact W.1.2.2.2.2.2.2.2.1
          refine c_setRow n8 R2 hS2.1 (fun h3 _ R3 F3 => ?_) (fun hfull => ?_)
          · have := ih (k + 1) h3 _ _ (by omega) (F2.trans F3) R3 (hS2.next hS _ _ _) hE
            show jj_WP _ _ _ _ _ _ _ _ _
            rw [qa_1]
            exact this
          · exfalso
            obtain ⟨hf1, hf2⟩ := hfull
            have e1 := hS2.new hS
            have hnone : (lk l' (fky f st k)).isSome = false := by
              have z : (lk l' (fky f st k)).isNone = true := hf2
              cases e : lk l' (fky f st k) with
              | none => rfl
              | some r => rw [e] at z; cases z
            rw [hnone] at e1
            have e2 : ((lk L (fky f st k)).isNone && nov (fky f st) (fky f st k) k) = true := by simpa using e1.symm
            have e3 := hS2.2.2
            have e4 : mor L f st (k + 1) = mor L f st k + 1 := by simp only [mor]; rw [e2]; simp
            have e5 := mor_mono L f st (k := k + 1) (k' := r) (by omega)
            omega
      have R1 := R.row1 ht3
      rw [hL] at R1
      exact lays r 0 _ w L (by omega) wFr.rf R1 (fSt.zero hS) rfl
    · refine bad _ ?_
      obtain ⟨r, hr⟩ := lim_of (n := 101) (by decide) c (lq2 c2)
      simp only [a_fill, ht, hr, if_pos c3]
  · exact ⟨fun _ => bad _ (by simp only [a_fill, ht]), fun c => absurd rfl c⟩
end JX3
