/-! the class: a key is brought, its row appended -/
section JG2
variable {h h' : jj_H} {x t : Nat} {Q : Value → jj_H → Prop}
theorem cM.res (M : cM h x) (ht : t < 3) : jR h 1000 (x + 28) t = x + 35 + 2 * t ∧ jK h (x + 35 + 2 * t) = 7 ∧ jN h (x + 36 + 2 * t) = 800 := ⟨(M.2.2 t ht).2.1, (M.2.2 t ht).2.2.1, (M.2.2 t ht).2.2.2.2.2⟩
theorem c_bringKey {ro wo ru wu rh wh : Nat} {lo lu lh d : List Row} {oo ou oh : Option Row} {cf : List Cf} {k xo xu xh : Int32} (M : cM h x) (hz : x + 42 ≤ jZ h) (ht : t < 3) (So : sr h x ro wo lo) (Su : sr h x ru wu lu) (Sh : sr h x rh wh lh) (D : rwO h (x + 35 + 2 * t) (x + 36 + 2 * t) d) (K : kCf h x cf) (hcf : (dec k oo ou oh).2 = true → cf.length < 900) (mx : jI h 301 (x + 30) 0 = 1) (po : jI h 1000 (x + 29) 0 = xo) (pu : jI h 1000 (x + 29) 1 = xu) (ph : jI h 1000 (x + 29) 2 = xh) (lo_ : plR xo lo oo) (lu_ : plR xu lu ou) (lh_ : plR xh lh oh)
    (H1 : ∀ h' d2, ((dec k oo ou oh).1 = none ∧ d2 = d ∨ ∃ r, (dec k oo ou oh).1 = some r ∧ d.length ≠ 200 ∧ d2 = d ++ [r]) → rwO h' (x + 35 + 2 * t) (x + 36 + 2 * t) d2 → kCf h' x (if (dec k oo ou oh).2 then cf ++ [(t, k, true)] else cf) → cF (pK x t) h h' → Q (.int 1) h')
    (H0 : ∀ h' r, (dec k oo ou oh).1 = some r → d.length = 200 → cF (pK x t) h h' → Q (.int 0) h') : jj_C mX2_bringKey 0 0 [.ref (x + 26), .int (nI t), .int k, .ref ro, .ref ru, .ref rh] h Q := by
  obtain ⟨m1, m2, m3⟩ := M.res ht
  -- the end of every road: a row is appended
  have app : ∀ (h2 : jj_H) (r' w' : Nat) (l' : List Row) (v : Int32) (o : Option Row), rwO h2 (x + 35 + 2 * t) (x + 36 + 2 * t) d → jN h2 (x + 36 + 2 * t) = 800 → rwO h2 r' w' l' → w' ≠ x + 36 + 2 * t → plR v l' o → (dec k oo ou oh).1 = o → kCf h2 x (if (dec k oo ou oh).2 then cf ++ [(t, k, true)] else cf) → cF (pK x t) h h2 → jj_C mX6_append 0 0 [.ref (x + 35 + 2 * t), .ref r', .int v] h2 (fun v h => jj_vi (fun y => (y = 0 ∨ y = 1) ∧ Q (.int y) h) v) := by
    intro h2 r' w' l' v o D2 n2 R2 hne pl hd K2 F2
    have kx : ∀ h3, wFr h2 h3 (x + 35 + 2 * t) (x + 36 + 2 * t) → kCf h3 x (if (dec k oo ou oh).2 then cf ++ [(t, k, true)] else cf) ∧ cF (pK x t) h h3 := by
      intro h3 F3
      have F4 := F3.toC
      have hz2 : x + 42 ≤ jZ h2 := Nat.le_trans hz F2.1
      refine ⟨K2.cf F4 hz2 (by unfold pW; omega) (by unfold pW; omega) (fun a _ _ => by unfold pW; omega), F2.trans F4 (fun tg a _ q => by unfold pW at q; unfold pK; omega)⟩
    rcases pl with ⟨e, rfl⟩ | ⟨i, y, e, rfl, hy⟩
    · exact c_appendN ⟨Or.inr rfl, H1 h2 d (Or.inl ⟨by rw [hd, e], rfl⟩) D2 K2 F2⟩
    · have hil := (List.getElem?_eq_some_iff.mp hy).1
      have ll := R2.2.2.2.2.2.2.1
      refine c_append n2 D2 R2 (fun z => hne z.symm) (by omega) (fun y' hy' hlt h3 R3 F3 => ⟨Or.inr rfl, ?_⟩) (fun y' hy' hfull => ⟨Or.inl rfl, H0 h2 y (by rw [hd, e]) hfull F2⟩) (fun hn => by rw [hy] at hn; cases hn)
      rw [hy] at hy'
      cases hy'
      obtain ⟨k3, f3⟩ := kx h3 F3
      exact H1 h3 (d ++ [y]) (Or.inr ⟨y, by rw [hd, e], by omega, rfl⟩) R3 k3 f3
  have same : ∀ b : Bool, b = false → (if b then cf ++ [(t, k, true)] else cf) = cf := fun b e => by rw [e]; rfl
  -- a conflict
  have conf : ∀ (h2 : jj_H), cM h2 x → cF (pK x t) h h2 → kCf h2 x cf → rwO h2 (x + 35 + 2 * t) (x + 36 + 2 * t) d → sr h2 x ru wu lu → dec k oo ou oh = (ou, true) → jj_C mX2_addConflict 0 0 [.ref (x + 26), .int (nI t), .int k] h2 (fun v3 h3 => jK h3 (x + 26) = 3 ∧ (jK h3 (jR h3 103 (x + 26) 0) = 26 ∧ (vp_in (nI t) (jN h3 (jR h3 103 (x + 26) 0)) ∧ (jK h3 (jR h3 1000 (jR h3 103 (x + 26) 0) (Int32.toNatClampNeg (nI t))) = 7 ∧ (jj_C mX6_append 0 0 [.ref (jR h3 1000 (jR h3 103 (x + 26) 0) (Int32.toNatClampNeg (nI t))), .ref ru, .int xu] h3 (fun v6 h5 => jj_vi (fun y7 => (y7 = 0 ∨ y7 = 1) ∧ Q (.int y7) h5) v6)))))) := by
    intro h2 M2 F2 K2 D2 S2 hd
    have hz2 : x + 42 ≤ jZ h2 := Nat.le_trans hz F2.1
    refine c_addC M2 ht K2 (hcf (by rw [hd])) fun h3 K3 F3 => ?_
    have M3 := M2.cf F3 hz2 (fun tg a q => by
      by_cases e : tg = 1000
      · right; right; omega
      · right; left; simp only [List.mem_cons, List.not_mem_nil, or_false]; omega)
    obtain ⟨n1, n2, n3⟩ := M3.res ht
    have S3 := S2.cf F3 (fun tg a q => by omega)
    have D3 := D2.cf F3 (by omega) (by omega) (by omega) (by omega) (by omega)
    simp (disch := omega) only [(cM_k M3), (cM_r450_0 M3), (cM_k1 M3), (cM_n1 M3), (cM_r451_0 M3), (cM_k17 M3), (cM_n17 M3), (cM_r400_17 M3), (cM_k18 M3), (cM_n18 M3), (cM_r452_0 M3), (cM_k19 M3), (cM_n19 M3), (cM_r200_19 M3), (cM_k20 M3), (cM_n20 M3), (cM_r453_0 M3), (cM_k21 M3), (cM_n21 M3), (cM_r456_0 M3), (cM_k22 M3), (cM_n22 M3), (cM_r458_0 M3), (cM_k23 M3), (cM_n23 M3), (cM_r50_23 M3), (cM_k24 M3), (cM_n24 M3), (cM_r51_23 M3), (cM_k25 M3), (cM_n25 M3), (cM_r459_0 M3), (cM_k26 M3), (cM_n26 M3), (cM_r102_26 M3), (cM_k27 M3), (cM_n27 M3), (cM_r103_26 M3), (cM_k28 M3), (cM_n28 M3), (cM_r104_26 M3), (cM_k29 M3), (cM_n29 M3), (cM_r105_26 M3), (cM_k30 M3), (cM_n30 M3), (cM_r300_30 M3), (cM_k31 M3), (cM_n31 M3), (cM_r106_26 M3), (cM_k32 M3), (cM_n32 M3), (cM_r107_26 M3), (cM_k33 M3), (cM_n33 M3), (cM_r108_26 M3), (cM_k34 M3), (cM_n34 M3), (cM_r460_0 M3), (cM_k41 M3), (cM_n41 M3), (cM_r250_41 M3), (cM_k42 M3), (cM_n42 M3), q_clamp, q_in, nI_leI, nI_ltI, nI_eq, ql_0, qL_0, qt_0, qT_0, qe_0, qc_0, qi_0, ql_1, qL_1, qt_1, qT_1, qe_1, qc_1, qi_1, ql_2, qL_2, qt_2, qT_2, qe_2, qc_2, qi_2, ql_3, qL_3, qt_3, qT_3, qe_3, qc_3, qi_3, ql_4, qL_4, qt_4, qT_4, qe_4, qc_4, qi_4, ql_6, qL_6, qt_6, qT_6, qe_6, qc_6, qi_6, ql_8, qL_8, qt_8, qT_8, qe_8, qc_8, qi_8, ql_10, qL_10, qt_10, qT_10, qe_10, qc_10, qi_10, ql_24, qL_24, qt_24, qT_24, qe_24, qc_24, qi_24, ql_60, qL_60, qt_60, qT_60, qe_60, qc_60, qi_60, ql_100, qL_100, qt_100, qT_100, qe_100, qc_100, qi_100, ql_200, qL_200, qt_200, qT_200, qe_200, qc_200, qi_200, ql_400, qL_400, qt_400, qT_400, qe_400, qc_400, qi_400, ql_600, qL_600, qt_600, qT_600, qe_600, qc_600, qi_600, ql_900, qL_900, qt_900, qT_900, qe_900, qc_900, qi_900, ql_1200, qL_1200, qt_1200, qT_1200, qe_1200, qc_1200, qi_1200, ql_65536, qL_65536, qt_65536, qT_65536, qe_65536, qc_65536, qi_65536, n1, n2, true_and, and_true, eq_self, forall_eq, forall_eq_apply_imp_iff]
    exact app h3 ru wu lu xu ou D3 n3 S3.1 (by have := S3.2.2.1; omega) lu_ (by rw [hd]) (by rw [hd]; exact K3) (F2.trans F3 (fun tg a _ q => by unfold pK; omega))
  refine EX2_bringKey _ _ _ _ _ _ fun d => ?_
  simp (disch := omega) only [(cM_k M), (cM_r450_0 M), (cM_k1 M), (cM_n1 M), (cM_r451_0 M), (cM_k17 M), (cM_n17 M), (cM_r400_17 M), (cM_k18 M), (cM_n18 M), (cM_r452_0 M), (cM_k19 M), (cM_n19 M), (cM_r200_19 M), (cM_k20 M), (cM_n20 M), (cM_r453_0 M), (cM_k21 M), (cM_n21 M), (cM_r456_0 M), (cM_k22 M), (cM_n22 M), (cM_r458_0 M), (cM_k23 M), (cM_n23 M), (cM_r50_23 M), (cM_k24 M), (cM_n24 M), (cM_r51_23 M), (cM_k25 M), (cM_n25 M), (cM_r459_0 M), (cM_k26 M), (cM_n26 M), (cM_r102_26 M), (cM_k27 M), (cM_n27 M), (cM_r103_26 M), (cM_k28 M), (cM_n28 M), (cM_r104_26 M), (cM_k29 M), (cM_n29 M), (cM_r105_26 M), (cM_k30 M), (cM_n30 M), (cM_r300_30 M), (cM_k31 M), (cM_n31 M), (cM_r106_26 M), (cM_k32 M), (cM_n32 M), (cM_r107_26 M), (cM_k33 M), (cM_n33 M), (cM_r108_26 M), (cM_k34 M), (cM_n34 M), (cM_r460_0 M), (cM_k41 M), (cM_n41 M), (cM_r250_41 M), (cM_k42 M), (cM_n42 M), q_clamp, q_in, nI_leI, nI_ltI, nI_eq, ql_0, qL_0, qt_0, qT_0, qe_0, qc_0, qi_0, ql_1, qL_1, qt_1, qT_1, qe_1, qc_1, qi_1, ql_2, qL_2, qt_2, qT_2, qe_2, qc_2, qi_2, ql_3, qL_3, qt_3, qT_3, qe_3, qc_3, qi_3, ql_4, qL_4, qt_4, qT_4, qe_4, qc_4, qi_4, ql_6, qL_6, qt_6, qT_6, qe_6, qc_6, qi_6, ql_8, qL_8, qt_8, qT_8, qe_8, qc_8, qi_8, ql_10, qL_10, qt_10, qT_10, qe_10, qc_10, qi_10, ql_24, qL_24, qt_24, qT_24, qe_24, qc_24, qi_24, ql_60, qL_60, qt_60, qT_60, qe_60, qc_60, qi_60, ql_100, qL_100, qt_100, qT_100, qe_100, qc_100, qi_100, ql_200, qL_200, qt_200, qT_200, qe_200, qc_200, qi_200, ql_400, qL_400, qt_400, qT_400, qe_400, qc_400, qi_400, ql_600, qL_600, qt_600, qT_600, qe_600, qc_600, qi_600, ql_900, qL_900, qt_900, qT_900, qe_900, qc_900, qi_900, ql_1200, qL_1200, qt_1200, qT_1200, qe_1200, qc_1200, qi_1200, ql_65536, qL_65536, qt_65536, qT_65536, qe_65536, qc_65536, qi_65536, po, pu, ph, true_and, and_true, eq_self, forall_eq, forall_eq_apply_imp_iff]
  refine ⟨Su.1.1, c_isSameRow Su.1 Sh.1 lu_ lh_ ?_⟩
  by_cases e1 : ou = oh
  · rw [if_pos e1]
    have hd : dec k oo ou oh = (ou, false) := by unfold dec; rw [if_pos (Or.inl e1)]
    refine ⟨fun c => absurd c (by decide), fun _ => ?_⟩
    simp (disch := omega) only [(cM_k M), (cM_r450_0 M), (cM_k1 M), (cM_n1 M), (cM_r451_0 M), (cM_k17 M), (cM_n17 M), (cM_r400_17 M), (cM_k18 M), (cM_n18 M), (cM_r452_0 M), (cM_k19 M), (cM_n19 M), (cM_r200_19 M), (cM_k20 M), (cM_n20 M), (cM_r453_0 M), (cM_k21 M), (cM_n21 M), (cM_r456_0 M), (cM_k22 M), (cM_n22 M), (cM_r458_0 M), (cM_k23 M), (cM_n23 M), (cM_r50_23 M), (cM_k24 M), (cM_n24 M), (cM_r51_23 M), (cM_k25 M), (cM_n25 M), (cM_r459_0 M), (cM_k26 M), (cM_n26 M), (cM_r102_26 M), (cM_k27 M), (cM_n27 M), (cM_r103_26 M), (cM_k28 M), (cM_n28 M), (cM_r104_26 M), (cM_k29 M), (cM_n29 M), (cM_r105_26 M), (cM_k30 M), (cM_n30 M), (cM_r300_30 M), (cM_k31 M), (cM_n31 M), (cM_r106_26 M), (cM_k32 M), (cM_n32 M), (cM_r107_26 M), (cM_k33 M), (cM_n33 M), (cM_r108_26 M), (cM_k34 M), (cM_n34 M), (cM_r460_0 M), (cM_k41 M), (cM_n41 M), (cM_r250_41 M), (cM_k42 M), (cM_n42 M), q_clamp, q_in, nI_leI, nI_ltI, nI_eq, ql_0, qL_0, qt_0, qT_0, qe_0, qc_0, qi_0, ql_1, qL_1, qt_1, qT_1, qe_1, qc_1, qi_1, ql_2, qL_2, qt_2, qT_2, qe_2, qc_2, qi_2, ql_3, qL_3, qt_3, qT_3, qe_3, qc_3, qi_3, ql_4, qL_4, qt_4, qT_4, qe_4, qc_4, qi_4, ql_6, qL_6, qt_6, qT_6, qe_6, qc_6, qi_6, ql_8, qL_8, qt_8, qT_8, qe_8, qc_8, qi_8, ql_10, qL_10, qt_10, qT_10, qe_10, qc_10, qi_10, ql_24, qL_24, qt_24, qT_24, qe_24, qc_24, qi_24, ql_60, qL_60, qt_60, qT_60, qe_60, qc_60, qi_60, ql_100, qL_100, qt_100, qT_100, qe_100, qc_100, qi_100, ql_200, qL_200, qt_200, qT_200, qe_200, qc_200, qi_200, ql_400, qL_400, qt_400, qT_400, qe_400, qc_400, qi_400, ql_600, qL_600, qt_600, qT_600, qe_600, qc_600, qi_600, ql_900, qL_900, qt_900, qT_900, qe_900, qc_900, qi_900, ql_1200, qL_1200, qt_1200, qT_1200, qe_1200, qc_1200, qi_1200, ql_65536, qL_65536, qt_65536, qT_65536, qe_65536, qc_65536, qi_65536, m1, m2, true_and, and_true, eq_self, forall_eq, forall_eq_apply_imp_iff]
    exact app h ru wu lu xu ou D m3 Su.1 (by have := Su.2.2.1; omega) lu_ (by rw [hd]) (by rw [hd]; exact K) cF.rf
  · rw [if_neg e1]
    refine ⟨fun _ => ⟨So.1.1, c_isSameRow So.1 Su.1 lo_ lu_ ?_⟩, fun c => absurd rfl c⟩
    by_cases e2 : oo = ou
    · rw [if_pos e2]
      have hd : dec k oo ou oh = (oh, false) := by
        unfold dec
        rw [if_neg (fun z => z.elim e1 (fun z => e1 (e2.symm.trans z))), if_pos e2]
      refine ⟨fun c => absurd c (by decide), fun _ => ?_⟩
      simp (disch := omega) only [(cM_k M), (cM_r450_0 M), (cM_k1 M), (cM_n1 M), (cM_r451_0 M), (cM_k17 M), (cM_n17 M), (cM_r400_17 M), (cM_k18 M), (cM_n18 M), (cM_r452_0 M), (cM_k19 M), (cM_n19 M), (cM_r200_19 M), (cM_k20 M), (cM_n20 M), (cM_r453_0 M), (cM_k21 M), (cM_n21 M), (cM_r456_0 M), (cM_k22 M), (cM_n22 M), (cM_r458_0 M), (cM_k23 M), (cM_n23 M), (cM_r50_23 M), (cM_k24 M), (cM_n24 M), (cM_r51_23 M), (cM_k25 M), (cM_n25 M), (cM_r459_0 M), (cM_k26 M), (cM_n26 M), (cM_r102_26 M), (cM_k27 M), (cM_n27 M), (cM_r103_26 M), (cM_k28 M), (cM_n28 M), (cM_r104_26 M), (cM_k29 M), (cM_n29 M), (cM_r105_26 M), (cM_k30 M), (cM_n30 M), (cM_r300_30 M), (cM_k31 M), (cM_n31 M), (cM_r106_26 M), (cM_k32 M), (cM_n32 M), (cM_r107_26 M), (cM_k33 M), (cM_n33 M), (cM_r108_26 M), (cM_k34 M), (cM_n34 M), (cM_r460_0 M), (cM_k41 M), (cM_n41 M), (cM_r250_41 M), (cM_k42 M), (cM_n42 M), q_clamp, q_in, nI_leI, nI_ltI, nI_eq, ql_0, qL_0, qt_0, qT_0, qe_0, qc_0, qi_0, ql_1, qL_1, qt_1, qT_1, qe_1, qc_1, qi_1, ql_2, qL_2, qt_2, qT_2, qe_2, qc_2, qi_2, ql_3, qL_3, qt_3, qT_3, qe_3, qc_3, qi_3, ql_4, qL_4, qt_4, qT_4, qe_4, qc_4, qi_4, ql_6, qL_6, qt_6, qT_6, qe_6, qc_6, qi_6, ql_8, qL_8, qt_8, qT_8, qe_8, qc_8, qi_8, ql_10, qL_10, qt_10, qT_10, qe_10, qc_10, qi_10, ql_24, qL_24, qt_24, qT_24, qe_24, qc_24, qi_24, ql_60, qL_60, qt_60, qT_60, qe_60, qc_60, qi_60, ql_100, qL_100, qt_100, qT_100, qe_100, qc_100, qi_100, ql_200, qL_200, qt_200, qT_200, qe_200, qc_200, qi_200, ql_400, qL_400, qt_400, qT_400, qe_400, qc_400, qi_400, ql_600, qL_600, qt_600, qT_600, qe_600, qc_600, qi_600, ql_900, qL_900, qt_900, qT_900, qe_900, qc_900, qi_900, ql_1200, qL_1200, qt_1200, qT_1200, qe_1200, qc_1200, qi_1200, ql_65536, qL_65536, qt_65536, qT_65536, qe_65536, qc_65536, qi_65536, m1, m2, true_and, and_true, eq_self, forall_eq, forall_eq_apply_imp_iff]
      exact app h rh wh lh xh oh D m3 Sh.1 (by have := Sh.2.2.1; omega) lh_ (by rw [hd]) (by rw [hd]; exact K) cF.rf
    · rw [if_neg e2]
      refine ⟨fun _ => ⟨So.1.1, c_isSameRow So.1 Sh.1 lo_ lh_ ?_⟩, fun c => absurd rfl c⟩
      by_cases e3 : oo = oh
      · rw [if_pos e3]
        have hd : dec k oo ou oh = (ou, false) := by unfold dec; rw [if_pos (Or.inr e3)]
        refine ⟨fun c => absurd c (by decide), fun _ => ?_⟩
        simp (disch := omega) only [(cM_k M), (cM_r450_0 M), (cM_k1 M), (cM_n1 M), (cM_r451_0 M), (cM_k17 M), (cM_n17 M), (cM_r400_17 M), (cM_k18 M), (cM_n18 M), (cM_r452_0 M), (cM_k19 M), (cM_n19 M), (cM_r200_19 M), (cM_k20 M), (cM_n20 M), (cM_r453_0 M), (cM_k21 M), (cM_n21 M), (cM_r456_0 M), (cM_k22 M), (cM_n22 M), (cM_r458_0 M), (cM_k23 M), (cM_n23 M), (cM_r50_23 M), (cM_k24 M), (cM_n24 M), (cM_r51_23 M), (cM_k25 M), (cM_n25 M), (cM_r459_0 M), (cM_k26 M), (cM_n26 M), (cM_r102_26 M), (cM_k27 M), (cM_n27 M), (cM_r103_26 M), (cM_k28 M), (cM_n28 M), (cM_r104_26 M), (cM_k29 M), (cM_n29 M), (cM_r105_26 M), (cM_k30 M), (cM_n30 M), (cM_r300_30 M), (cM_k31 M), (cM_n31 M), (cM_r106_26 M), (cM_k32 M), (cM_n32 M), (cM_r107_26 M), (cM_k33 M), (cM_n33 M), (cM_r108_26 M), (cM_k34 M), (cM_n34 M), (cM_r460_0 M), (cM_k41 M), (cM_n41 M), (cM_r250_41 M), (cM_k42 M), (cM_n42 M), q_clamp, q_in, nI_leI, nI_ltI, nI_eq, ql_0, qL_0, qt_0, qT_0, qe_0, qc_0, qi_0, ql_1, qL_1, qt_1, qT_1, qe_1, qc_1, qi_1, ql_2, qL_2, qt_2, qT_2, qe_2, qc_2, qi_2, ql_3, qL_3, qt_3, qT_3, qe_3, qc_3, qi_3, ql_4, qL_4, qt_4, qT_4, qe_4, qc_4, qi_4, ql_6, qL_6, qt_6, qT_6, qe_6, qc_6, qi_6, ql_8, qL_8, qt_8, qT_8, qe_8, qc_8, qi_8, ql_10, qL_10, qt_10, qT_10, qe_10, qc_10, qi_10, ql_24, qL_24, qt_24, qT_24, qe_24, qc_24, qi_24, ql_60, qL_60, qt_60, qT_60, qe_60, qc_60, qi_60, ql_100, qL_100, qt_100, qT_100, qe_100, qc_100, qi_100, ql_200, qL_200, qt_200, qT_200, qe_200, qc_200, qi_200, ql_400, qL_400, qt_400, qT_400, qe_400, qc_400, qi_400, ql_600, qL_600, qt_600, qT_600, qe_600, qc_600, qi_600, ql_900, qL_900, qt_900, qT_900, qe_900, qc_900, qi_900, ql_1200, qL_1200, qt_1200, qT_1200, qe_1200, qc_1200, qi_1200, ql_65536, qL_65536, qt_65536, qT_65536, qe_65536, qc_65536, qi_65536, m1, m2, true_and, and_true, eq_self, forall_eq, forall_eq_apply_imp_iff]
        exact app h ru wu lu xu ou D m3 Su.1 (by have := Su.2.2.1; omega) lu_ (by rw [hd]) (by rw [hd]; exact K) cF.rf
      · rw [if_neg e3]
        have hn : ¬ (ou = oh ∨ oo = oh) := fun z => z.elim e1 e3
        have nall : (oo = none ∨ ou = none ∨ oh = none) → dec k oo ou oh = (ou, true) := by
          intro z
          unfold dec
          rw [if_neg hn, if_neg e2]
          rcases z with z | z | z
          · subst z; rfl
          · subst z; cases oo <;> rfl
          · subst z; cases oo <;> cases ou <;> rfl
        have no : dec k oo ou oh = (ou, true) → jj_WP d mX2_bringKey 0 0 129 [(0, .ref (x + 26)), (1, .int (nI t)), (2, .int k), (3, .ref ro), (4, .ref ru), (5, .ref rh), (7, .int xu)] [.int 0] h Q := fun hd => VX2_bringKey_129 _ _ _ _ _ _ _ _ ⟨fun _ => ⟨cM_k26 M, conf h M cF.rf K D Su hd⟩, fun c => absurd rfl c⟩
        refine ⟨fun _ => ?_, fun c => absurd rfl c⟩
        rcases lo_ with ⟨eo, ho⟩ | ⟨i, X, eo, ho, hX⟩
        · exact ⟨fun _ => no (nall (Or.inl eo)), fun c => absurd ho c⟩
        · have il := (List.getElem?_eq_some_iff.mp hX).1
          have ll := So.1.2.2.2.2.2.2.1
          refine ⟨fun c => by rw [ho] at c; exact absurd c (nI_m1 (by omega)), fun _ => ?_⟩
          rcases id lu_ with ⟨eu, hu⟩ | ⟨j, Y, eu, hu, hY⟩
          · exact ⟨fun _ => no (nall (Or.inr (Or.inl eu))), fun c => absurd hu c⟩
          · have jl := (List.getElem?_eq_some_iff.mp hY).1
            have ll2 := Su.1.2.2.2.2.2.2.1
            refine ⟨fun c => by rw [hu] at c; exact absurd c (nI_m1 (by omega)), fun _ => ?_⟩
            rcases lh_ with ⟨eh, hh⟩ | ⟨q, Z, eh, hh, hZ⟩
            · exact ⟨fun _ => no (nall (Or.inr (Or.inr eh))), fun c => absurd hh c⟩
            · have ql := (List.getElem?_eq_some_iff.mp hZ).1
              have ll3 := Sh.1.2.2.2.2.2.2.1
              refine ⟨fun c => by rw [hh] at c; exact absurd c (nI_m1 (by omega)), fun _ => ?_⟩
              refine VX2_bringKey_129 _ _ _ _ _ _ _ _ ⟨fun c => absurd c (by decide), fun _ => ⟨cM_k26 M, ?_⟩⟩
              have hdm : dec k oo ou oh = if wel X Y Z then (some (mixR k X Y Z), false) else (ou, true) := by
                unfold dec
                rw [if_neg hn, if_neg e2]
                subst eo; subst eu; subst eh
                rfl
              refine c_mix M hz So Su Sh hX hY hZ (po.trans ho) (pu.trans hu) (ph.trans hh) (fun h2 hw mw F2 => ?_) (fun h2 hw F2 => ?_)
              · have hz2 : x + 42 ≤ jZ h2 := Nat.le_trans hz F2.1
                have M2 := M.cf F2 hz (fun tg a q => by right; right; omega)
                obtain ⟨n1, n2, n3⟩ := M2.res ht
                have D2 := D.cf F2 (by omega) (by omega) (by omega) (by omega) (by omega)
                have K2 := K.cf F2 hz (by omega) (by omega) (fun a _ _ => by omega)
                have hd : dec k oo ou oh = (some (mixR k X Y Z), false) := by rw [hdm, hw]; rfl
                refine ⟨fun c => absurd c (by decide), fun _ => ?_⟩
                simp (disch := omega) only [(cM_k M2), (cM_r450_0 M2), (cM_k1 M2), (cM_n1 M2), (cM_r451_0 M2), (cM_k17 M2), (cM_n17 M2), (cM_r400_17 M2), (cM_k18 M2), (cM_n18 M2), (cM_r452_0 M2), (cM_k19 M2), (cM_n19 M2), (cM_r200_19 M2), (cM_k20 M2), (cM_n20 M2), (cM_r453_0 M2), (cM_k21 M2), (cM_n21 M2), (cM_r456_0 M2), (cM_k22 M2), (cM_n22 M2), (cM_r458_0 M2), (cM_k23 M2), (cM_n23 M2), (cM_r50_23 M2), (cM_k24 M2), (cM_n24 M2), (cM_r51_23 M2), (cM_k25 M2), (cM_n25 M2), (cM_r459_0 M2), (cM_k26 M2), (cM_n26 M2), (cM_r102_26 M2), (cM_k27 M2), (cM_n27 M2), (cM_r103_26 M2), (cM_k28 M2), (cM_n28 M2), (cM_r104_26 M2), (cM_k29 M2), (cM_n29 M2), (cM_r105_26 M2), (cM_k30 M2), (cM_n30 M2), (cM_r300_30 M2), (cM_k31 M2), (cM_n31 M2), (cM_r106_26 M2), (cM_k32 M2), (cM_n32 M2), (cM_r107_26 M2), (cM_k33 M2), (cM_n33 M2), (cM_r108_26 M2), (cM_k34 M2), (cM_n34 M2), (cM_r460_0 M2), (cM_k41 M2), (cM_n41 M2), (cM_r250_41 M2), (cM_k42 M2), (cM_n42 M2), q_clamp, q_in, nI_leI, nI_ltI, nI_eq, ql_0, qL_0, qt_0, qT_0, qe_0, qc_0, qi_0, ql_1, qL_1, qt_1, qT_1, qe_1, qc_1, qi_1, ql_2, qL_2, qt_2, qT_2, qe_2, qc_2, qi_2, ql_3, qL_3, qt_3, qT_3, qe_3, qc_3, qi_3, ql_4, qL_4, qt_4, qT_4, qe_4, qc_4, qi_4, ql_6, qL_6, qt_6, qT_6, qe_6, qc_6, qi_6, ql_8, qL_8, qt_8, qT_8, qe_8, qc_8, qi_8, ql_10, qL_10, qt_10, qT_10, qe_10, qc_10, qi_10, ql_24, qL_24, qt_24, qT_24, qe_24, qc_24, qi_24, ql_60, qL_60, qt_60, qT_60, qe_60, qc_60, qi_60, ql_100, qL_100, qt_100, qT_100, qe_100, qc_100, qi_100, ql_200, qL_200, qt_200, qT_200, qe_200, qc_200, qi_200, ql_400, qL_400, qt_400, qT_400, qe_400, qc_400, qi_400, ql_600, qL_600, qt_600, qT_600, qe_600, qc_600, qi_600, ql_900, qL_900, qt_900, qT_900, qe_900, qc_900, qi_900, ql_1200, qL_1200, qt_1200, qT_1200, qe_1200, qc_1200, qi_1200, ql_65536, qL_65536, qt_65536, qT_65536, qe_65536, qc_65536, qi_65536, jR_wI, n1, n2, true_and, and_true, eq_self, forall_eq, forall_eq_apply_imp_iff]
                have F3 : cF (fun tg a => tg = 1000 ∧ a = x + 31) h2 (wI h2 1000 (x + 31) 0 k) := cF.wI ⟨rfl, rfl⟩
                have mxR : rwO (wI h2 1000 (x + 31) 0 k) (x + 30) (x + 31) [mixR k X Y Z] := by
                  refine ⟨cM_k30 M2, cM_r300_30 M2, cM_k31 M2, by show 4 * 1 ≤ jN h2 (x + 31); rw [cM_n31 M2]; decide, by show jN h2 (x + 31) ≤ 800; rw [cM_n31 M2]; decide, ?_, by show 1 ≤ 200; decide, fun i' y c hy hc => ?_⟩
                  · rw [jI_wI, if_neg (by omega), F2.ei (by omega) (by omega)]; exact mx
                  · have hi0 : i' < 1 := (List.getElem?_eq_some_iff.mp hy).1
                    have : i' = 0 := by omega
                    subst this
                    simp at hy
                    subst hy
                    rw [Nat.mul_zero, Nat.zero_add, jI_wI]
                    rcases (show c = 0 ∨ c = 1 ∨ c = 2 ∨ c = 3 by omega) with z | z | z | z <;> subst z
                    · rw [if_pos ⟨rfl, rfl, rfl⟩]; rfl
                    · rw [if_neg (by omega), mw 1 (by omega) (by omega)]; rfl
                    · rw [if_neg (by omega), mw 2 (by omega) (by omega)]; rfl
                    · rw [if_neg (by omega), mw 3 (by omega) (by omega)]; rfl
                refine app _ (x + 30) (x + 31) [mixR k X Y Z] (nI 0) (some (mixR k X Y Z)) (D2.cf F3 (by omega) (by omega) (by omega) (by omega) (by omega)) n3 mxR (by omega) (Or.inr ⟨0, _, rfl, rfl, rfl⟩) (by rw [hd]) (by rw [hd]; exact K2.cf F3 hz2 (by omega) (by omega) (fun a _ _ => by omega)) ((F2.mono fun tg a _ q => by unfold pK; omega).trans F3 (fun tg a _ q => by unfold pK; omega))
              · have M2 := M.cf F2 hz (fun tg a q => by right; right; omega)
                have hd : dec k oo ou oh = (ou, true) := by rw [hdm, hw]; rfl
                exact ⟨fun _ => ⟨cM_k26 M2, conf h2 M2 (F2.mono fun tg a _ q => by unfold pK; omega) (K.cf F2 hz (by omega) (by omega) (fun a _ _ => by omega)) (D.cf F2 (by omega) (by omega) (by omega) (by omega) (by omega)) (Su.cf F2 (fun tg a q => by omega)) hd⟩, fun c => absurd rfl c⟩
end JG2
