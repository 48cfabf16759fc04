/-! the class: a key is brought -/
def pK (x t : Nat) : Nat → Nat → Prop := fun tg a => (tg = 1000 ∧ (a = x + 31 ∨ (x + 32 ≤ a ∧ a ≤ x + 34) ∨ a = x + 36 + 2 * t)) ∨ (a = x + 26 ∧ (tg = 109 ∨ tg = 110)) ∨ (tg = 301 ∧ a = x + 35 + 2 * t)
def sr (h : jj_H) (x r w : Nat) (l : List Row) : Prop := rwO h r w l ∧ x + 42 < r ∧ x + 42 < w ∧ r ≤ jZ h ∧ w ≤ jZ h
theorem sr.cf {P : Nat → Nat → Prop} {h h' : jj_H} {x r w : Nat} {l : List Row} (S : sr h x r w l) (F : cF P h h') (hP : ∀ tg a, P tg a → a ≤ x + 42) : sr h' x r w l := by
  obtain ⟨R, a, b, c, d⟩ := S
  have := F.1
  exact ⟨R.cf F c d (fun q => by have := hP _ _ q; omega) (fun q => by have := hP _ _ q; omega) (fun q => by have := hP _ _ q; omega), a, b, by omega, by omega⟩
section JG
variable {h h' : jj_H} {x t : Nat} {Q : Value → jj_H → Prop}
theorem c_addC {cf : List Cf} {k : Int32} (M : cM h x) (ht : t < 3) (K : kCf h x cf) (hl : cf.length < 900) (H : ∀ h', kCf h' x (cf ++ [(t, k, true)]) → cF (fun tg a => (tg = 1000 ∧ x + 32 ≤ a ∧ a ≤ x + 34) ∨ (a = x + 26 ∧ (tg = 109 ∨ tg = 110))) h h' → Q (.int 0) h') : jj_C mX2_addConflict 0 0 [.ref (x + 26), .int (nI t), .int k] h Q := by
  obtain ⟨c1, c2, c3⟩ := K
  have b1 : jI (wI h 1000 (x + 32) cf.length (nI t)) 109 (x + 26) 0 = nI cf.length := by rw [jI_wI, if_neg (by omega)]; exact c1
  have b2 : jI (wI (wI h 1000 (x + 32) cf.length (nI t)) 1000 (x + 33) cf.length k) 109 (x + 26) 0 = nI cf.length := by rw [jI_wI, if_neg (by omega)]; exact b1
  have b3 : jI (wI (wI (wI h 1000 (x + 32) cf.length (nI t)) 1000 (x + 33) cf.length k) 1000 (x + 34) cf.length 1) 109 (x + 26) 0 = nI cf.length := by rw [jI_wI, if_neg (by omega)]; exact b2
  have b4 : jI (wI (wI (wI (wI h 1000 (x + 32) cf.length (nI t)) 1000 (x + 33) cf.length k) 1000 (x + 34) cf.length 1) 109 (x + 26) 0 (nI (cf.length + 1))) 110 (x + 26) 0 = nI (cf.countP (fun c => c.2.2)) := by
    rw [jI_wI, if_neg (by omega), jI_wI, if_neg (by omega), jI_wI, if_neg (by omega), jI_wI, if_neg (by omega)]; exact c2
  refine EX2_addConflict _ _ _ fun d => ?_
  simp (disch := omega) only [(cM_k M), (cM_r450_0 M), (cM_k1 M), (cM_n1 M), (cM_r451_0 M), (cM_k17 M), (cM_n17 M), (cM_r400_17 M), (cM_k18 M), (cM_n18 M), (cM_r452_0 M), (cM_k19 M), (cM_n19 M), (cM_r200_19 M), (cM_k20 M), (cM_n20 M), (cM_r453_0 M), (cM_k21 M), (cM_n21 M), (cM_r456_0 M), (cM_k22 M), (cM_n22 M), (cM_r458_0 M), (cM_k23 M), (cM_n23 M), (cM_r50_23 M), (cM_k24 M), (cM_n24 M), (cM_r51_23 M), (cM_k25 M), (cM_n25 M), (cM_r459_0 M), (cM_k26 M), (cM_n26 M), (cM_r102_26 M), (cM_k27 M), (cM_n27 M), (cM_r103_26 M), (cM_k28 M), (cM_n28 M), (cM_r104_26 M), (cM_k29 M), (cM_n29 M), (cM_r105_26 M), (cM_k30 M), (cM_n30 M), (cM_r300_30 M), (cM_k31 M), (cM_n31 M), (cM_r106_26 M), (cM_k32 M), (cM_n32 M), (cM_r107_26 M), (cM_k33 M), (cM_n33 M), (cM_r108_26 M), (cM_k34 M), (cM_n34 M), (cM_r460_0 M), (cM_k41 M), (cM_n41 M), (cM_r250_41 M), (cM_k42 M), (cM_n42 M), c1, b1, b2, b3, b4, jR_wI, qm_3, qm_4, qm_16, qm_600, qm_200, qm_8, qn_210, qn_3, qa_0, qb_0, qa_1, qb_1, qa_2, qb_2, qa_3, qb_3, qa_4, qb_4, qa_16, qb_16, qa_180, qb_180, qs_1, qs_2, qs_3, qs_4, qs_6, qs_24, nI_add, q_sub, q_pred, q_clamp, q_in, nI_leI, nI_ltI, nI_eq, ql_0, qL_0, qt_0, qT_0, qe_0, qc_0, qi_0, ql_1, qL_1, qt_1, qT_1, qe_1, qc_1, qi_1, ql_2, qL_2, qt_2, qT_2, qe_2, qc_2, qi_2, ql_3, qL_3, qt_3, qT_3, qe_3, qc_3, qi_3, ql_4, qL_4, qt_4, qT_4, qe_4, qc_4, qi_4, ql_6, qL_6, qt_6, qT_6, qe_6, qc_6, qi_6, ql_8, qL_8, qt_8, qT_8, qe_8, qc_8, qi_8, ql_10, qL_10, qt_10, qT_10, qe_10, qc_10, qi_10, ql_24, qL_24, qt_24, qT_24, qe_24, qc_24, qi_24, ql_60, qL_60, qt_60, qT_60, qe_60, qc_60, qi_60, ql_100, qL_100, qt_100, qT_100, qe_100, qc_100, qi_100, ql_200, qL_200, qt_200, qT_200, qe_200, qc_200, qi_200, ql_400, qL_400, qt_400, qT_400, qe_400, qc_400, qi_400, ql_600, qL_600, qt_600, qT_600, qe_600, qc_600, qi_600, ql_900, qL_900, qt_900, qT_900, qe_900, qc_900, qi_900, ql_1200, qL_1200, qt_1200, qT_1200, qe_1200, qc_1200, qi_1200, ql_65536, qL_65536, qt_65536, qT_65536, qe_65536, qc_65536, qi_65536, true_and, and_true, eq_self, forall_eq, forall_eq_apply_imp_iff]
  refine ⟨fun z => by omega, fun _ => ?_⟩
  have hlen : (cf ++ [(t, k, true)]).length = cf.length + 1 := by simp
  have hcp : (cf ++ [(t, k, true)]).countP (fun c => c.2.2) = cf.countP (fun c => c.2.2) + 1 := by rw [List.countP_append]; rfl
  have PP : ∀ {tg a i : Nat} {v : Int32} {g : jj_H}, ((tg = 1000 ∧ x + 32 ≤ a ∧ a ≤ x + 34) ∨ (a = x + 26 ∧ (tg = 109 ∨ tg = 110))) → cF (fun tg a => (tg = 1000 ∧ x + 32 ≤ a ∧ a ≤ x + 34) ∨ (a = x + 26 ∧ (tg = 109 ∨ tg = 110))) g (wI g tg a i v) := fun q => cF.wI q
  refine H _ ⟨?_, ?_, fun i c hc => ?_⟩ (((((PP (by omega)).trans (PP (by omega)) (fun _ _ _ q => q)).trans (PP (by omega)) (fun _ _ _ q => q)).trans (PP (by omega)) (fun _ _ _ q => q)).trans (PP (by omega)) (fun _ _ _ q => q))
  · rw [jI_wI, if_neg (by omega), jI_wI, if_pos ⟨rfl, rfl, rfl⟩, hlen]
  · rw [jI_wI, if_pos ⟨rfl, rfl, rfl⟩, hcp]
  · by_cases e : i = cf.length
    · rw [List.getElem?_append_right (by omega), e, Nat.sub_self] at hc
      cases hc
      refine ⟨?_, ?_, ?_⟩
      · rw [jI_wI, if_neg (by omega), jI_wI, if_neg (by omega), jI_wI, if_neg (by omega), jI_wI, if_neg (by omega), jI_wI, if_pos ⟨rfl, rfl, e⟩]
      · rw [jI_wI, if_neg (by omega), jI_wI, if_neg (by omega), jI_wI, if_neg (by omega), jI_wI, if_pos ⟨rfl, rfl, e⟩]
      · rw [jI_wI, if_neg (by omega), jI_wI, if_neg (by omega), jI_wI, if_pos ⟨rfl, rfl, e⟩]; rfl
    · have hil := (List.getElem?_eq_some_iff.mp hc).1
      rw [List.getElem?_append_left (by omega)] at hc
      obtain ⟨u1, u2, u3⟩ := c3 i c hc
      refine ⟨?_, ?_, ?_⟩
      · rw [jI_wI, if_neg (by omega), jI_wI, if_neg (by omega), jI_wI, if_neg (by omega), jI_wI, if_neg (by omega), jI_wI, if_neg (by omega)]; exact u1
      · rw [jI_wI, if_neg (by omega), jI_wI, if_neg (by omega), jI_wI, if_neg (by omega), jI_wI, if_neg (by omega), jI_wI, if_neg (by omega)]; exact u2
      · rw [jI_wI, if_neg (by omega), jI_wI, if_neg (by omega), jI_wI, if_neg (by omega), jI_wI, if_neg (by omega), jI_wI, if_neg (by omega)]; exact u3
theorem c_mix {ro wo ru wu rh wh i j q : Nat} {lo lu lh : List Row} {X Y Z : Row} (M : cM h x) (hz : x + 42 ≤ jZ h) (So : sr h x ro wo lo) (Su : sr h x ru wu lu) (Sh : sr h x rh wh lh) (hi : lo[i]? = some X) (hj : lu[j]? = some Y) (hq : lh[q]? = some Z) (po : jI h 1000 (x + 29) 0 = nI i) (pu : jI h 1000 (x + 29) 1 = nI j) (ph : jI h 1000 (x + 29) 2 = nI q) (H1 : ∀ h', wel X Y Z = true → (∀ c, 1 ≤ c → c ≤ 3 → jI h' 1000 (x + 31) c = mx1 (wd X c) (wd Y c) (wd Z c)) → cF (fun tg a => tg = 1000 ∧ a = x + 31) h h' → Q (.int 1) h') (H0 : ∀ h', wel X Y Z = false → cF (fun tg a => tg = 1000 ∧ a = x + 31) h h' → Q (.int 0) h') : jj_C mX2_mixColumns 0 0 [.ref (x + 26), .ref ro, .ref ru, .ref rh] h Q := by
  refine EX2_mixColumns _ _ _ _ fun d => ?_
  have il := (List.getElem?_eq_some_iff.mp hi).1
  have jl := (List.getElem?_eq_some_iff.mp hj).1
  have ql := (List.getElem?_eq_some_iff.mp hq).1
  have Wel : wel X Y Z = (wl1 (wd X 1) (wd Y 1) (wd Z 1) && (wl1 (wd X 2) (wd Y 2) (wd Z 2) && wl1 (wd X 3) (wd Y 3) (wd Z 3))) := rfl
  have loop : ∀ p c (h1 : jj_H), 1 ≤ c → c + p = 4 → cF (fun tg a => tg = 1000 ∧ a = x + 31) h h1 → (∀ c', 1 ≤ c' → c' < c → jI h1 1000 (x + 31) c' = mx1 (wd X c') (wd Y c') (wd Z c') ∧ wl1 (wd X c') (wd Y c') (wd Z c') = true) → jj_WP d mX2_mixColumns 0 0 3 [(0, .ref (x + 26)), (1, .ref ro), (2, .ref ru), (3, .ref rh), (4, .int (nI c))] [] h1 Q := by
    intro p
    induction p with
    | zero =>
      intro c h1 hc hp F lo'
      have : c = 4 := by omega
      subst this
      refine VX2_mixColumns_3 _ _ _ _ _ ⟨fun _ => H1 h1 ?_ (fun c h1 h2 => (lo' c h1 (by omega)).1) F, fun c => absurd (by decide) c⟩
      rw [Wel, (lo' 1 (by omega) (by omega)).2, (lo' 2 (by omega) (by omega)).2, (lo' 3 (by omega) (by omega)).2]
      rfl
    | succ p ih =>
      intro c h1 hc hp F lo'
      have M1 := M.cf F hz (fun tg a q => by right; right; omega)
      have So1 := So.cf F (fun tg a q => by omega)
      have Su1 := Su.cf F (fun tg a q => by omega)
      have Sh1 := Sh.cf F (fun tg a q => by omega)
      obtain ⟨a1, a2, a3, a4, a5, a6, a7, a8⟩ := id So1.1
      obtain ⟨b1, b2, b3, b4, b5, b6, b7, b8⟩ := id Su1.1
      obtain ⟨c1, c2, c3, c4, c5, c6, c7, c8⟩ := id Sh1.1
      have v1 := a8 i X c hi (by omega)
      have v2 := b8 j Y c hj (by omega)
      have v3 := c8 q Z c hq (by omega)
      have p0 : jI h1 1000 (x + 29) 0 = nI i := (F.ei (by omega) (by omega)).trans po
      have p1 : jI h1 1000 (x + 29) 1 = nI j := (F.ei (by omega) (by omega)).trans pu
      have p2 : jI h1 1000 (x + 29) 2 = nI q := (F.ei (by omega) (by omega)).trans ph
      have nxt : ∀ v : Int32, v = mx1 (wd X c) (wd Y c) (wd Z c) → wl1 (wd X c) (wd Y c) (wd Z c) = true → jj_WP d mX2_mixColumns 0 0 3 [(0, .ref (x + 26)), (1, .ref ro), (2, .ref ru), (3, .ref rh), (4, .int (nI (c + 1)))] [] (wI h1 1000 (x + 31) c v) Q := by
        intro v hv hw
        refine ih (c + 1) _ (by omega) (by omega) (F.trans (cF.wI (P := fun tg a => tg = 1000 ∧ a = x + 31) ⟨rfl, rfl⟩) (fun _ _ _ q => q)) fun c' h1' h2' => ?_
        by_cases e : c' = c
        · subst e
          rw [jI_wI, if_pos ⟨rfl, rfl, rfl⟩]
          exact ⟨hv, hw⟩
        · rw [jI_wI, if_neg (by omega)]
          exact lo' c' h1' (by omega)
      refine VX2_mixColumns_3 _ _ _ _ _ ?_
      simp (disch := omega) only [(cM_k M1), (cM_r450_0 M1), (cM_k1 M1), (cM_n1 M1), (cM_r451_0 M1), (cM_k17 M1), (cM_n17 M1), (cM_r400_17 M1), (cM_k18 M1), (cM_n18 M1), (cM_r452_0 M1), (cM_k19 M1), (cM_n19 M1), (cM_r200_19 M1), (cM_k20 M1), (cM_n20 M1), (cM_r453_0 M1), (cM_k21 M1), (cM_n21 M1), (cM_r456_0 M1), (cM_k22 M1), (cM_n22 M1), (cM_r458_0 M1), (cM_k23 M1), (cM_n23 M1), (cM_r50_23 M1), (cM_k24 M1), (cM_n24 M1), (cM_r51_23 M1), (cM_k25 M1), (cM_n25 M1), (cM_r459_0 M1), (cM_k26 M1), (cM_n26 M1), (cM_r102_26 M1), (cM_k27 M1), (cM_n27 M1), (cM_r103_26 M1), (cM_k28 M1), (cM_n28 M1), (cM_r104_26 M1), (cM_k29 M1), (cM_n29 M1), (cM_r105_26 M1), (cM_k30 M1), (cM_n30 M1), (cM_r300_30 M1), (cM_k31 M1), (cM_n31 M1), (cM_r106_26 M1), (cM_k32 M1), (cM_n32 M1), (cM_r107_26 M1), (cM_k33 M1), (cM_n33 M1), (cM_r108_26 M1), (cM_k34 M1), (cM_n34 M1), (cM_r460_0 M1), (cM_k41 M1), (cM_n41 M1), (cM_r250_41 M1), (cM_k42 M1), (cM_n42 M1), qm_3, qm_4, qm_16, qm_600, qm_200, qm_8, qn_210, qn_3, qa_0, qb_0, qa_1, qb_1, qa_2, qb_2, qa_3, qb_3, qa_4, qb_4, qa_16, qb_16, qa_180, qb_180, qs_1, qs_2, qs_3, qs_4, qs_6, qs_24, nI_add, q_sub, q_pred, q_clamp, q_in, nI_leI, nI_ltI, nI_eq, ql_0, qL_0, qt_0, qT_0, qe_0, qc_0, qi_0, ql_1, qL_1, qt_1, qT_1, qe_1, qc_1, qi_1, ql_2, qL_2, qt_2, qT_2, qe_2, qc_2, qi_2, ql_3, qL_3, qt_3, qT_3, qe_3, qc_3, qi_3, ql_4, qL_4, qt_4, qT_4, qe_4, qc_4, qi_4, ql_6, qL_6, qt_6, qT_6, qe_6, qc_6, qi_6, ql_8, qL_8, qt_8, qT_8, qe_8, qc_8, qi_8, ql_10, qL_10, qt_10, qT_10, qe_10, qc_10, qi_10, ql_24, qL_24, qt_24, qT_24, qe_24, qc_24, qi_24, ql_60, qL_60, qt_60, qT_60, qe_60, qc_60, qi_60, ql_100, qL_100, qt_100, qT_100, qe_100, qc_100, qi_100, ql_200, qL_200, qt_200, qT_200, qe_200, qc_200, qi_200, ql_400, qL_400, qt_400, qT_400, qe_400, qc_400, qi_400, ql_600, qL_600, qt_600, qT_600, qe_600, qc_600, qi_600, ql_900, qL_900, qt_900, qT_900, qe_900, qc_900, qi_900, ql_1200, qL_1200, qt_1200, qT_1200, qe_1200, qc_1200, qi_1200, ql_65536, qL_65536, qt_65536, qT_65536, qe_65536, qc_65536, qi_65536, a1, a2, a3, b1, b2, b3, c1, c2, c3, p0, p1, p2, v1, v2, v3, true_and, and_true, eq_self, forall_eq, forall_eq_apply_imp_iff]
      refine ⟨fun c => by omega, fun _ => ⟨fun e1 => ⟨fun e2 => nxt _ ?_ ?_, fun e2 => nxt _ ?_ ?_⟩, fun e1 => ⟨fun e2 => ⟨fun e3 => absurd e2 e3, fun _ => nxt _ ?_ ?_⟩, fun e2 => ⟨fun e3 => ⟨fun _ => nxt _ ?_ ?_, fun e4 => absurd e4 e2⟩, fun e3 => H0 h1 ?_ F⟩⟩⟩⟩
      · unfold mx1; rw [if_pos e1]
      · unfold wl1; rw [decide_eq_true e1]; rfl
      · unfold mx1; rw [if_pos e1, e1]
      · unfold wl1; rw [decide_eq_true e1]; rfl
      · unfold mx1; rw [if_neg e1, if_pos e2]
      · unfold wl1; rw [decide_eq_true e2, Bool.true_or, Bool.or_true]
      · unfold mx1; rw [if_neg e1, if_neg e2]
      · unfold wl1; rw [decide_eq_true e3, Bool.or_true, Bool.or_true]
      · have w0 : wl1 (wd X c) (wd Y c) (wd Z c) = false := by unfold wl1; rw [decide_eq_false e1, decide_eq_false e2, decide_eq_false e3]; rfl
        rw [Wel]
        rcases (show c = 1 ∨ c = 2 ∨ c = 3 by omega) with z | z | z <;> subst z <;> rw [w0]
        · rfl
        · rw [Bool.false_and, Bool.and_false]
        · rw [Bool.and_false, Bool.and_false]
  exact loop 3 1 h (by omega) (by omega) cF.rf (fun c' h1 h2 => by omega)
end JG
