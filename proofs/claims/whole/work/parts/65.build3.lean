/-! the class: nodes added, levels begun -/
section JD2
variable {b : Nat} {l : List Row} {X : List (List Nd)} {P : List Nd} {h : jj_H} {Q : Value → jj_H → Prop}
theorem c_addNode {nd : Nd} (B : bT h b) (A : nA h b) (T : tbX (Sw b) h b (b + 3) (b + 4) l (X ++ [P])) (R : rwO h (b + 1) (b + 2) l) (hc : (flat X).length + P.length < 202) (h1 : nd.1 = X.length) (h2 : nd.2.2.1 + nd.2.2.2.1 ≤ l.length) (h3 : nd.2.2.2.1 = 0 → nd.2.2.1 = 0) (H : ∀ h', nA h' b → tbX (Sw b) h' b (b + 3) (b + 4) l (X ++ [P ++ [nd]]) → bF h h' b (b + 4) → Q (.int 0) h') : jj_C mX7_addNode 1 9 [.ref b, .int (nI nd.2.2.1), .int (nI nd.2.2.2.1), .int (nI nd.2.1), .long nd.2.2.2.2] h Q := by
  refine jV_C (by decide +kernel) fun V => ?_
  obtain ⟨b1, b2⟩ := B.ex V
  obtain ⟨a1, a2, a3, a4, a5, a6, a7, a8, a9, a10, a11, a12⟩ := id B
  obtain ⟨t1, t2, t3, t4, t5, t6, t7, t8, t9, t10, t11, t12⟩ := id T
  have hxl : (X ++ [P]).length = X.length + 1 := by simp
  have ll := R.2.2.2.2.2.2.1
  have o1 := t11 (X.length + 1) (by omega)
  rw [off_last] at o1
  rw [hxl] at t6 t10
  refine EX7_addNode _ _ _ _ _ fun d => ?_
  simp (disch := omega) only [a1, a3, a4, a9, a10, a11, a12, t10, qm_3, qm_4, qm_16, qm_600, qm_200, qm_8, qn_210, qn_3, qa_0, qb_0, qa_1, qb_1, qa_2, qb_2, qa_3, qb_3, qa_4, qb_4, qa_16, qb_16, qa_180, qb_180, qs_1, qs_2, qs_3, qs_4, qs_6, qs_24, nI_add, q_sub, q_pred, q_clamp, q_in, nI_leI, nI_ltI, nI_eq, ql_0, qL_0, qt_0, qT_0, qe_0, qc_0, qi_0, ql_1, qL_1, qt_1, qT_1, qe_1, qc_1, qi_1, ql_2, qL_2, qt_2, qT_2, qe_2, qc_2, qi_2, ql_3, qL_3, qt_3, qT_3, qe_3, qc_3, qi_3, ql_4, qL_4, qt_4, qT_4, qe_4, qc_4, qi_4, ql_6, qL_6, qt_6, qT_6, qe_6, qc_6, qi_6, ql_8, qL_8, qt_8, qT_8, qe_8, qc_8, qi_8, ql_10, qL_10, qt_10, qT_10, qe_10, qc_10, qi_10, ql_24, qL_24, qt_24, qT_24, qe_24, qc_24, qi_24, ql_60, qL_60, qt_60, qT_60, qe_60, qc_60, qi_60, ql_100, qL_100, qt_100, qT_100, qe_100, qc_100, qi_100, ql_200, qL_200, qt_200, qT_200, qe_200, qc_200, qi_200, ql_400, qL_400, qt_400, qT_400, qe_400, qc_400, qi_400, ql_600, qL_600, qt_600, qT_600, qe_600, qc_600, qi_600, ql_900, qL_900, qt_900, qT_900, qe_900, qc_900, qi_900, ql_1200, qL_1200, qt_1200, qT_1200, qe_1200, qc_1200, qi_1200, ql_65536, qL_65536, qt_65536, qT_65536, qe_65536, qc_65536, qi_65536, o1, true_and, and_true, eq_self, forall_eq, forall_eq_apply_imp_iff]
  refine ⟨fun _ => ⟨fun c => c_add46 V B A T R hc h1 h2 h3 c H, fun c => ⟨by omega, by omega, by omega, ?_⟩⟩, fun c => by omega⟩
  refine EX3_init _ fun d2 => ⟨by omega, ?_⟩
  generalize hat : (flat X).length + P.length = at_ at *
  have kA : ∀ a, a ≤ jZ h → jK (wA h 4 0) a = jK h a := fun a ha => by rw [jK_wA, if_neg (by omega)]
  have nA' : ∀ a, a ≤ jZ h → jN (wA h 4 0) a = jN h a := fun a ha => by rw [jN_wA, if_neg (by omega)]
  refine ⟨(kA _ (by omega)).trans a9, ?_, ?_⟩
  · rw [nA' _ (by omega), a10]; exact vp_in_nI hc (by decide)
  refine ⟨Or.inr (by rw [jK_wA, if_pos rfl]), ?_⟩
  have rR : ∀ tg a i, a ≤ jZ h → ¬ (tg = 1000 ∧ a = b + 3 ∧ i = at_) → jR (wR (wA h 4 0) 1000 (b + 3) at_ (jZ h + 1)) tg a i = jR h tg a i := fun tg a i ha hne => by rw [jR_wR, if_neg hne, jR_wA, if_neg (by omega)]
  have rat : jR (wR (wA h 4 0) 1000 (b + 3) at_ (jZ h + 1)) 1000 (b + 3) at_ = jZ h + 1 := by rw [jR_wR, if_pos ⟨rfl, rfl, rfl⟩]
  have iI : ∀ tg a i, a ≤ jZ h → jI (wR (wA h 4 0) 1000 (b + 3) at_ (jZ h + 1)) tg a i = jI h tg a i := fun tg a i ha => by rw [jI_wR, jI_wA, if_neg (by omega)]
  have lL : ∀ tg a i, a ≤ jZ h → jL (wR (wA h 4 0) 1000 (b + 3) at_ (jZ h + 1)) tg a i = jL h tg a i := fun tg a i ha => by rw [jL_wR, jL_wA, if_neg (by omega)]
  have eN : ∀ i, i < 202 → jR h 1000 (b + 3) i ≤ jZ h := fun i hi => by
    rcases A.1 i hi with q | q
    · omega
    · exact (jV_le V (by omega)).2
  have F : bF h (wR (wA h 4 0) 1000 (b + 3) at_ (jZ h + 1)) b (b + 4) := by
    refine ⟨by show jZ h ≤ jZ h + 1; omega, fun a ha => ⟨kA a ha, nA' a ha⟩, fun tg a i ha _ _ _ => iI tg a i ha, fun tg a i ha _ => lL tg a i ha, fun tg a i ha _ c => rR tg a i ha (by omega), fun i hi => ?_⟩
    by_cases e : i = at_
    · right
      rw [e, rat]
      exact ⟨c, by omega⟩
    · left
      exact rR _ _ _ (by omega) (by omega)
  have A2 : nA (wR (wA h 4 0) 1000 (b + 3) at_ (jZ h + 1)) b := by
    refine ⟨fun i hi => ?_, fun i j hi hj => ?_⟩
    · by_cases e : i = at_
      · right
        rw [e, rat, jK_wR, jK_wA, if_pos rfl]
      · rw [rR _ _ _ (by omega) (by omega), jK_wR, kA _ (eN i hi)]
        exact A.1 i hi
    · by_cases e : i = at_
      · by_cases e2 : j = at_
        · intro _; right; omega
        · rw [e, rat, rR _ _ _ (by omega) (by omega)]
          intro q
          have := eN j hj
          omega
      · by_cases e2 : j = at_
        · rw [e2, rat, rR _ _ _ (by omega) (by omega)]
          intro q
          have := eN i hi
          omega
        · rw [rR _ _ _ (by omega) (by omega), rR _ _ _ (by omega) (by omega)]
          exact A.2 i j hi hj
  have R2 : ∀ l', rwO h (b + 1) (b + 2) l' → rwO (wR (wA h 4 0) 1000 (b + 3) at_ (jZ h + 1)) (b + 1) (b + 2) l' := fun l' R' => F.rw V A a1 R' (by omega) (by omega)
  have T2 : tbX (Sw b) (wR (wA h 4 0) 1000 (b + 3) at_ (jZ h + 1)) b (b + 3) (b + 4) l (X ++ [P]) := by
    refine ⟨(kA _ (by omega)).trans t1, (rR _ _ _ (by omega) (by omega)).trans t2, (rR _ _ _ (by omega) (by omega)).trans t3, (kA _ (by omega)).trans t4, (kA _ (by omega)).trans t5, ?_, ?_, ?_, ?_, ?_, ?_, ?_⟩
    · rw [jN_wR, nA' _ (by omega), hxl]; exact t6
    · rw [jN_wR, nA' _ (by omega)]; exact t7
    · rw [jN_wR, nA' _ (by omega)]; exact t8
    · rw [jN_wR, nA' _ (by omega)]; exact t9
    · rw [iI _ _ _ (by omega), hxl]; exact t10
    · intro lv hlv
      rw [iI _ _ _ (by omega)]
      exact t11 lv hlv
    · intro i nd2 hi
      have hil := (List.getElem?_eq_some_iff.mp hi).1
      rw [flat_last, List.length_append] at hil
      obtain ⟨r, w, sw, N⟩ := t12 i nd2 hi
      obtain ⟨rfl, rfl⟩ := id sw
      have hz := eN i (by omega)
      rw [rR 1000 (b + 3) i (by omega) (by omega)]
      exact ⟨_, _, sw, N.fr R2 (kA _ hz) (rR _ _ _ hz (by omega)) (fun tg _ _ => iI _ _ _ hz) (lL _ _ _ hz)⟩
  have B2 := F.bT V B A
  refine jV_WP fun V2 => ?_
  have := c_add46 (d := d) (bc := 1 - 1) (bs := 9 - 9) (nd := nd) V2 B2 A2 T2 (R2 l R) (by omega) h1 h2 h3 (by rw [hat, rat]; omega) fun h' A' T' F' => H h' A' T' (F.trans F')
  rw [hat] at this
  exact this
theorem c_beginLevel (B : bT h b) (A : nA h b) (T : tbX (Sw b) h b (b + 3) (b + 4) l X) (hX : X.length < 8) (H : ∀ h', nA h' b → bT h' b → (∀ w' l', w' ≠ b + 4 → rwO h (b + 1) w' l' → rwO h' (b + 1) w' l') → tbX (Sw b) h' b (b + 3) (b + 4) l (X ++ [[]]) → bF h h' b (b + 4) → Q (.int (nI X.length)) h') : jj_C mX7_beginLevel 0 0 [.ref b] h Q := by
  obtain ⟨a1, a2, a3, a4, a5, a6, a7, a8, a9, a10, a11, a12⟩ := id B
  obtain ⟨t1, t2, t3, t4, t5, t6, t7, t8, t9, t10, t11, t12⟩ := id T
  have hxl : (X ++ [([] : List Nd)]).length = X.length + 1 := by simp
  have o1 := t11 X.length (by omega)
  rw [off_all] at o1
  refine EX7_beginLevel _ fun d => ⟨a1, ?_⟩
  rw [t10, qL_8 (by omega)]
  refine ⟨fun c => by omega, fun _ => ?_⟩
  simp (disch := omega) only [a4, a11, a12, qm_3, qm_4, qm_16, qm_600, qm_200, qm_8, qn_210, qn_3, qa_0, qb_0, qa_1, qb_1, qa_2, qb_2, qa_3, qb_3, qa_4, qb_4, qa_16, qb_16, qa_180, qb_180, qs_1, qs_2, qs_3, qs_4, qs_6, qs_24, nI_add, q_sub, q_pred, q_clamp, q_in, nI_leI, nI_ltI, nI_eq, ql_0, qL_0, qt_0, qT_0, qe_0, qc_0, qi_0, ql_1, qL_1, qt_1, qT_1, qe_1, qc_1, qi_1, ql_2, qL_2, qt_2, qT_2, qe_2, qc_2, qi_2, ql_3, qL_3, qt_3, qT_3, qe_3, qc_3, qi_3, ql_4, qL_4, qt_4, qT_4, qe_4, qc_4, qi_4, ql_6, qL_6, qt_6, qT_6, qe_6, qc_6, qi_6, ql_8, qL_8, qt_8, qT_8, qe_8, qc_8, qi_8, ql_10, qL_10, qt_10, qT_10, qe_10, qc_10, qi_10, ql_24, qL_24, qt_24, qT_24, qe_24, qc_24, qi_24, ql_60, qL_60, qt_60, qT_60, qe_60, qc_60, qi_60, ql_100, qL_100, qt_100, qT_100, qe_100, qc_100, qi_100, ql_200, qL_200, qt_200, qT_200, qe_200, qc_200, qi_200, ql_400, qL_400, qt_400, qT_400, qe_400, qc_400, qi_400, ql_600, qL_600, qt_600, qT_600, qe_600, qc_600, qi_600, ql_900, qL_900, qt_900, qT_900, qe_900, qc_900, qi_900, ql_1200, qL_1200, qt_1200, qT_1200, qe_1200, qc_1200, qi_1200, ql_65536, qL_65536, qt_65536, qT_65536, qe_65536, qc_65536, qi_65536, o1, true_and, and_true, eq_self, forall_eq, forall_eq_apply_imp_iff]
  have e353 : jI (wI h 1000 (b + 4) (X.length + 1) (nI (flat X).length)) 353 b 0 = nI X.length := by rw [jI_wI, if_neg (by omega)]; exact t10
  rw [e353]
  simp (disch := omega) only [qm_3, qm_4, qm_16, qm_600, qm_200, qm_8, qn_210, qn_3, qa_0, qb_0, qa_1, qb_1, qa_2, qb_2, qa_3, qb_3, qa_4, qb_4, qa_16, qb_16, qa_180, qb_180, qs_1, qs_2, qs_3, qs_4, qs_6, qs_24, nI_add, q_sub, q_pred, true_and, and_true, eq_self, forall_eq, forall_eq_apply_imp_iff]
  rw [jI_wI, if_pos ⟨rfl, rfl, rfl⟩, qs_1 (by omega), show X.length + 1 - 1 = X.length by omega]
  have rows : ∀ r' w' l', w' ≠ b + 4 → rwO h r' w' l' → rwO (wI (wI h 1000 (b + 4) (X.length + 1) (nI (flat X).length)) 353 b 0 (nI (X.length + 1))) r' w' l' := by
    rintro r' w' l' hw ⟨z1, z2, z3, z4, z5, z6, z7, z8⟩
    refine ⟨z1, z2, z3, z4, z5, ?_, z7, fun i x c hx hc => ?_⟩
    · rw [jI_wI, if_neg (by omega), jI_wI, if_neg (by omega)]; exact z6
    · rw [jI_wI, if_neg (by omega), jI_wI, if_neg (by omega)]; exact z8 i x c hx hc
  refine H _ A B (fun w' l' hw => rows _ w' l' hw) ⟨t1, t2, t3, t4, t5, ?_, t7, ?_, t9, ?_, ?_, ?_⟩ ⟨Nat.le_refl _, fun _ _ => ⟨rfl, rfl⟩, fun tg a i ha hn c1 c2 => ?_, fun _ _ _ _ _ => rfl, fun _ _ _ _ _ _ => rfl, fun _ _ => Or.inl rfl⟩
  · rw [hxl]; show X.length + 1 < jN h (b + 4); omega
  · rw [flat_last, List.append_nil]; exact t8
  · rw [jI_wI, if_pos ⟨rfl, rfl, rfl⟩, hxl]
  · intro lv hlv
    rw [hxl] at hlv
    rw [jI_wI, if_neg (by omega), jI_wI]
    by_cases e : lv = X.length + 1
    · rw [if_pos ⟨rfl, rfl, e⟩, e, off_last]; rfl
    · rw [if_neg (by omega), t11 lv (by omega)]
      unfold off
      rw [List.take_append_of_le_length (by omega)]
  · intro i nd hi
    rw [flat_last, List.append_nil] at hi
    obtain ⟨r, w, sw, N⟩ := t12 i nd hi
    obtain ⟨rfl, rfl⟩ := id sw
    exact ⟨_, _, sw, N.fr (fun l' => rows _ _ l' (by omega)) rfl rfl (fun tg p1 p2 => by rw [jI_wI, if_neg (by omega), jI_wI, if_neg (by omega)]) rfl⟩
  · rw [jI_wI, if_neg (by omega), jI_wI, if_neg (by omega)]
theorem c_clearNodes (B : bT h b) (H : ∀ h', tbX (Sw b) h' b (b + 3) (b + 4) l [] → bF h h' b (b + 4) → (∀ a, jR h' 1000 (b + 3) a = jR h 1000 (b + 3) a) → Q (.int 0) h') : jj_C mX7_clearNodes 0 0 [.ref b] h Q := by
  obtain ⟨a1, a2, a3, a4, a5, a6, a7, a8, a9, a10, a11, a12⟩ := id B
  refine EX7_clearNodes _ fun d => ?_
  simp (disch := omega) only [a1, a4, a11, a12, jR_wI, q_clamp, q_in, nI_leI, nI_ltI, nI_eq, ql_0, qL_0, qt_0, qT_0, qe_0, qc_0, qi_0, ql_1, qL_1, qt_1, qT_1, qe_1, qc_1, qi_1, ql_2, qL_2, qt_2, qT_2, qe_2, qc_2, qi_2, ql_3, qL_3, qt_3, qT_3, qe_3, qc_3, qi_3, ql_4, qL_4, qt_4, qT_4, qe_4, qc_4, qi_4, ql_6, qL_6, qt_6, qT_6, qe_6, qc_6, qi_6, ql_8, qL_8, qt_8, qT_8, qe_8, qc_8, qi_8, ql_10, qL_10, qt_10, qT_10, qe_10, qc_10, qi_10, ql_24, qL_24, qt_24, qT_24, qe_24, qc_24, qi_24, ql_60, qL_60, qt_60, qT_60, qe_60, qc_60, qi_60, ql_100, qL_100, qt_100, qT_100, qe_100, qc_100, qi_100, ql_200, qL_200, qt_200, qT_200, qe_200, qc_200, qi_200, ql_400, qL_400, qt_400, qT_400, qe_400, qc_400, qi_400, ql_600, qL_600, qt_600, qT_600, qe_600, qc_600, qi_600, ql_900, qL_900, qt_900, qT_900, qe_900, qc_900, qi_900, ql_1200, qL_1200, qt_1200, qT_1200, qe_1200, qc_1200, qi_1200, ql_65536, qL_65536, qt_65536, qT_65536, qe_65536, qc_65536, qi_65536, true_and, and_true, eq_self, forall_eq, forall_eq_apply_imp_iff]
  refine H _ ⟨a1, a3, a4, a9, a11, ?_, ?_, ?_, ?_, ?_, ?_, ?_⟩ ⟨Nat.le_refl _, fun _ _ => ⟨rfl, rfl⟩, fun tg a i ha hn c1 c2 => ?_, fun _ _ _ _ _ => rfl, fun _ _ _ _ _ _ => rfl, fun _ _ => Or.inl rfl⟩ (fun _ => rfl)
  · show 0 < jN h (b + 4); omega
  · show jN h (b + 4) ≤ 9; omega
  · show 0 ≤ jN h (b + 3); omega
  · show jN h (b + 3) ≤ 202; omega
  · rw [jI_wI, if_neg (by omega), jI_wI, if_pos ⟨rfl, rfl, rfl⟩]; rfl
  · intro lv hlv
    have : lv = 0 := by simpa using hlv
    rw [this, jI_wI, if_pos ⟨rfl, rfl, rfl⟩, off_0]; rfl
  · intro i nd hi; simp [flat] at hi
  · rw [jI_wI, if_neg (by omega), jI_wI, if_neg (by omega)]
end JD2
