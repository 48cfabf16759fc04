/-! the reference is made -/
def s0 : St := (fun _ _ => [], (1, 1, fun _ => -1, fun _ => -1, fun _ => 1), ((fun b => if b = 0 then 0 else -1), 0), (0, 0, 0, []), [], (1, fun _ => -1))
theorem s0_wf : s0.wf := by
  refine ⟨⟨by decide, by decide⟩, fun p t _ _ => ⟨Srt.nil, Nat.zero_le _⟩, fun c hc hb => ?_, fun c hc => ?_, fun c hc => ⟨Or.inl rfl, Or.inl rfl⟩, fun b hb => ?_, ⟨by decide, by decide, fun b hb hne => ?_, fun c i _ _ _ h2 => h2, fun c _ hne => absurd rfl hne⟩, ⟨by decide, fun q => absurd q (by decide), fun _ => rfl, by decide, fun c hc => by simp [s0, St.cf] at hc⟩, by decide, fun c hc hb => ?_, fun b _ => Or.inl rfl⟩
  · have hb' : bt 1 c = true := hb
    rw [bt_1] at hb'
    have : c = 0 := by simpa using hb'
    rw [this]; decide
  · have h0 : c = 0 := by have : c < 1 := hc; omega
    subst h0
    have e : ∀ c, s0.an c = 1 := fun _ => rfl
    refine ⟨by rw [e, bt_1]; rfl, by rw [e, bt_1]; rfl, fun i hi hb => ?_, fun i j hi hj hb hb2 => by rw [e] at *; exact hb2⟩
    rw [e, bt_1] at hb
    have : i = 0 := by simpa using hb
    omega
  · show aCom (if b = 0 then 0 else -1) 1
    split
    · exact Or.inr ⟨0, rfl, by omega⟩
    · exact Or.inl rfl
  · have hne' : (if b = 0 then (0 : Int32) else -1) ≠ -1 := hne
    show bt 1 (Int32.toNatClampNeg (if b = 0 then (0 : Int32) else -1)) = true
    by_cases q : b = 0
    · rw [if_pos q, bt_1]; decide
    · rw [if_neg q] at hne'; exact absurd rfl hne'
  · have hb' : bt 1 c = true := hb
    rw [bt_1] at hb'
    have : c = 0 := by simpa using hb'
    rw [this]; decide
/-- n of its arrays are there; nothing below has changed; all is 0 but three numbers -/
def RK (h0 h : jj_H) (m n : Nat) : Prop :=
  jZ h = m + n ∧ jK h m = 11 ∧ (∀ q ∈ rT.take n, jR h q.1 m 0 = m + q.2.1 ∧ jK h (m + q.2.1) = q.2.2.1 ∧ jN h (m + q.2.1) = q.2.2.2) ∧
  (∀ tg a i, m ≤ a → a ≤ m + n → ¬ (a = m ∧ tg = 513) → jI h tg a i = 0) ∧ (∀ tg a i, m ≤ a → a ≤ m + n → ¬ (a = m ∧ (tg = 514 ∨ tg = 530)) → jL h tg a i = 0) ∧
  (∀ a, a < m → (∀ tg i, jI h tg a i = jI h0 tg a i) ∧ (∀ tg i, jL h tg a i = jL h0 tg a i) ∧ (∀ tg i, jR h tg a i = jR h0 tg a i) ∧ jK h a = jK h0 a ∧ jN h a = jN h0 a)
theorem rT_ok : ∀ n, n ≤ 24 → ∀ q ∈ rT.take n, q.2.1 ≤ n ∧ 1 ≤ q.2.1 ∧ q.1 ≠ 1000 := by decide
theorem rT_ne : ∀ n, n < 24 → ∀ q ∈ rT.take n, ∀ p, rT[n]? = some p → q.1 ≠ p.1 := by decide
theorem rstep {h0 h : jj_H} {m n f k len : Nat} (hq : rT[n]? = some (f, n + 1, k, len)) (hn : n < 24) (K : RK h0 h m n) {P : jj_H → Prop} (nxt : ∀ h2, RK h0 h2 m (n + 1) → (jI h2 513 m 0 = jI h 513 m 0 ∧ jL h2 514 m 0 = jL h 514 m 0 ∧ jL h2 530 m 0 = jL h 530 m 0) → P h2) : ∀ h1, h1 = wA h k len → (jK h1 m = 11 ∧ ∀ h2, h2 = wR h1 f m 0 (jZ h + 1) → P h2) := by
  obtain ⟨z, k1, ar, zi, zl, lo⟩ := K
  intro h1 e1
  refine ⟨by rw [e1, jK_wA, if_neg (by omega)]; exact k1, fun h2 e2 => nxt h2 ⟨?_, ?_, fun q hq' => ?_, fun tg a i p1 p2 p3 => ?_, fun tg a i p1 p2 p3 => ?_, fun a ha => ?_⟩ ⟨?_, ?_, ?_⟩⟩
  · rw [e2, e1, jZ_wR, jZ_wA]; omega
  · rw [e2, e1, jK_wR, jK_wA, if_neg (by omega)]; exact k1
  · rw [List.take_add_one, hq] at hq'
    rcases List.mem_append.mp hq' with c | c
    · have a1 := rT_ok n (by omega) q c
      have a2 := rT_ne n hn q c _ hq
      have a3 := ar q c
      rw [e2, e1, jR_wR, if_neg (fun y => a2 y.1), jK_wR, jN_wR, jR_wA, if_neg (by omega), jK_wA, if_neg (by omega), jN_wA, if_neg (by omega)]
      exact a3
    · have e : q = (f, n + 1, k, len) := by simpa using c
      subst e
      rw [e2, e1, jR_wR, if_pos ⟨rfl, rfl, rfl⟩, jK_wR, jN_wR, jK_wA, if_pos (by show m + (n + 1) = _; omega), jN_wA, if_pos (by show m + (n + 1) = _; omega)]
      exact ⟨by show _ = m + (n + 1); omega, rfl, rfl⟩
  · rw [e2, e1, jI_wR, jI_wA]
    split
    · rfl
    · exact zi tg a i p1 (by omega) p3
  · rw [e2, e1, jL_wR, jL_wA]
    split
    · rfl
    · exact zl tg a i p1 (by omega) p3
  · have := lo a ha
    refine ⟨fun tg i => ?_, fun tg i => ?_, fun tg i => ?_, ?_, ?_⟩
    · rw [e2, e1, jI_wR, jI_wA, if_neg (by omega)]; exact this.1 tg i
    · rw [e2, e1, jL_wR, jL_wA, if_neg (by omega)]; exact this.2.1 tg i
    · rw [e2, e1, jR_wR, if_neg (by omega), jR_wA, if_neg (by omega)]; exact this.2.2.1 tg i
    · rw [e2, e1, jK_wR, jK_wA, if_neg (by omega)]; exact this.2.2.2.1
    · rw [e2, e1, jN_wR, jN_wA, if_neg (by omega)]; exact this.2.2.2.2
  · rw [e2, e1, jI_wR, jI_wA, if_neg (by omega)]
  · rw [e2, e1, jL_wR, jL_wA, if_neg (by omega)]
  · rw [e2, e1, jL_wR, jL_wA, if_neg (by omega)]
theorem rwI {h0 h : jj_H} {m n : Nat} {v : Int32} (K : RK h0 h m n) : RK h0 (wI h 513 m 0 v) m n := by
  obtain ⟨z, k1, ar, zi, zl, lo⟩ := K
  refine ⟨z, k1, ar, fun tg a i p1 p2 p3 => by rw [jI_wI, if_neg (by omega)]; exact zi tg a i p1 p2 p3, zl, fun a ha => ?_⟩
  have := lo a ha
  exact ⟨fun tg i => by rw [jI_wI, if_neg (by omega)]; exact this.1 tg i, this.2⟩
theorem rwL {h0 h : jj_H} {m n f : Nat} {v : Int64} (hf : f = 514 ∨ f = 530) (K : RK h0 h m n) : RK h0 (wL h f m 0 v) m n := by
  obtain ⟨z, k1, ar, zi, zl, lo⟩ := K
  refine ⟨z, k1, ar, zi, fun tg a i p1 p2 p3 => by rw [jL_wL, if_neg (by omega)]; exact zl tg a i p1 p2 p3, fun a ha => ?_⟩
  have := lo a ha
  exact ⟨this.1, fun tg i => by rw [jL_wL, if_neg (by omega)]; exact this.2.1 tg i, this.2.2⟩
/-- nothing but the reference's own has changed -/
def rNew (h0 h : jj_H) (m : Nat) : Prop := jZ h = m + 24 ∧ ∀ a, a < m → (∀ tg i, jI h tg a i = jI h0 tg a i) ∧ (∀ tg i, jL h tg a i = jL h0 tg a i) ∧ (∀ tg i, jR h tg a i = jR h0 tg a i) ∧ jK h a = jK h0 a ∧ jN h a = jN h0 a
theorem rNew.fr {h0 h h' : jj_H} {m : Nat} (N : rNew h0 h m) (F : rfr h h' m) : rNew h0 h' m := by
  refine ⟨by rw [← N.1]; unfold jZ; rw [F.1], fun a ha => ?_⟩
  have := N.2 a ha
  refine ⟨fun tg i => by rw [(F.2 tg a i (by omega)).1]; exact this.1 tg i, fun tg i => by rw [(F.2 tg a i (by omega)).2]; exact this.2.1 tg i, fun tg i => ?_, ?_, ?_⟩
  · rw [← this.2.2.1 tg i]; unfold jR; rw [F.1]
  · rw [← this.2.2.2.1]; unfold jK; rw [F.1]
  · rw [← this.2.2.2.2]; unfold jN; rw [F.1]
theorem r_init {h : jj_H} {m : Nat} {Q : Value → jj_H → Prop} (hm0 : m ≠ 0) (hz : jZ h = m) (hk : jK h m = 11) (z1 : ∀ tg i, jI h tg m i = 0) (z2 : ∀ tg i, jL h tg m i = 0) (H : ∀ h', Rr h' m s0 → rNew h h' m → Q (.int 0) h') : jj_C mX10_init 30 700000 [.ref m] h Q := by
  have K0 : RK h h m 0 := ⟨hz, hk, fun q hq => by simp at hq, fun tg a i p1 p2 _ => by rw [show a = m by omega]; exact z1 tg i, fun tg a i p1 p2 _ => by rw [show a = m by omega]; exact z2 tg i, fun a _ => ⟨fun _ _ => rfl, fun _ _ => rfl, fun _ _ => rfl, rfl, rfl⟩⟩
  refine EX10_init _ fun d => ⟨hm0, by decide, by decide, rstep (n := 0) rfl (by decide) K0 fun h1 K1 _ => ?_⟩
  refine VX10_init_12 _ ⟨by decide, by decide, rstep (n := 1) rfl (by decide) K1 fun h2 K2 _ => ?_⟩
  refine VX10_init_20 _ ⟨by decide, by decide, rstep (n := 2) rfl (by decide) K2 fun h3 K3 _ => ?_⟩
  refine VX10_init_29 _ ⟨by decide, by decide, rstep (n := 3) rfl (by decide) K3 fun h4 K4 _ => ?_⟩
  refine VX10_init_38 _ ⟨by decide, by decide, rstep (n := 4) rfl (by decide) K4 fun h5 K5 _ => ?_⟩
  refine VX10_init_47 _ ⟨by decide, by decide, rstep (n := 5) rfl (by decide) K5 fun h6 K6 _ => ?_⟩
  refine VX10_init_55 _ ⟨by decide, by decide, rstep (n := 6) rfl (by decide) K6 fun h7 K7 _ => ?_⟩
  refine VX10_init_63 _ ⟨by decide, by decide, rstep (n := 7) rfl (by decide) K7 fun h8 K8 _ => ?_⟩
  refine VX10_init_71 _ ⟨by decide, by decide, rstep (n := 8) rfl (by decide) K8 fun h9 K9 _ => ?_⟩
  refine VX10_init_79 _ ⟨by decide, by decide, rstep (n := 9) rfl (by decide) K9 fun h10 K10 _ => ?_⟩
  refine VX10_init_87 _ ⟨by decide, by decide, rstep (n := 10) rfl (by decide) K10 fun h11 K11 _ => ?_⟩
  refine VX10_init_96 _ ⟨by decide, by decide, rstep (n := 11) rfl (by decide) K11 fun h12 K12 _ => ?_⟩
  refine VX10_init_103 _ ⟨K12.2.1, fun h12a e12a => ?_⟩
  have K12a : RK h h12a m 12 := by rw [e12a]; exact rwI K12
  have m12 : jI h12a 513 m 0 = 1 := by rw [e12a, jI_wI, if_pos ⟨rfl, rfl, rfl⟩]
  refine VX10_init_108 _ ⟨K12a.2.1, fun h12b e12b => ?_⟩
  have K12b : RK h h12b m 12 := by rw [e12b]; exact rwL (Or.inl rfl) K12a
  have n12 : jI h12b 513 m 0 = 1 ∧ jL h12b 514 m 0 = 1 := by rw [e12b, jI_wL, jL_wL, if_pos ⟨rfl, rfl, rfl⟩]; exact ⟨m12, rfl⟩
  refine VX10_init_113 _ ⟨by decide, by decide, rstep (n := 12) rfl (by decide) K12b fun h13 K13 s13 => ?_⟩
  have n13 : jI h13 513 m 0 = 1 ∧ jL h13 514 m 0 = 1 := ⟨s13.1.trans n12.1, s13.2.1.trans n12.2⟩
  refine VX10_init_121 _ ⟨by decide, by decide, rstep (n := 13) rfl (by decide) K13 fun h14 K14 s14 => ?_⟩
  have n14 : jI h14 513 m 0 = 1 ∧ jL h14 514 m 0 = 1 := ⟨s14.1.trans n13.1, s14.2.1.trans n13.2⟩
  refine VX10_init_129 _ ⟨by decide, by decide, rstep (n := 14) rfl (by decide) K14 fun h15 K15 s15 => ?_⟩
  have n15 : jI h15 513 m 0 = 1 ∧ jL h15 514 m 0 = 1 := ⟨s15.1.trans n14.1, s15.2.1.trans n14.2⟩
  refine VX10_init_137 _ ⟨by decide, by decide, rstep (n := 15) rfl (by decide) K15 fun h16 K16 s16 => ?_⟩
  have n16 : jI h16 513 m 0 = 1 ∧ jL h16 514 m 0 = 1 := ⟨s16.1.trans n15.1, s16.2.1.trans n15.2⟩
  refine VX10_init_145 _ ⟨by decide, by decide, rstep (n := 16) rfl (by decide) K16 fun h17 K17 s17 => ?_⟩
  have n17 : jI h17 513 m 0 = 1 ∧ jL h17 514 m 0 = 1 := ⟨s17.1.trans n16.1, s17.2.1.trans n16.2⟩
  refine VX10_init_154 _ ⟨by decide, by decide, rstep (n := 17) rfl (by decide) K17 fun h18 K18 s18 => ?_⟩
  have n18 : jI h18 513 m 0 = 1 ∧ jL h18 514 m 0 = 1 := ⟨s18.1.trans n17.1, s18.2.1.trans n17.2⟩
  refine VX10_init_163 _ ⟨by decide, by decide, rstep (n := 18) rfl (by decide) K18 fun h19 K19 s19 => ?_⟩
  have n19 : jI h19 513 m 0 = 1 ∧ jL h19 514 m 0 = 1 := ⟨s19.1.trans n18.1, s19.2.1.trans n18.2⟩
  refine VX10_init_172 _ ⟨by decide, by decide, rstep (n := 19) rfl (by decide) K19 fun h20 K20 s20 => ?_⟩
  have n20 : jI h20 513 m 0 = 1 ∧ jL h20 514 m 0 = 1 := ⟨s20.1.trans n19.1, s20.2.1.trans n19.2⟩
  refine VX10_init_181 _ ⟨by decide, by decide, rstep (n := 20) rfl (by decide) K20 fun h21 K21 s21 => ?_⟩
  have n21 : jI h21 513 m 0 = 1 ∧ jL h21 514 m 0 = 1 := ⟨s21.1.trans n20.1, s21.2.1.trans n20.2⟩
  refine VX10_init_190 _ ⟨K21.2.1, fun h21a e21a => ?_⟩
  have K21a : RK h h21a m 21 := by rw [e21a]; exact rwL (Or.inr rfl) K21
  have n21a : jI h21a 513 m 0 = 1 ∧ jL h21a 514 m 0 = 1 ∧ jL h21a 530 m 0 = 1 := by rw [e21a, jI_wL, jL_wL, if_neg (by omega), jL_wL, if_pos ⟨rfl, rfl, rfl⟩]; exact ⟨n21.1, n21.2, rfl⟩
  refine VX10_init_195 _ ⟨by decide, by decide, rstep (n := 21) rfl (by decide) K21a fun h22 K22 s22 => ?_⟩
  have n22 : jI h22 513 m 0 = 1 ∧ jL h22 514 m 0 = 1 ∧ jL h22 530 m 0 = 1 := ⟨s22.1.trans n21a.1, s22.2.1.trans n21a.2.1, s22.2.2.trans n21a.2.2⟩
  refine VX10_init_203 _ ⟨by decide, by decide, rstep (n := 22) rfl (by decide) K22 fun h23 K23 s23 => ?_⟩
  have n23 : jI h23 513 m 0 = 1 ∧ jL h23 514 m 0 = 1 ∧ jL h23 530 m 0 = 1 := ⟨s23.1.trans n22.1, s23.2.1.trans n22.2.1, s23.2.2.trans n22.2.2⟩
  refine VX10_init_211 _ ⟨by decide, by decide, rstep (n := 23) rfl (by decide) K23 fun h24 K24 s24 => ?_⟩
  have n24 : jI h24 513 m 0 = 1 ∧ jL h24 514 m 0 = 1 ∧ jL h24 530 m 0 = 1 := ⟨s24.1.trans n23.1, s24.2.1.trans n23.2.1, s24.2.2.trans n23.2.2⟩
  refine VX10_init_218 _ ?_
  have M : rM h24 m := ⟨K24.2.1, fun q hq => K24.2.2.1 q hq⟩
  obtain ⟨z, _, _, zi, zl, lo⟩ := K24
  have heads : ∀ r b (hb : jj_H), b + r = 6 → hb.2 = h24.2 → (∀ tg a i, a ≠ m + 16 → a ≠ m + 22 → jI hb tg a i = jI h24 tg a i) → (∀ x, x < b → jI hb 1000 (m + 16) x = s0.hd x ∧ jI hb 1000 (m + 22) x = -1) → jj_WP d mX10_init 6 285006 220 [(0, .ref m), (1, .int (nI b))] [] hb Q := by
    intro r
    induction r with
    | zero =>
      intro b hb h6 f1 f2 lows
      have Mb : rM hb m := M.of (by rw [f1])
      refine VX10_init_220 _ _ ?_
      have Mb' : ∀ h', h'.2.2 = hb.2.2 → rM h' m := fun h' e => Mb.of e
      simp (disch := omega) only [(rM_k Mb), (rM_r501 Mb), (rM_k1 Mb), (rM_n1 Mb), (rM_r502 Mb), (rM_k2 Mb), (rM_n2 Mb), (rM_r503 Mb), (rM_k3 Mb), (rM_n3 Mb), (rM_r504 Mb), (rM_k4 Mb), (rM_n4 Mb), (rM_r505 Mb), (rM_k5 Mb), (rM_n5 Mb), (rM_r506 Mb), (rM_k6 Mb), (rM_n6 Mb), (rM_r507 Mb), (rM_k7 Mb), (rM_n7 Mb), (rM_r508 Mb), (rM_k8 Mb), (rM_n8 Mb), (rM_r509 Mb), (rM_k9 Mb), (rM_n9 Mb), (rM_r510 Mb), (rM_k10 Mb), (rM_n10 Mb), (rM_r511 Mb), (rM_k11 Mb), (rM_n11 Mb), (rM_r512 Mb), (rM_k12 Mb), (rM_n12 Mb), (rM_r515 Mb), (rM_k13 Mb), (rM_n13 Mb), (rM_r516 Mb), (rM_k14 Mb), (rM_n14 Mb), (rM_r517 Mb), (rM_k15 Mb), (rM_n15 Mb), (rM_r518 Mb), (rM_k16 Mb), (rM_n16 Mb), (rM_r524 Mb), (rM_k17 Mb), (rM_n17 Mb), (rM_r525 Mb), (rM_k18 Mb), (rM_n18 Mb), (rM_r526 Mb), (rM_k19 Mb), (rM_n19 Mb), (rM_r528 Mb), (rM_k20 Mb), (rM_n20 Mb), (rM_r529 Mb), (rM_k21 Mb), (rM_n21 Mb), (rM_r531 Mb), (rM_k22 Mb), (rM_n22 Mb), (rM_r532 Mb), (rM_k23 Mb), (rM_n23 Mb), (rM_r533 Mb), (rM_k24 Mb), (rM_n24 Mb), q_clamp, q_in, nI_leI, nI_ltI, nI_eq, ql_0, qL_0, qt_0, qT_0, qe_0, qc_0, qi_0, ql_1, qL_1, qt_1, qT_1, qe_1, qc_1, qi_1, ql_2, qL_2, qt_2, qT_2, qe_2, qc_2, qi_2, ql_3, qL_3, qt_3, qT_3, qe_3, qc_3, qi_3, ql_4, qL_4, qt_4, qT_4, qe_4, qc_4, qi_4, ql_6, qL_6, qt_6, qT_6, qe_6, qc_6, qi_6, ql_8, qL_8, qt_8, qT_8, qe_8, qc_8, qi_8, ql_10, qL_10, qt_10, qT_10, qe_10, qc_10, qi_10, ql_24, qL_24, qt_24, qT_24, qe_24, qc_24, qi_24, ql_60, qL_60, qt_60, qT_60, qe_60, qc_60, qi_60, ql_100, qL_100, qt_100, qT_100, qe_100, qc_100, qi_100, ql_200, qL_200, qt_200, qT_200, qe_200, qc_200, qi_200, ql_400, qL_400, qt_400, qT_400, qe_400, qc_400, qi_400, ql_600, qL_600, qt_600, qT_600, qe_600, qc_600, qi_600, ql_900, qL_900, qt_900, qT_900, qe_900, qc_900, qi_900, ql_1200, qL_1200, qt_1200, qT_1200, qe_1200, qc_1200, qi_1200, ql_65536, qL_65536, qt_65536, qT_65536, qe_65536, qc_65536, qi_65536, true_and, and_true, eq_self, forall_eq, forall_eq_apply_imp_iff, jR_wI]
      refine ⟨fun _ => ?_, fun c => by omega⟩
      generalize hh4 : wL (wI (wI hb 1000 (m + 13) 0 (-1)) 1000 (m + 14) 0 (-1)) 1000 (m + 15) 0 1 = h4
      have ef : h4.2.2 = hb.2.2 := by rw [← hh4]; rfl
      have i4 : ∀ tg a i, a ≠ m + 13 → a ≠ m + 14 → jI h4 tg a i = jI hb tg a i := fun tg a i p q => by rw [← hh4, jI_wL, jI_wI, if_neg (by omega), jI_wI, if_neg (by omega)]
      have l4 : ∀ tg a i, a ≠ m + 15 → jL h4 tg a i = jL hb tg a i := fun tg a i p => by rw [← hh4, jL_wL, if_neg (by omega)]; rfl
      have iz : ∀ a i, m + 1 ≤ a → a ≤ m + 12 → jI h4 1000 a i = 0 := fun a i p q => by rw [i4 _ _ _ (by omega) (by omega), f2 _ _ _ (by omega) (by omega)]; exact zi _ _ _ (by omega) (by omega) (by omega)
      have T4 : ∀ p t, rTb h4 m p t [] := fun p t => ⟨iz _ _ (by omega) (by omega), by simp, fun j r hj => by simp at hj⟩
      have jl : ∀ tg, jL hb tg m 0 = jL h24 tg m 0 := fun tg => by unfold jL; rw [f1]
      have fr4 : ∀ a, a < m → (∀ tg i, jI h4 tg a i = jI h tg a i) ∧ (∀ tg i, jL h4 tg a i = jL h tg a i) ∧ (∀ tg i, jR h4 tg a i = jR h tg a i) ∧ jK h4 a = jK h a ∧ jN h4 a = jN h a := fun a ha => by
        have := lo a ha
        refine ⟨fun tg i => by rw [i4 _ _ _ (by omega) (by omega), f2 _ _ _ (by omega) (by omega)]; exact this.1 tg i, fun tg i => ?_, fun tg i => ?_, ?_, ?_⟩
        · rw [l4 _ _ _ (by omega), ← this.2.1 tg i]; unfold jL; rw [f1]
        · rw [← this.2.2.1 tg i]; unfold jR; rw [ef, f1]
        · rw [← this.2.2.2.1]; unfold jK; rw [ef, f1]
        · rw [← this.2.2.2.2]; unfold jN; rw [ef, f1]
      have N4 : rNew h h4 m := ⟨by rw [← z]; unfold jZ; rw [ef, f1], fr4⟩
      have G4 : RrG h4 m s0 := by
        refine ⟨⟨?_, ?_, fun c hc => ?_⟩, ⟨fun b' hb' => ?_, ?_⟩, ⟨?_, fun q => absurd q (by decide), ?_, fun i c hc => by simp [s0] at hc⟩, ⟨?_, fun i c hc => by simp [s0] at hc⟩, ⟨?_, fun b' hb' => ?_⟩⟩
        · rw [i4 _ _ _ (by omega) (by omega), f2 _ _ _ (by omega) (by omega)]; exact n24.1
        · rw [l4 _ _ _ (by omega), jl]; exact n24.2.1
        · have hc0 : c = 0 := by have : c < 1 := hc; omega
          subst hc0
          rw [← hh4]
          refine ⟨?_, ?_, ?_⟩
          · rw [jI_wL, jI_wI, if_neg (by omega), jI_wI, if_pos ⟨rfl, rfl, rfl⟩]; rfl
          · rw [jI_wL, jI_wI, if_pos ⟨rfl, rfl, rfl⟩]; rfl
          · rw [jL_wL, if_pos ⟨rfl, rfl, rfl⟩]; rfl
        · rw [i4 _ _ _ (by omega) (by omega)]; exact (lows b' (by omega)).1
        · rw [i4 _ _ _ (by omega) (by omega), f2 _ _ _ (by omega) (by omega)]; exact zi _ _ _ (by omega) (by omega) (by omega)
        · rw [i4 _ _ _ (by omega) (by omega), f2 _ _ _ (by omega) (by omega)]; exact zi _ _ _ (by omega) (by omega) (by omega)
        · rw [i4 _ _ _ (by omega) (by omega), f2 _ _ _ (by omega) (by omega)]; exact zi _ _ _ (by omega) (by omega) (by omega)
        · rw [i4 _ _ _ (by omega) (by omega), f2 _ _ _ (by omega) (by omega)]; exact zi _ _ _ (by omega) (by omega) (by omega)
        · rw [l4 _ _ _ (by omega), jl]; exact n24.2.2
        · rw [i4 _ _ _ (by omega) (by omega)]; exact (lows b' (by omega)).2
      have M4 : rM h4 m := Mb.of ef
      -- the trees
      have cuts : ∀ r t (h8 : jj_H), t + r = 3 → h8.2.2 = h4.2.2 → (∀ tg a' i, (a' < m + 4 ∨ m + 12 < a') → jI h8 tg a' i = jI h4 tg a' i) → (∀ tg a' i, a' ≠ m + 10 → jL h8 tg a' i = jL h4 tg a' i) → (∀ u, u < t → rTr h8 m (3 * 0 + u) (tree [])) → jj_WP d mX10_init 6 285006 277 [(0, .ref m), (1, .int (nI t))] [] h8 Q := by
        intro r
        induction r with
        | zero =>
          intro t h8 ht f8 i8 l8 lo8
          refine VX10_init_277 _ _ ?_
          simp (disch := omega) only [q_clamp, q_in, nI_leI, nI_ltI, nI_eq, ql_0, qL_0, qt_0, qT_0, qe_0, qc_0, qi_0, ql_1, qL_1, qt_1, qT_1, qe_1, qc_1, qi_1, ql_2, qL_2, qt_2, qT_2, qe_2, qc_2, qi_2, ql_3, qL_3, qt_3, qT_3, qe_3, qc_3, qi_3, ql_4, qL_4, qt_4, qT_4, qe_4, qc_4, qi_4, ql_6, qL_6, qt_6, qT_6, qe_6, qc_6, qi_6, ql_8, qL_8, qt_8, qT_8, qe_8, qc_8, qi_8, ql_10, qL_10, qt_10, qT_10, qe_10, qc_10, qi_10, ql_24, qL_24, qt_24, qT_24, qe_24, qc_24, qi_24, ql_60, qL_60, qt_60, qT_60, qe_60, qc_60, qi_60, ql_100, qL_100, qt_100, qT_100, qe_100, qc_100, qi_100, ql_200, qL_200, qt_200, qT_200, qe_200, qc_200, qi_200, ql_400, qL_400, qt_400, qT_400, qe_400, qc_400, qi_400, ql_600, qL_600, qt_600, qT_600, qe_600, qc_600, qi_600, ql_900, qL_900, qt_900, qT_900, qe_900, qc_900, qi_900, ql_1200, qL_1200, qt_1200, qT_1200, qe_1200, qc_1200, qi_1200, ql_65536, qL_65536, qt_65536, qT_65536, qe_65536, qc_65536, qi_65536]
          refine ⟨fun _ => H h8 ?_ (N4.fr ⟨f8, fun tg a' i p => ⟨i8 _ _ _ (by omega), l8 _ _ _ (by omega)⟩⟩), fun c => by omega⟩
          refine Rr.mk ⟨M4.of f8, fun p hp u hu => (T4 p u).ag fun a' i p1 p2 => i8 _ _ _ (by omega), fun p u hp hu => ?_⟩ (G4.fr (fun tg a' i p q => i8 _ _ _ (by omega)) l8)
          have hp0 : p = 0 := by have : p < 1 := hp; omega
          subst hp0
          exact lo8 u (by omega)
        | succ r ih =>
          intro t h8 ht f8 i8 l8 lo8
          have M8 := M4.of f8
          refine VX10_init_277 _ _ ?_
          simp (disch := omega) only [(rM_k M8), (rM_r501 M8), (rM_k1 M8), (rM_n1 M8), (rM_r502 M8), (rM_k2 M8), (rM_n2 M8), (rM_r503 M8), (rM_k3 M8), (rM_n3 M8), (rM_r504 M8), (rM_k4 M8), (rM_n4 M8), (rM_r505 M8), (rM_k5 M8), (rM_n5 M8), (rM_r506 M8), (rM_k6 M8), (rM_n6 M8), (rM_r507 M8), (rM_k7 M8), (rM_n7 M8), (rM_r508 M8), (rM_k8 M8), (rM_n8 M8), (rM_r509 M8), (rM_k9 M8), (rM_n9 M8), (rM_r510 M8), (rM_k10 M8), (rM_n10 M8), (rM_r511 M8), (rM_k11 M8), (rM_n11 M8), (rM_r512 M8), (rM_k12 M8), (rM_n12 M8), (rM_r515 M8), (rM_k13 M8), (rM_n13 M8), (rM_r516 M8), (rM_k14 M8), (rM_n14 M8), (rM_r517 M8), (rM_k15 M8), (rM_n15 M8), (rM_r518 M8), (rM_k16 M8), (rM_n16 M8), (rM_r524 M8), (rM_k17 M8), (rM_n17 M8), (rM_r525 M8), (rM_k18 M8), (rM_n18 M8), (rM_r526 M8), (rM_k19 M8), (rM_n19 M8), (rM_r528 M8), (rM_k20 M8), (rM_n20 M8), (rM_r529 M8), (rM_k21 M8), (rM_n21 M8), (rM_r531 M8), (rM_k22 M8), (rM_n22 M8), (rM_r532 M8), (rM_k23 M8), (rM_n23 M8), (rM_r533 M8), (rM_k24 M8), (rM_n24 M8), qm_3, qm_4, qm_16, qm_600, qm_200, qm_8, qn_210, qn_3, qa_0, qb_0, qa_1, qb_1, qa_2, qb_2, qa_3, qb_3, qa_4, qb_4, qa_16, qb_16, qa_180, qb_180, qs_1, qs_2, qs_3, qs_4, qs_6, qs_24, nI_add, q_sub, q_pred, q_clamp, q_in, nI_leI, nI_ltI, nI_eq, ql_0, qL_0, qt_0, qT_0, qe_0, qc_0, qi_0, ql_1, qL_1, qt_1, qT_1, qe_1, qc_1, qi_1, ql_2, qL_2, qt_2, qT_2, qe_2, qc_2, qi_2, ql_3, qL_3, qt_3, qT_3, qe_3, qc_3, qi_3, ql_4, qL_4, qt_4, qT_4, qe_4, qc_4, qi_4, ql_6, qL_6, qt_6, qT_6, qe_6, qc_6, qi_6, ql_8, qL_8, qt_8, qT_8, qe_8, qc_8, qi_8, ql_10, qL_10, qt_10, qT_10, qe_10, qc_10, qi_10, ql_24, qL_24, qt_24, qT_24, qe_24, qc_24, qi_24, ql_60, qL_60, qt_60, qT_60, qe_60, qc_60, qi_60, ql_100, qL_100, qt_100, qT_100, qe_100, qc_100, qi_100, ql_200, qL_200, qt_200, qT_200, qe_200, qc_200, qi_200, ql_400, qL_400, qt_400, qT_400, qe_400, qc_400, qi_400, ql_600, qL_600, qt_600, qT_600, qe_600, qc_600, qi_600, ql_900, qL_900, qt_900, qT_900, qe_900, qc_900, qi_900, ql_1200, qL_1200, qt_1200, qT_1200, qe_1200, qc_1200, qi_1200, ql_65536, qL_65536, qt_65536, qT_65536, qe_65536, qc_65536, qi_65536, true_and, and_true, eq_self, forall_eq, forall_eq_apply_imp_iff]
          refine ⟨fun c => by omega, fun _ => ?_⟩
          have T8 : rTb h8 m 0 t [] := (T4 0 t).ag fun a' i p1 p2 => i8 _ _ _ (by omega)
          refine s_cut (s := 0) M8 (by omega) (by omega) T8 fun h9 T9 F9 => ?_
          refine ih (t + 1) h9 (by omega) (F9.1.trans f8) (fun tg a' i p => (F9.2.1 _ _ _ p).trans (i8 _ _ _ p)) (fun tg a' i p => (F9.2.2.2.2 _ _ _ (fun q => p q.1)).trans (l8 _ _ _ p)) fun u hu => ?_
          by_cases e : u = t
          · rw [e]; exact T9
          · exact F9.tr (by omega) (by have := (tree_len [] (by simp)).1; omega) (lo8 u (by omega))
      exact cuts 3 0 h4 (by omega) rfl (fun _ _ _ _ => rfl) (fun _ _ _ _ => rfl) (fun u hu => by omega)
    | succ r ih =>
      intro b hb h6 f1 f2 lows
      have Mb : rM hb m := M.of (by rw [f1])
      refine VX10_init_220 _ _ ?_
      have nxt : ∀ v : Int32, v = s0.hd b → jj_WP d mX10_init 6 285006 220 [(0, .ref m), (1, .int (nI (b + 1)))] [] (wI (wI hb 1000 (m + 16) b v) 1000 (m + 22) b (-1)) Q := by
        intro v hv
        refine ih (b + 1) _ (by omega) f1 (fun tg a i p q => by rw [jI_wI, if_neg (by omega), jI_wI, if_neg (by omega)]; exact f2 tg a i p q) fun x hx => ?_
        by_cases e : x = b
        · rw [e]
          refine ⟨?_, ?_⟩
          · rw [jI_wI, if_neg (by omega), jI_wI, if_pos ⟨rfl, rfl, rfl⟩]; exact hv
          · rw [jI_wI, if_pos ⟨rfl, rfl, rfl⟩]
        · have := lows x (by omega)
          refine ⟨?_, ?_⟩
          · rw [jI_wI, if_neg (by omega), jI_wI, if_neg (by omega)]; exact this.1
          · rw [jI_wI, if_neg (by omega), jI_wI, if_neg (by omega)]; exact this.2
      simp (disch := omega) only [(rM_k Mb), (rM_r501 Mb), (rM_k1 Mb), (rM_n1 Mb), (rM_r502 Mb), (rM_k2 Mb), (rM_n2 Mb), (rM_r503 Mb), (rM_k3 Mb), (rM_n3 Mb), (rM_r504 Mb), (rM_k4 Mb), (rM_n4 Mb), (rM_r505 Mb), (rM_k5 Mb), (rM_n5 Mb), (rM_r506 Mb), (rM_k6 Mb), (rM_n6 Mb), (rM_r507 Mb), (rM_k7 Mb), (rM_n7 Mb), (rM_r508 Mb), (rM_k8 Mb), (rM_n8 Mb), (rM_r509 Mb), (rM_k9 Mb), (rM_n9 Mb), (rM_r510 Mb), (rM_k10 Mb), (rM_n10 Mb), (rM_r511 Mb), (rM_k11 Mb), (rM_n11 Mb), (rM_r512 Mb), (rM_k12 Mb), (rM_n12 Mb), (rM_r515 Mb), (rM_k13 Mb), (rM_n13 Mb), (rM_r516 Mb), (rM_k14 Mb), (rM_n14 Mb), (rM_r517 Mb), (rM_k15 Mb), (rM_n15 Mb), (rM_r518 Mb), (rM_k16 Mb), (rM_n16 Mb), (rM_r524 Mb), (rM_k17 Mb), (rM_n17 Mb), (rM_r525 Mb), (rM_k18 Mb), (rM_n18 Mb), (rM_r526 Mb), (rM_k19 Mb), (rM_n19 Mb), (rM_r528 Mb), (rM_k20 Mb), (rM_n20 Mb), (rM_r529 Mb), (rM_k21 Mb), (rM_n21 Mb), (rM_r531 Mb), (rM_k22 Mb), (rM_n22 Mb), (rM_r532 Mb), (rM_k23 Mb), (rM_n23 Mb), (rM_r533 Mb), (rM_k24 Mb), (rM_n24 Mb), qm_3, qm_4, qm_16, qm_600, qm_200, qm_8, qn_210, qn_3, qa_0, qb_0, qa_1, qb_1, qa_2, qb_2, qa_3, qb_3, qa_4, qb_4, qa_16, qb_16, qa_180, qb_180, qs_1, qs_2, qs_3, qs_4, qs_6, qs_24, nI_add, q_sub, q_pred, q_clamp, q_in, nI_leI, nI_ltI, nI_eq, ql_0, qL_0, qt_0, qT_0, qe_0, qc_0, qi_0, ql_1, qL_1, qt_1, qT_1, qe_1, qc_1, qi_1, ql_2, qL_2, qt_2, qT_2, qe_2, qc_2, qi_2, ql_3, qL_3, qt_3, qT_3, qe_3, qc_3, qi_3, ql_4, qL_4, qt_4, qT_4, qe_4, qc_4, qi_4, ql_6, qL_6, qt_6, qT_6, qe_6, qc_6, qi_6, ql_8, qL_8, qt_8, qT_8, qe_8, qc_8, qi_8, ql_10, qL_10, qt_10, qT_10, qe_10, qc_10, qi_10, ql_24, qL_24, qt_24, qT_24, qe_24, qc_24, qi_24, ql_60, qL_60, qt_60, qT_60, qe_60, qc_60, qi_60, ql_100, qL_100, qt_100, qT_100, qe_100, qc_100, qi_100, ql_200, qL_200, qt_200, qT_200, qe_200, qc_200, qi_200, ql_400, qL_400, qt_400, qT_400, qe_400, qc_400, qi_400, ql_600, qL_600, qt_600, qT_600, qe_600, qc_600, qi_600, ql_900, qL_900, qt_900, qT_900, qe_900, qc_900, qi_900, ql_1200, qL_1200, qt_1200, qT_1200, qe_1200, qc_1200, qi_1200, ql_65536, qL_65536, qt_65536, qT_65536, qe_65536, qc_65536, qi_65536, true_and, and_true, eq_self, forall_eq, forall_eq_apply_imp_iff, jR_wI]
      refine ⟨fun c => by omega, fun _ => ⟨fun c => nxt _ ?_, fun c => nxt _ ?_⟩⟩
      · show -1 = if b = 0 then 0 else -1; rw [if_neg c]
      · show 0 = if b = 0 then 0 else -1; rw [if_pos c]
  exact heads 6 0 h24 (by omega) rfl (fun _ _ _ _ _ => rfl) (fun x hx => by omega)
