/-! the class: a table of the work and its nodes; the table at b, its rows at b + 1, their words at b + 2, its nodes at b + 3, its starts at b + 4 -/
def bT (h : jj_H) (b : Nat) : Prop := jK h b = 8 ∧ jR h 350 b 0 = b + 1 ∧ jR h 351 b 0 = b + 3 ∧ jR h 352 b 0 = b + 4 ∧ jK h (b + 1) = 7 ∧ jR h 300 (b + 1) 0 = b + 2 ∧ jK h (b + 2) = 21 ∧ jN h (b + 2) = 800 ∧ jK h (b + 3) = 25 ∧ jN h (b + 3) = 202 ∧ jK h (b + 4) = 21 ∧ jN h (b + 4) = 9
def nA (h : jj_H) (b : Nat) : Prop := (∀ i, i < 202 → jR h 1000 (b + 3) i = 0 ∨ jK h (jR h 1000 (b + 3) i) = 4) ∧ ∀ i j, i < 202 → j < 202 → jR h 1000 (b + 3) i = jR h 1000 (b + 3) j → jR h 1000 (b + 3) i = 0 ∨ i = j
def isN (h : jj_H) (b a : Nat) : Prop := ∃ i, i < 202 ∧ jR h 1000 (b + 3) i = a
theorem nA.no {h : jj_H} {b a : Nat} (A : nA h b) (h1 : jK h a ≠ 4) (h0 : a ≠ 0) : ¬ isN h b a := by
  rintro ⟨i, hi, e⟩
  rcases A.1 i hi with q | q
  · rw [e] at q; exact h0 q
  · rw [e] at q; exact h1 q
/-- the table's nodes, levels, starts and one array u have changed, and new nodes have come -/
def bF (h h' : jj_H) (b u : Nat) : Prop := jZ h ≤ jZ h' ∧ (∀ a, a ≤ jZ h → jK h' a = jK h a ∧ jN h' a = jN h a) ∧ (∀ tg a i, a ≤ jZ h → ¬ isN h b a → ¬ (a = b ∧ (tg = 353 ∨ tg = 354)) → ¬ (tg = 1000 ∧ (a = b + 4 ∨ a = u)) → jI h' tg a i = jI h tg a i) ∧ (∀ tg a i, a ≤ jZ h → ¬ isN h b a → jL h' tg a i = jL h tg a i) ∧ (∀ tg a i, a ≤ jZ h → ¬ isN h b a → ¬ (tg = 1000 ∧ a = b + 3) → jR h' tg a i = jR h tg a i) ∧ (∀ i, i < 202 → jR h' 1000 (b + 3) i = jR h 1000 (b + 3) i ∨ (jR h 1000 (b + 3) i = 0 ∧ jZ h < jR h' 1000 (b + 3) i))
theorem bF.rf {h : jj_H} {b u : Nat} : bF h h b u := ⟨Nat.le_refl _, fun _ _ => ⟨rfl, rfl⟩, fun _ _ _ _ _ _ _ => rfl, fun _ _ _ _ _ => rfl, fun _ _ _ _ _ _ => rfl, fun _ _ => Or.inl rfl⟩
theorem bF.isN {h h' : jj_H} {b u a : Nat} (F : bF h h' b u) (ha : a ≤ jZ h) (hn : ¬ isN h b a) : ¬ isN h' b a := by
  rintro ⟨i, hi, e⟩
  rcases F.2.2.2.2.2 i hi with q | q
  · exact hn ⟨i, hi, q.symm.trans e⟩
  · omega
theorem bF.trans {h h1 h2 : jj_H} {b u : Nat} (p : bF h h1 b u) (q : bF h1 h2 b u) : bF h h2 b u := by
  refine ⟨Nat.le_trans p.1 q.1, fun a ha => ?_, fun tg a i ha hn c1 c2 => ?_, fun tg a i ha hn => ?_, fun tg a i ha hn c => ?_, fun i hi => ?_⟩
  · have := p.1
    have x := p.2.1 a ha
    have y := q.2.1 a (by omega)
    exact ⟨y.1.trans x.1, y.2.trans x.2⟩
  · exact (q.2.2.1 tg a i (by have := p.1; omega) (p.isN ha hn) c1 c2).trans (p.2.2.1 tg a i ha hn c1 c2)
  · exact (q.2.2.2.1 tg a i (by have := p.1; omega) (p.isN ha hn)).trans (p.2.2.2.1 tg a i ha hn)
  · exact (q.2.2.2.2.1 tg a i (by have := p.1; omega) (p.isN ha hn) c).trans (p.2.2.2.2.1 tg a i ha hn c)
  · have hz := p.1
    rcases q.2.2.2.2.2 i hi with y | y
    · rw [y]; exact p.2.2.2.2.2 i hi
    · rcases p.2.2.2.2.2 i hi with x | x
      · exact Or.inr ⟨x.symm.trans y.1, by omega⟩
      · omega
theorem bF.mono {h h' : jj_H} {b u : Nat} (p : bF h h' b (b + 4)) : bF h h' b u := ⟨p.1, p.2.1, fun tg a i ha hn c1 c2 => p.2.2.1 tg a i ha hn c1 (by omega), p.2.2.2⟩
theorem bT.ex {h : jj_H} {b : Nat} (B : bT h b) (V : jj_V h) : 1 ≤ b ∧ b + 4 ≤ jZ h := by
  have := jV_le V (a := b) (by rw [B.1]; decide)
  have := jV_le V (a := b + 4) (by rw [B.2.2.2.2.2.2.2.2.2.2.1]; decide)
  omega
theorem bF.bT {h h' : jj_H} {b u : Nat} (F : bF h h' b u) (V : jj_V h) (B : bT h b) (A : nA h b) : bT h' b := by
  obtain ⟨e1, e2⟩ := B.ex V
  obtain ⟨a1, a2, a3, a4, a5, a6, a7, a8, a9, a10, a11, a12⟩ := B
  have n0 := A.no (a := b) (by omega) (by omega)
  have n1 := A.no (a := b + 1) (by omega) (by omega)
  refine ⟨?_, ?_, ?_, ?_, ?_, ?_, ?_, ?_, ?_, ?_, ?_, ?_⟩
  · rw [(F.2.1 _ (by omega)).1]; exact a1
  · rw [F.2.2.2.2.1 _ _ _ (by omega) n0 (by omega)]; exact a2
  · rw [F.2.2.2.2.1 _ _ _ (by omega) n0 (by omega)]; exact a3
  · rw [F.2.2.2.2.1 _ _ _ (by omega) n0 (by omega)]; exact a4
  · rw [(F.2.1 _ (by omega)).1]; exact a5
  · rw [F.2.2.2.2.1 _ _ _ (by omega) n1 (by omega)]; exact a6
  · rw [(F.2.1 _ (by omega)).1]; exact a7
  · rw [(F.2.1 _ (by omega)).2]; exact a8
  · rw [(F.2.1 _ (by omega)).1]; exact a9
  · rw [(F.2.1 _ (by omega)).2]; exact a10
  · rw [(F.2.1 _ (by omega)).1]; exact a11
  · rw [(F.2.1 _ (by omega)).2]; exact a12
theorem bF.rw {h h' : jj_H} {b u r w : Nat} {l : List Row} (F : bF h h' b u) (V : jj_V h) (A : nA h b) (hb : jK h b = 8) (R : rwO h r w l) (hw : w ≠ b + 4) (hu : w ≠ u) : rwO h' r w l := by
  obtain ⟨k1, rw_, k2, n1, n2, c1, l1, ws⟩ := R
  have er := jV_le V (a := r) (by omega)
  have ew := jV_le V (a := w) (by omega)
  have nr := A.no (a := r) (by omega) (by omega)
  have nw := A.no (a := w) (by omega) (by omega)
  have hrb : r ≠ b := fun e => by rw [e] at k1; omega
  refine ⟨?_, ?_, ?_, ?_, ?_, ?_, l1, fun i x c hx hc => ?_⟩
  · rw [(F.2.1 _ (by omega)).1]; exact k1
  · rw [F.2.2.2.2.1 _ _ _ (by omega) nr (by omega)]; exact rw_
  · rw [(F.2.1 _ (by omega)).1]; exact k2
  · rw [(F.2.1 _ (by omega)).2]; exact n1
  · rw [(F.2.1 _ (by omega)).2]; exact n2
  · rw [F.2.2.1 _ _ _ (by omega) nr (by omega) (by omega)]; exact c1
  · rw [F.2.2.1 _ _ _ (by omega) nw (by omega) (by omega)]; exact ws i x c hx hc
theorem bF.es {h h' : jj_H} {b u wa : Nat} {es : List Row} (F : bF h h' b u) (V : jj_V h) (A : nA h b) (E : esO h wa es) (hw : wa ≠ b + 4) (hu : wa ≠ u) : esO h' wa es := by
  obtain ⟨k1, n1, n2, n3, ws⟩ := E
  have ew := jV_le V (a := wa) (by omega)
  have nw := A.no (a := wa) (by omega) (by omega)
  refine ⟨?_, ?_, ?_, n3, fun i x c hx hc => ?_⟩
  · rw [(F.2.1 _ (by omega)).1]; exact k1
  · rw [(F.2.1 _ (by omega)).2]; exact n1
  · rw [(F.2.1 _ (by omega)).2]; exact n2
  · rw [F.2.2.1 _ _ _ (by omega) nw (by omega) (by omega)]; exact ws i x c hx hc
def setN (h : jj_H) (a r : Nat) (lv f b e : Int32) (hs : Int64) : jj_H := wL (wI (wI (wI (wI (wR h 150 a 0 r) 151 a 0 lv) 152 a 0 f) 153 a 0 b) 154 a 0 e) 155 a 0 hs
theorem jI_setN {h : jj_H} {a r : Nat} {lv f b e : Int32} {hs : Int64} {tg a' i : Nat} (ha : a' ≠ a) : jI (setN h a r lv f b e hs) tg a' i = jI h tg a' i := by
  unfold setN
  rw [jI_wL, jI_wI, if_neg (by omega), jI_wI, if_neg (by omega), jI_wI, if_neg (by omega), jI_wI, if_neg (by omega), jI_wR]
theorem jL_setN {h : jj_H} {a r : Nat} {lv f b e : Int32} {hs : Int64} {tg a' i : Nat} (ha : a' ≠ a) : jL (setN h a r lv f b e hs) tg a' i = jL h tg a' i := by
  unfold setN
  rw [jL_wL, if_neg (by omega)]
  rfl
theorem jR_setN {h : jj_H} {a r : Nat} {lv f b e : Int32} {hs : Int64} {tg a' i : Nat} (ha : ¬ (tg = 150 ∧ a' = a)) : jR (setN h a r lv f b e hs) tg a' i = jR h tg a' i := by
  unfold setN
  show jR (wR h 150 a 0 r) tg a' i = _
  rw [jR_wR, if_neg (by omega)]
theorem c_setN {h : jj_H} {Q : Value → jj_H → Prop} {a r : Nat} {lv f b e : Int32} {hs : Int64} (k : jK h a = 4) (H : Q (.int 0) (setN h a r lv f b e hs)) : jj_C mX3_set 0 0 [.ref a, .ref r, .int lv, .int f, .int b, .int e, .long hs] h Q := by
  refine EX3_set _ _ _ _ _ _ _ fun d => ⟨k, ?_⟩
  rintro _ rfl _ rfl _ rfl _ rfl _ rfl _ rfl
  exact H
/-- what holds of the work's nodes -/
def Sw (b : Nat) : Nat → Nat → Nat → NK → Prop := fun _ r w _ => r = b + 1 ∧ w = b + 2
theorem ndO.fr {h h' : jj_H} {a r w e : Nat} {k : NK} (N : ndO h a r w k e) (R : ∀ l, rwO h r w l → rwO h' r w l) (e1 : jK h' a = jK h a) (e2 : jR h' 150 a 0 = jR h 150 a 0) (e3 : ∀ tg, 151 ≤ tg → tg ≤ 154 → jI h' tg a 0 = jI h tg a 0) (e4 : jL h' 155 a 0 = jL h 155 a 0) : ndO h' a r w k e := by
  obtain ⟨n1, n2, n3, n4, n5, n6, n7, n8, l, f, R', f1, f2⟩ := N
  exact ⟨e1.trans n1, e2.trans n2, n3, (e3 _ (by decide) (by decide)).trans n4, n5, (e3 _ (by decide) (by decide)).trans n6, (e3 _ (by decide) (by decide)).trans n7, e4.trans n8, l, f, R l R', (e3 _ (by decide) (by decide)).trans f1, f2⟩
theorem off_last (X : List (List Nd)) (P : List Nd) : off (X ++ [P]) (X.length + 1) = (flat X).length + P.length := by
  rw [off_succ (ns := P) (by simp)]
  unfold off
  rw [List.take_left]
theorem off_lt (X : List (List Nd)) (P P' : List Nd) {lv : Nat} (h : lv ≤ X.length) : off (X ++ [P]) lv = off (X ++ [P']) lv := by
  unfold off
  rw [List.take_append_of_le_length h, List.take_append_of_le_length h]
theorem flat_last (X : List (List Nd)) (P : List Nd) : flat (X ++ [P]) = flat X ++ P := by unfold flat; simp
section JD
variable {b : Nat} {l : List Row} {X : List (List Nd)} {P : List Nd} {h : jj_H} {Q : Value → jj_H → Prop}
theorem c_add46 {d : jj_D} {bc bs : Nat} {nd : Nd} (V : jj_V h) (B : bT h b) (A : nA h b) (T : tbX (Sw b) h b (b + 3) (b + 4) l (X ++ [P])) (R : rwO h (b + 1) (b + 2) l) (hc : (flat X).length + P.length < 202) (h1 : nd.1 = X.length) (h2 : nd.2.2.1 + nd.2.2.2.1 ≤ l.length) (h3 : nd.2.2.2.1 = 0 → nd.2.2.1 = 0) (hnz : jR h 1000 (b + 3) ((flat X).length + P.length) ≠ 0) (H : ∀ h', nA h' b → tbX (Sw b) h' b (b + 3) (b + 4) l (X ++ [P ++ [nd]]) → bF h h' b (b + 4) → Q (.int 0) h') : jj_WP d mX7_addNode bc bs 46 [(0, .ref b), (1, .int (nI nd.2.2.1)), (2, .int (nI nd.2.2.2.1)), (3, .int (nI nd.2.1)), (4, .long nd.2.2.2.2), (6, .int (nI ((flat X).length + P.length)))] [] h Q := by
  obtain ⟨b1, b2⟩ := B.ex V
  obtain ⟨a1, a2, a3, a4, a5, a6, a7, a8, a9, a10, a11, a12⟩ := id B
  obtain ⟨_, _, _, _, _, t6, t7, t8, t9, t10, t11, t12⟩ := T
  have hxl : (X ++ [P]).length = X.length + 1 := by simp
  rw [hxl] at t6 t10 t11
  have ll := R.2.2.2.2.2.2.1
  generalize hat : (flat X).length + P.length = at_ at *
  have ka : jK h (jR h 1000 (b + 3) at_) = 4 := (A.1 at_ hc).resolve_left hnz
  generalize ha : jR h 1000 (b + 3) at_ = a at *
  have ab : a ≠ b := fun e => by rw [e] at ka; omega
  have ab1 : a ≠ b + 1 := fun e => by rw [e] at ka; omega
  have ab2 : a ≠ b + 2 := fun e => by rw [e] at ka; omega
  have ab3 : a ≠ b + 3 := fun e => by rw [e] at ka; omega
  have ab4 : a ≠ b + 4 := fun e => by rw [e] at ka; omega
  refine VX7_addNode_46 _ _ _ _ _ _ ?_
  simp (disch := omega) only [a1, a2, a3, a9, a10, t10, qm_3, qm_4, qm_16, qm_600, qm_200, qm_8, qn_210, qn_3, qa_0, qb_0, qa_1, qb_1, qa_2, qb_2, qa_3, qb_3, qa_4, qb_4, qa_16, qb_16, qa_180, qb_180, qs_1, qs_2, qs_3, qs_4, qs_6, qs_24, nI_add, q_sub, q_pred, q_clamp, q_in, nI_leI, nI_ltI, nI_eq, ql_0, qL_0, qt_0, qT_0, qe_0, qc_0, qi_0, ql_1, qL_1, qt_1, qT_1, qe_1, qc_1, qi_1, ql_2, qL_2, qt_2, qT_2, qe_2, qc_2, qi_2, ql_3, qL_3, qt_3, qT_3, qe_3, qc_3, qi_3, ql_4, qL_4, qt_4, qT_4, qe_4, qc_4, qi_4, ql_6, qL_6, qt_6, qT_6, qe_6, qc_6, qi_6, ql_8, qL_8, qt_8, qT_8, qe_8, qc_8, qi_8, ql_10, qL_10, qt_10, qT_10, qe_10, qc_10, qi_10, ql_24, qL_24, qt_24, qT_24, qe_24, qc_24, qi_24, ql_60, qL_60, qt_60, qT_60, qe_60, qc_60, qi_60, ql_100, qL_100, qt_100, qT_100, qe_100, qc_100, qi_100, ql_200, qL_200, qt_200, qT_200, qe_200, qc_200, qi_200, ql_400, qL_400, qt_400, qT_400, qe_400, qc_400, qi_400, ql_600, qL_600, qt_600, qT_600, qe_600, qc_600, qi_600, ql_900, qL_900, qt_900, qT_900, qe_900, qc_900, qi_900, ql_1200, qL_1200, qt_1200, qT_1200, qe_1200, qc_1200, qi_1200, ql_65536, qL_65536, qt_65536, qT_65536, qe_65536, qc_65536, qi_65536, ha, ka, true_and, and_true, eq_self, forall_eq, forall_eq_apply_imp_iff]
  refine c_setN ka ?_
  rw [show X.length + 1 - 1 = X.length by omega]
  have i353 : jI (setN h a (b + 1) (nI X.length) (nI nd.2.2.1) (nI nd.2.2.2.1) (nI nd.2.1) nd.2.2.2.2) 353 b 0 = nI (X.length + 1) := by rw [jI_setN (by omega)]; exact t10
  have r352 : jR (setN h a (b + 1) (nI X.length) (nI nd.2.2.1) (nI nd.2.2.2.1) (nI nd.2.1) nd.2.2.2.2) 352 b 0 = b + 4 := by rw [jR_setN (by omega)]; exact a4
  refine ⟨a1, ?_⟩
  rw [r352, i353]
  refine ⟨a11, ?_, ?_⟩
  · show vp_in _ (jN h (b + 4))
    rw [a12]
    exact vp_in_nI (by omega) (by decide)
  rw [q_clamp (by omega)]
  have nd' : ndO (wI (setN h a (b + 1) (nI X.length) (nI nd.2.2.1) (nI nd.2.2.2.1) (nI nd.2.1) nd.2.2.2.2) 1000 (b + 4) (X.length + 1) (nI (at_ + 1))) a (b + 1) (b + 2) (nk l nd) nd.2.1 := by
    have hlen : (nk l nd).2.2.length = nd.2.2.2.1 := by simp [nk]; omega
    refine ⟨ka, ?_, by omega, ?_, by show nd.1 < 1000; omega, ?_, ?_, ?_, l, nd.2.2.1, ⟨a5, ?_, a7, ?_, ?_, ?_, ll, ?_⟩, ?_, ?_, ?_, ?_⟩
    · show jR (setN _ _ _ _ _ _ _ _) 150 a 0 = b + 1
      unfold setN
      show jR (wR h 150 a 0 (b + 1)) 150 a 0 = _
      rw [jR_wR, if_pos ⟨rfl, rfl, rfl⟩]
    · rw [jI_wI, if_neg (by omega)]; unfold setN
      rw [jI_wL, jI_wI, if_neg (by omega), jI_wI, if_neg (by omega), jI_wI, if_neg (by omega), jI_wI, if_pos ⟨rfl, rfl, rfl⟩, ← h1]; rfl
    · rw [jI_wI, if_neg (by omega), hlen]; unfold setN
      rw [jI_wL, jI_wI, if_neg (by omega), jI_wI, if_pos ⟨rfl, rfl, rfl⟩]
    · rw [jI_wI, if_neg (by omega)]; unfold setN
      rw [jI_wL, jI_wI, if_pos ⟨rfl, rfl, rfl⟩]
    · rw [jL_wI]; unfold setN
      rw [jL_wL, if_pos ⟨rfl, rfl, rfl⟩]; rfl
    · show jR (setN _ _ _ _ _ _ _ _) 300 (b + 1) 0 = b + 2
      rw [jR_setN (by omega)]; exact a6
    · exact R.2.2.2.1
    · exact R.2.2.2.2.1
    · rw [jI_wI, if_neg (by omega), jI_setN (by omega)]; exact R.2.2.2.2.2.1
    · intro i x c hx hc
      rw [jI_wI, if_neg (by omega), jI_setN (by omega)]; exact R.2.2.2.2.2.2.2 i x c hx hc
    · rw [jI_wI, if_neg (by omega)]; unfold setN
      rw [jI_wL, jI_wI, if_neg (by omega), jI_wI, if_neg (by omega), jI_wI, if_pos ⟨rfl, rfl, rfl⟩]
    · rw [hlen]; exact h2
    · rw [hlen]; rfl
    · rw [hlen]; exact h3
  have RR : ∀ l', rwO h (b + 1) (b + 2) l' → rwO (wI (setN h a (b + 1) (nI X.length) (nI nd.2.2.1) (nI nd.2.2.2.1) (nI nd.2.1) nd.2.2.2.2) 1000 (b + 4) (X.length + 1) (nI (at_ + 1))) (b + 1) (b + 2) l' := by
    rintro l' ⟨z1, z2, z3, z4, z5, z6, z7, z8⟩
    refine ⟨z1, ?_, z3, z4, z5, ?_, z7, fun i x c hx hc => ?_⟩
    · show jR (setN _ _ _ _ _ _ _ _) 300 (b + 1) 0 = b + 2
      rw [jR_setN (by omega)]; exact z2
    · rw [jI_wI, if_neg (by omega), jI_setN (by omega)]; exact z6
    · rw [jI_wI, if_neg (by omega), jI_setN (by omega)]; exact z8 i x c hx hc
  have rb3 : ∀ i, jR (wI (setN h a (b + 1) (nI X.length) (nI nd.2.2.1) (nI nd.2.2.2.1) (nI nd.2.1) nd.2.2.2.2) 1000 (b + 4) (X.length + 1) (nI (at_ + 1))) 1000 (b + 3) i = jR h 1000 (b + 3) i := fun i => by
    show jR (setN _ _ _ _ _ _ _ _) 1000 (b + 3) i = _
    rw [jR_setN (by omega)]
  refine H _ ?_ ?_ ?_
  · refine ⟨fun i hi => ?_, fun i j hi hj => ?_⟩
    · rw [rb3]; exact A.1 i hi
    · rw [rb3, rb3]; exact A.2 i j hi hj
  · have hxl2 : (X ++ [P ++ [nd]]).length = X.length + 1 := by simp
    have hfl : (flat (X ++ [P ++ [nd]])).length = at_ + 1 := by rw [flat_last, List.length_append, List.length_append, List.length_singleton]; omega
    refine ⟨a1, ?_, ?_, a9, a11, ?_, t7, ?_, t9, ?_, ?_, ?_⟩
    · show jR (setN _ _ _ _ _ _ _ _) 351 b 0 = _
      rw [jR_setN (by omega)]; exact a3
    · exact r352
    · rw [hxl2]; exact t6
    · rw [hfl]; show at_ + 1 ≤ jN h (b + 3); omega
    · rw [jI_wI, if_neg (by omega), jI_setN (by omega), hxl2]; exact t10
    · intro lv hlv
      rw [hxl2] at hlv
      rw [jI_wI]
      by_cases e : lv = X.length + 1
      · rw [if_pos ⟨rfl, rfl, e⟩, e, off_last, List.length_append, List.length_singleton]
        congr 1
        omega
      · rw [if_neg (by omega), jI_setN (by omega), t11 lv hlv, off_lt X P (P ++ [nd]) (by omega)]
    · intro i nd2 hi
      rw [rb3]
      rw [flat_last, ← List.append_assoc] at hi
      have hfp : (flat X ++ P).length = at_ := by rw [List.length_append]; omega
      by_cases e : i < at_
      · rw [List.getElem?_append_left (by omega)] at hi
        rw [← flat_last] at hi
        obtain ⟨r, w, sw, N⟩ := t12 i nd2 hi
        obtain ⟨rfl, rfl⟩ := id sw
        have hne : jR h 1000 (b + 3) i ≠ a := by
          intro q
          rcases A.2 i at_ (by omega) hc (by rw [ha]; exact q) with z | z
          · rw [q] at z; exact hnz z
          · omega
        have hne4 : jR h 1000 (b + 3) i ≠ b + 4 := fun q => by have := N.1; rw [q] at this; omega
        exact ⟨_, _, sw, N.fr RR rfl (by show jR (setN _ _ _ _ _ _ _ _) 150 _ 0 = _; rw [jR_setN (by omega)]) (fun tg p1 p2 => by rw [jI_wI, if_neg (by omega), jI_setN hne]) (by rw [jL_wI, jL_setN hne])⟩
      · have hi2 := (List.getElem?_eq_some_iff.mp hi).1
        rw [List.length_append, List.length_singleton] at hi2
        have e2 : i = at_ := by omega
        rw [List.getElem?_append_right (by omega), hfp, e2, Nat.sub_self] at hi
        cases hi
        rw [e2, ha]
        exact ⟨_, _, ⟨rfl, rfl⟩, nd'⟩
  · refine ⟨Nat.le_refl _, fun _ _ => ⟨rfl, rfl⟩, fun tg a' i ha' hn c1 c2 => ?_, fun tg a' i ha' hn => ?_, fun tg a' i ha' hn c => ?_, fun i hi => Or.inl (rb3 i)⟩
    · have : a' ≠ a := fun e => hn ⟨at_, hc, by rw [ha, e]⟩
      rw [jI_wI, if_neg (by omega), jI_setN this]
    · have : a' ≠ a := fun e => hn ⟨at_, hc, by rw [ha, e]⟩
      rw [jL_wI, jL_setN this]
    · have : a' ≠ a := fun e => hn ⟨at_, hc, by rw [ha, e]⟩
      show jR (setN _ _ _ _ _ _ _ _) tg a' i = _
      rw [jR_setN (by omega)]
end JD
