/-! the nodes of a tree -/
theorem lvs_at (l : List Row) : ∀ (k lv : Nat) (es : List Row) (fb : Nat → Nat × Nat), fbC fb es.length l.length → ∀ (j : Nat) (ns : List Nd), (lvs l k lv es fb)[j]? = some ns → ∃ es' fb', ns = levN (lv + j) es' fb' ∧ fbC fb' es'.length l.length ∧ (es'.length = 0 → es.length = 0) := by
  intro k
  induction k with
  | zero => intro lv es fb _ j ns h; simp [lvs] at h
  | succ k ih =>
    intro lv es fb C j ns h
    rw [lvs] at h
    by_cases hh : 1 < (levN lv es fb).length
    · rw [if_pos hh] at h
      have h0 : es.length ≠ 0 := by intro q; unfold levN at hh; rw [if_pos q] at hh; simp at hh
      cases j with
      | zero => simp at h; exact ⟨es, fb, h.symm, C, id⟩
      | succ j =>
        simp only [List.getElem?_cons_succ] at h
        obtain ⟨es', fb', e1, e2, e3⟩ := ih (lv + 1) _ _ (by rw [List.length_map]; exact fbC_next C h0) j ns h
        refine ⟨es', fb', by rw [e1]; congr 1; omega, e2, fun q => ?_⟩
        have := e3 q
        rw [List.length_map] at this
        omega
    · rw [if_neg hh] at h
      cases j with
      | zero => simp at h; exact ⟨es, fb, h.symm, C, id⟩
      | succ j => simp at h
/-- one level of the tree of l -/
def lvOk (l : List Row) (lv : Nat) (ns : List Nd) : Prop := (∀ nd ∈ ns, nd.1 = lv ∧ nd.2.2.1 + nd.2.2.2.1 ≤ l.length ∧ (l.length ≠ 0 → 1 ≤ nd.2.2.2.1)) ∧ (l.length ≠ 0 → ∀ (j : Nat) (nd nd' : Nd), ns[j]? = some nd → ns[j + 1]? = some nd' → nd'.2.2.1 = nd.2.2.1 + nd.2.2.2.1) ∧ 1 ≤ ns.length ∧ (l.length = 0 → ns.length = 1)
theorem tree_at (l : List Row) {lv : Nat} {ns : List Nd} (h : (tree l)[lv]? = some ns) : lvOk l lv ns := by
  obtain ⟨es, fb, e1, C, e3⟩ := lvs_at l _ 0 l _ (fbC_0 _) lv ns h
  rw [Nat.zero_add] at e1
  subst e1
  have hl := (levN_len lv es fb).1
  by_cases h0 : es.length = 0
  · have h00 := e3 h0
    have e : levN lv es fb = [(lv, 0, 0, 0, hsh lv es 0 0)] := by unfold levN; rw [if_pos h0]
    refine ⟨fun nd hnd => ?_, fun q => absurd h00 q, hl, fun _ => by rw [e]; rfl⟩
    rw [e] at hnd
    simp at hnd
    subst hnd
    exact ⟨rfl, Nat.zero_le _, fun q => absurd h00 q⟩
  · have C2 := fbC_next (lv := lv) C h0
    refine ⟨fun nd hnd => ?_, fun _ j nd nd' h1 h2 => ?_, hl, fun q => ?_⟩
    · obtain ⟨j, hj⟩ := List.getElem?_of_mem hnd
      have hjl := (List.getElem?_eq_some_iff.mp hj).1
      have := C2.1 j hjl
      rw [fbN_at hj] at this
      obtain ⟨q, _, e⟩ := levN_at h0 hj
      exact ⟨by rw [e]; rfl, this.2, fun _ => this.1⟩
    · have := C2.2 j (List.getElem?_eq_some_iff.mp h2).1
      rw [fbN_at h1, fbN_at h2] at this
      exact this
    · have := (C.1 0 (by omega)).1
      have := (C.1 0 (by omega)).2
      omega
theorem tree_nd {l : List Row} (hl : l.length ≤ 200) {nd : Nd} (h : nd ∈ flat (tree l)) : nd.1 < (tree l).length ∧ nd.2.2.1 + nd.2.2.2.1 ≤ l.length ∧ (l.length ≠ 0 → 1 ≤ nd.2.2.2.1) := by
  obtain ⟨ns, h1, h2⟩ := List.mem_flatten.mp h
  obtain ⟨j, hj⟩ := List.getElem?_of_mem h1
  have hjl := (List.getElem?_eq_some_iff.mp hj).1
  have := (tree_at l hj).1 nd h2
  exact ⟨by omega, this.2.1, this.2.2⟩
/-! the reference: isNew -/
def hm (x : Int64) : Nat := (Int64.toInt32 ((Int64.toUInt64 x >>> ((Int32.toInt64 40).toUInt64 &&& Int64.toUInt64 63)).toInt64 ^^^ x)).toBitVec.toNat % 65536
theorem hm_eq (x : Int64) : (Int64.toInt32 ((Int64.toUInt64 x >>> ((Int32.toInt64 40).toUInt64 &&& Int64.toUInt64 63)).toInt64 ^^^ x)) &&& 65535 = nI (hm x) := pk_and _ 16 (by decide)
theorem and16 {p : Nat} (h : p < 65536) : (nI p + 1) &&& 65535 = nI ((p + 1) % 65536) := by
  rw [qa_1]
  exact pk_andN (by omega) 16 (by decide)
def occ (T : Nat → Int32) : Nat → Nat
  | 0 => 0
  | n + 1 => occ T n + (if T n = -1 then 0 else 1)
theorem occ_free {T : Nat → Int32} : ∀ {n : Nat}, occ T n < n → ∃ p, p < n ∧ T p = -1 := by
  intro n
  induction n with
  | zero => intro h; omega
  | succ n ih =>
    intro h
    simp only [occ] at h
    by_cases e : T n = -1
    · exact ⟨n, by omega, e⟩
    · rw [if_neg e] at h
      obtain ⟨p, h1, h2⟩ := ih (by omega)
      exact ⟨p, by omega, h2⟩
theorem occ_set {T T' : Nat → Int32} {q : Nat} (h : ∀ p, p ≠ q → T' p = T p) : ∀ n, occ T' n ≤ occ T n + (if q < n then 1 else 0) := by
  intro n
  induction n with
  | zero => simp [occ]
  | succ n ih =>
    simp only [occ]
    by_cases e : n = q
    · subst e
      simp at ih ⊢
      split <;> split <;> omega
    · rw [h n e]
      have e1 : (q < n + 1) = (q < n) := propext (by omega)
      simp only [e1]
      omega
def tbI (T : Nat → Int32) (S : List Nat) (K : Nat → NK) : Prop :=
  (∀ p, p < 65536 → T p = -1 ∨ ∃ g, T p = nI g ∧ g ∈ S) ∧ (∀ g ∈ S, ∃ d, d < 65536 ∧ T ((hm (K g).2.1 + d) % 65536) = nI g ∧ ∀ e, e < d → T ((hm (K g).2.1 + e) % 65536) ≠ -1) ∧ occ T 65536 ≤ S.length
theorem nI_m1 {g : Nat} (h : g < 2147483648) : nI g ≠ -1 := fun e => by
  have h1 : (nI g < 0) = (g < 0) := qt_0 h
  rw [e] at h1
  have : (-1 : Int32) < 0 := by decide
  rw [h1] at this
  omega
theorem s_isNew {m g : Nat} {S : List Nat} {gn : Nat → List Row × Nd} {h : jj_H} {Q : Value → jj_H → Prop} (M : rM h m) (A : ∀ g', (g' = g ∨ g' ∈ S) → rNo h m g' (gn g').1 (gn g').2) (I : tbI (jI h 1000 (m + 23)) S (fun g => nk (gn g).1 (gn g).2)) (hS : S.length < 65536)
    (H1 : (∀ g' ∈ S, nk (gn g').1 (gn g').2 ≠ nk (gn g).1 (gn g).2) → ∀ q, tbI (jI (wI h 1000 (m + 23) q (nI g)) 1000 (m + 23)) (g :: S) (fun g => nk (gn g).1 (gn g).2) → Q (.int 1) (wI h 1000 (m + 23) q (nI g)))
    (H0 : (∃ g' ∈ S, nk (gn g').1 (gn g').2 = nk (gn g).1 (gn g).2) → Q (.int 0) h) : jj_C mX10_isNew 0 0 [.ref m, .int (nI g)] h Q := by
  refine EX10_isNew _ _ fun d => ?_
  have Ag := A g (Or.inl rfl)
  have hlt : ∀ g', (g' = g ∨ g' ∈ S) → g' < 38430 := fun g' hg => by have := (A g' hg).1; omega
  have hg := hlt g (Or.inl rfl)
  obtain ⟨I1, I2, I3⟩ := I
  have n5 := Ag.2.1.2.2.2.2
  simp (disch := omega) only [(rM_k M), (rM_r501 M), (rM_k1 M), (rM_n1 M), (rM_r502 M), (rM_k2 M), (rM_n2 M), (rM_r503 M), (rM_k3 M), (rM_n3 M), (rM_r504 M), (rM_k4 M), (rM_n4 M), (rM_r505 M), (rM_k5 M), (rM_n5 M), (rM_r506 M), (rM_k6 M), (rM_n6 M), (rM_r507 M), (rM_k7 M), (rM_n7 M), (rM_r508 M), (rM_k8 M), (rM_n8 M), (rM_r509 M), (rM_k9 M), (rM_n9 M), (rM_r510 M), (rM_k10 M), (rM_n10 M), (rM_r511 M), (rM_k11 M), (rM_n11 M), (rM_r512 M), (rM_k12 M), (rM_n12 M), (rM_r515 M), (rM_k13 M), (rM_n13 M), (rM_r516 M), (rM_k14 M), (rM_n14 M), (rM_r517 M), (rM_k15 M), (rM_n15 M), (rM_r518 M), (rM_k16 M), (rM_n16 M), (rM_r524 M), (rM_k17 M), (rM_n17 M), (rM_r525 M), (rM_k18 M), (rM_n18 M), (rM_r526 M), (rM_k19 M), (rM_n19 M), (rM_r528 M), (rM_k20 M), (rM_n20 M), (rM_r529 M), (rM_k21 M), (rM_n21 M), (rM_r531 M), (rM_k22 M), (rM_n22 M), (rM_r532 M), (rM_k23 M), (rM_n23 M), (rM_r533 M), (rM_k24 M), (rM_n24 M), q_clamp, q_in, nI_leI, nI_ltI, nI_eq, ql_0, qL_0, qt_0, qT_0, qe_0, qc_0, qi_0, ql_1, qL_1, qt_1, qT_1, qe_1, qc_1, qi_1, ql_2, qL_2, qt_2, qT_2, qe_2, qc_2, qi_2, ql_3, qL_3, qt_3, qT_3, qe_3, qc_3, qi_3, ql_4, qL_4, qt_4, qT_4, qe_4, qc_4, qi_4, ql_6, qL_6, qt_6, qT_6, qe_6, qc_6, qi_6, ql_8, qL_8, qt_8, qT_8, qe_8, qc_8, qi_8, ql_10, qL_10, qt_10, qT_10, qe_10, qc_10, qi_10, ql_24, qL_24, qt_24, qT_24, qe_24, qc_24, qi_24, ql_60, qL_60, qt_60, qT_60, qe_60, qc_60, qi_60, ql_100, qL_100, qt_100, qT_100, qe_100, qc_100, qi_100, ql_200, qL_200, qt_200, qT_200, qe_200, qc_200, qi_200, ql_400, qL_400, qt_400, qT_400, qe_400, qc_400, qi_400, ql_600, qL_600, qt_600, qT_600, qe_600, qc_600, qi_600, ql_900, qL_900, qt_900, qT_900, qe_900, qc_900, qi_900, ql_1200, qL_1200, qt_1200, qT_1200, qe_1200, qc_1200, qi_1200, ql_65536, qL_65536, qt_65536, qT_65536, qe_65536, qc_65536, qi_65536, n5, true_and, and_true, eq_self, forall_eq, forall_eq_apply_imp_iff]
  rw [hm_eq]
  obtain ⟨p0, hp0, hT0⟩ := occ_free (T := jI h 1000 (m + 23)) (n := 65536) (by omega)
  generalize hT : jI h 1000 (m + 23) = T at *
  have hK : (nk (gn g).1 (gn g).2).2.1 = (gn g).2.2.2.2.2 := rfl
  generalize ha : hm (gn g).2.2.2.2.2 = a
  have ha' : a < 65536 := by rw [← ha]; exact Nat.mod_lt _ (by omega)
  have loop : ∀ r e, e + r = (p0 + 65536 - a) % 65536 → (∀ e', e' < e → T ((a + e') % 65536) ≠ -1 ∧ ∀ g' ∈ S, T ((a + e') % 65536) = nI g' → nk (gn g').1 (gn g').2 ≠ nk (gn g).1 (gn g).2) → jj_WP d mX10_isNew 0 0 21 [(0, .ref m), (1, .int (nI g)), (2, .int (nI ((a + e) % 65536)))] [] h Q := by
    intro r
    induction r with
    | zero =>
      intro e he lo
      refine VX10_isNew_21 _ _ _ ?_
      have e1 : (a + e) % 65536 = p0 := by omega
      simp (disch := omega) only [(rM_k M), (rM_r501 M), (rM_k1 M), (rM_n1 M), (rM_r502 M), (rM_k2 M), (rM_n2 M), (rM_r503 M), (rM_k3 M), (rM_n3 M), (rM_r504 M), (rM_k4 M), (rM_n4 M), (rM_r505 M), (rM_k5 M), (rM_n5 M), (rM_r506 M), (rM_k6 M), (rM_n6 M), (rM_r507 M), (rM_k7 M), (rM_n7 M), (rM_r508 M), (rM_k8 M), (rM_n8 M), (rM_r509 M), (rM_k9 M), (rM_n9 M), (rM_r510 M), (rM_k10 M), (rM_n10 M), (rM_r511 M), (rM_k11 M), (rM_n11 M), (rM_r512 M), (rM_k12 M), (rM_n12 M), (rM_r515 M), (rM_k13 M), (rM_n13 M), (rM_r516 M), (rM_k14 M), (rM_n14 M), (rM_r517 M), (rM_k15 M), (rM_n15 M), (rM_r518 M), (rM_k16 M), (rM_n16 M), (rM_r524 M), (rM_k17 M), (rM_n17 M), (rM_r525 M), (rM_k18 M), (rM_n18 M), (rM_r526 M), (rM_k19 M), (rM_n19 M), (rM_r528 M), (rM_k20 M), (rM_n20 M), (rM_r529 M), (rM_k21 M), (rM_n21 M), (rM_r531 M), (rM_k22 M), (rM_n22 M), (rM_r532 M), (rM_k23 M), (rM_n23 M), (rM_r533 M), (rM_k24 M), (rM_n24 M), q_clamp, q_in, nI_leI, nI_ltI, nI_eq, ql_0, qL_0, qt_0, qT_0, qe_0, qc_0, qi_0, ql_1, qL_1, qt_1, qT_1, qe_1, qc_1, qi_1, ql_2, qL_2, qt_2, qT_2, qe_2, qc_2, qi_2, ql_3, qL_3, qt_3, qT_3, qe_3, qc_3, qi_3, ql_4, qL_4, qt_4, qT_4, qe_4, qc_4, qi_4, ql_6, qL_6, qt_6, qT_6, qe_6, qc_6, qi_6, ql_8, qL_8, qt_8, qT_8, qe_8, qc_8, qi_8, ql_10, qL_10, qt_10, qT_10, qe_10, qc_10, qi_10, ql_24, qL_24, qt_24, qT_24, qe_24, qc_24, qi_24, ql_60, qL_60, qt_60, qT_60, qe_60, qc_60, qi_60, ql_100, qL_100, qt_100, qT_100, qe_100, qc_100, qi_100, ql_200, qL_200, qt_200, qT_200, qe_200, qc_200, qi_200, ql_400, qL_400, qt_400, qT_400, qe_400, qc_400, qi_400, ql_600, qL_600, qt_600, qT_600, qe_600, qc_600, qi_600, ql_900, qL_900, qt_900, qT_900, qe_900, qc_900, qi_900, ql_1200, qL_1200, qt_1200, qT_1200, qe_1200, qc_1200, qi_1200, ql_65536, qL_65536, qt_65536, qT_65536, qe_65536, qc_65536, qi_65536, true_and, and_true, eq_self, forall_eq, forall_eq_apply_imp_iff, hT]
      rw [e1, hT0]
      refine ⟨fun _ => ?_, fun c => absurd (by decide) c⟩
      have no : ∀ g' ∈ S, nk (gn g').1 (gn g').2 ≠ nk (gn g).1 (gn g).2 := by
        intro g' hg' ek
        obtain ⟨d', h1, h2, h3⟩ := I2 g' hg'
        simp only [ek, hK, ha] at h2 h3
        rcases Nat.lt_trichotomy d' e with q | q | q
        · exact (lo d' q).2 g' hg' h2 ek
        · rw [q, e1, hT0] at h2
          exact nI_m1 (by have := hlt g' (Or.inr hg'); omega) h2.symm
        · exact h3 e q (by rw [e1]; exact hT0)
      refine H1 no p0 ?_
      have hT' : ∀ p, jI (wI h 1000 (m + 23) p0 (nI g)) 1000 (m + 23) p = if p = p0 then nI g else T p := fun p => by rw [jI_wI, ← hT]; simp
      refine ⟨fun p hp => ?_, fun g' hg' => ?_, ?_⟩
      · rw [hT']
        by_cases hq : p = p0
        · rw [if_pos hq]; exact Or.inr ⟨g, rfl, by simp⟩
        · rw [if_neg hq]
          rcases I1 p hp with c | ⟨x, c1, c2⟩
          · exact Or.inl c
          · exact Or.inr ⟨x, c1, by simp [c2]⟩
      · rcases List.mem_cons.mp hg' with c | c
        · subst c
          simp only [hK, ha]
          refine ⟨e, by omega, by rw [hT', if_pos e1], fun e' he' => ?_⟩
          rw [hT']
          by_cases hq : (a + e') % 65536 = p0
          · rw [if_pos hq]; exact nI_m1 (by omega)
          · rw [if_neg hq]; exact (lo e' he').1
        · obtain ⟨d', h1, h2, h3⟩ := I2 g' c
          refine ⟨d', h1, ?_, fun e' he' => ?_⟩
          · rw [hT', if_neg, h2]
            intro q
            rw [q, hT0] at h2
            exact nI_m1 (by have := hlt g' (Or.inr c); omega) h2.symm
          · rw [hT']
            split
            · exact nI_m1 (by omega)
            · exact h3 e' he'
      · have := occ_set (T := T) (T' := fun p => jI (wI h 1000 (m + 23) p0 (nI g)) 1000 (m + 23) p) (q := p0) (fun p hp => by simp only [hT', if_neg hp]) 65536
        rw [if_pos hp0] at this
        simp only [List.length_cons]
        have e3 : (fun p => jI (wI h 1000 (m + 23) p0 (nI g)) 1000 (m + 23) p) = jI (wI h 1000 (m + 23) p0 (nI g)) 1000 (m + 23) := rfl
        rw [e3] at this
        omega
    | succ r ih =>
      intro e he lo
      refine VX10_isNew_21 _ _ _ ?_
      have hq : (a + e) % 65536 < 65536 := Nat.mod_lt _ (by omega)
      simp (disch := omega) only [(rM_k M), (rM_r501 M), (rM_k1 M), (rM_n1 M), (rM_r502 M), (rM_k2 M), (rM_n2 M), (rM_r503 M), (rM_k3 M), (rM_n3 M), (rM_r504 M), (rM_k4 M), (rM_n4 M), (rM_r505 M), (rM_k5 M), (rM_n5 M), (rM_r506 M), (rM_k6 M), (rM_n6 M), (rM_r507 M), (rM_k7 M), (rM_n7 M), (rM_r508 M), (rM_k8 M), (rM_n8 M), (rM_r509 M), (rM_k9 M), (rM_n9 M), (rM_r510 M), (rM_k10 M), (rM_n10 M), (rM_r511 M), (rM_k11 M), (rM_n11 M), (rM_r512 M), (rM_k12 M), (rM_n12 M), (rM_r515 M), (rM_k13 M), (rM_n13 M), (rM_r516 M), (rM_k14 M), (rM_n14 M), (rM_r517 M), (rM_k15 M), (rM_n15 M), (rM_r518 M), (rM_k16 M), (rM_n16 M), (rM_r524 M), (rM_k17 M), (rM_n17 M), (rM_r525 M), (rM_k18 M), (rM_n18 M), (rM_r526 M), (rM_k19 M), (rM_n19 M), (rM_r528 M), (rM_k20 M), (rM_n20 M), (rM_r529 M), (rM_k21 M), (rM_n21 M), (rM_r531 M), (rM_k22 M), (rM_n22 M), (rM_r532 M), (rM_k23 M), (rM_n23 M), (rM_r533 M), (rM_k24 M), (rM_n24 M), q_clamp, q_in, nI_leI, nI_ltI, nI_eq, ql_0, qL_0, qt_0, qT_0, qe_0, qc_0, qi_0, ql_1, qL_1, qt_1, qT_1, qe_1, qc_1, qi_1, ql_2, qL_2, qt_2, qT_2, qe_2, qc_2, qi_2, ql_3, qL_3, qt_3, qT_3, qe_3, qc_3, qi_3, ql_4, qL_4, qt_4, qT_4, qe_4, qc_4, qi_4, ql_6, qL_6, qt_6, qT_6, qe_6, qc_6, qi_6, ql_8, qL_8, qt_8, qT_8, qe_8, qc_8, qi_8, ql_10, qL_10, qt_10, qT_10, qe_10, qc_10, qi_10, ql_24, qL_24, qt_24, qT_24, qe_24, qc_24, qi_24, ql_60, qL_60, qt_60, qT_60, qe_60, qc_60, qi_60, ql_100, qL_100, qt_100, qT_100, qe_100, qc_100, qi_100, ql_200, qL_200, qt_200, qT_200, qe_200, qc_200, qi_200, ql_400, qL_400, qt_400, qT_400, qe_400, qc_400, qi_400, ql_600, qL_600, qt_600, qT_600, qe_600, qc_600, qi_600, ql_900, qL_900, qt_900, qT_900, qe_900, qc_900, qi_900, ql_1200, qL_1200, qt_1200, qT_1200, qe_1200, qc_1200, qi_1200, ql_65536, qL_65536, qt_65536, qT_65536, qe_65536, qc_65536, qi_65536, true_and, and_true, eq_self, forall_eq, forall_eq_apply_imp_iff, hT]
      generalize he1 : (a + e) % 65536 = p at *
      rcases I1 p hq with c | ⟨g', c1, c2⟩
      · rw [c]
        refine ⟨fun _ => ?_, fun c => absurd (by decide) c⟩
        have no : ∀ g' ∈ S, nk (gn g').1 (gn g').2 ≠ nk (gn g).1 (gn g).2 := by
          intro g' hg' ek
          obtain ⟨d', h1, h2, h3⟩ := I2 g' hg'
          simp only [ek, hK, ha] at h2 h3
          rcases Nat.lt_trichotomy d' e with q | q | q
          · exact (lo d' q).2 g' hg' h2 ek
          · rw [q, he1, c] at h2
            exact nI_m1 (by have := hlt g' (Or.inr hg'); omega) h2.symm
          · exact h3 e q (by rw [he1]; exact c)
        refine H1 no p ?_
        have hT' : ∀ x, jI (wI h 1000 (m + 23) p (nI g)) 1000 (m + 23) x = if x = p then nI g else T x := fun x => by rw [jI_wI, ← hT]; simp
        refine ⟨fun x hp => ?_, fun g' hg' => ?_, ?_⟩
        · rw [hT']
          by_cases hq : x = p
          · rw [if_pos hq]; exact Or.inr ⟨g, rfl, by simp⟩
          · rw [if_neg hq]
            rcases I1 x hp with c | ⟨y, c1, c2⟩
            · exact Or.inl c
            · exact Or.inr ⟨y, c1, by simp [c2]⟩
        · rcases List.mem_cons.mp hg' with c3 | c3
          · subst c3
            simp only [hK, ha]
            refine ⟨e, by omega, by rw [hT', if_pos he1], fun e' he' => ?_⟩
            rw [hT']
            by_cases hq : (a + e') % 65536 = p
            · rw [if_pos hq]; exact nI_m1 (by omega)
            · rw [if_neg hq]; exact (lo e' he').1
          · obtain ⟨d', h1, h2, h3⟩ := I2 g' c3
            refine ⟨d', h1, ?_, fun e' he' => ?_⟩
            · rw [hT', if_neg, h2]
              intro q
              rw [q, c] at h2
              exact nI_m1 (by have := hlt g' (Or.inr c3); omega) h2.symm
            · rw [hT']
              split
              · exact nI_m1 (by omega)
              · exact h3 e' he'
        · have := occ_set (T := T) (T' := jI (wI h 1000 (m + 23) p (nI g)) 1000 (m + 23)) (q := p) (fun x hp => by simp only [hT', if_neg hp]) 65536
          rw [if_pos hq] at this
          simp only [List.length_cons]
          omega
      · have hg' := hlt g' (Or.inr c2)
        rw [c1]
        simp (disch := omega) only [q_clamp, q_in, nI_leI, nI_ltI, nI_eq, ql_0, qL_0, qt_0, qT_0, qe_0, qc_0, qi_0, ql_1, qL_1, qt_1, qT_1, qe_1, qc_1, qi_1, ql_2, qL_2, qt_2, qT_2, qe_2, qc_2, qi_2, ql_3, qL_3, qt_3, qT_3, qe_3, qc_3, qi_3, ql_4, qL_4, qt_4, qT_4, qe_4, qc_4, qi_4, ql_6, qL_6, qt_6, qT_6, qe_6, qc_6, qi_6, ql_8, qL_8, qt_8, qT_8, qe_8, qc_8, qi_8, ql_10, qL_10, qt_10, qT_10, qe_10, qc_10, qi_10, ql_24, qL_24, qt_24, qT_24, qe_24, qc_24, qi_24, ql_60, qL_60, qt_60, qT_60, qe_60, qc_60, qi_60, ql_100, qL_100, qt_100, qT_100, qe_100, qc_100, qi_100, ql_200, qL_200, qt_200, qT_200, qe_200, qc_200, qi_200, ql_400, qL_400, qt_400, qT_400, qe_400, qc_400, qi_400, ql_600, qL_600, qt_600, qT_600, qe_600, qc_600, qi_600, ql_900, qL_900, qt_900, qT_900, qe_900, qc_900, qi_900, ql_1200, qL_1200, qt_1200, qT_1200, qe_1200, qc_1200, qi_1200, ql_65536, qL_65536, qt_65536, qT_65536, qe_65536, qc_65536, qi_65536]
        refine ⟨fun c => absurd c (Nat.not_lt_zero _), fun _ => s_areSame M (A g' (Or.inr c2)) Ag ?_⟩
        by_cases ek : nk (gn g').1 (gn g').2 = nk (gn g).1 (gn g).2
        · rw [if_pos ek]
          exact ⟨fun c => absurd c (by decide), fun _ => H0 ⟨g', c2, ek⟩⟩
        · rw [if_neg ek]
          refine ⟨fun _ => ?_, fun c => absurd rfl c⟩
          rw [and16 hq]
          have := ih (e + 1) (by omega) fun e' he' => ?_
          · rw [show (p + 1) % 65536 = (a + (e + 1)) % 65536 by omega]
            exact this
          · by_cases hee : e' = e
            · subst hee
              rw [he1]
              refine ⟨by rw [c1]; exact nI_m1 (by omega), fun g2 hg2 e2 => ?_⟩
              rw [c1] at e2
              have := (nI_eq (by omega) (by have := hlt g2 (Or.inr hg2); omega)).mp e2
              rw [← this]
              exact ek
            · exact lo e' (by omega)
  have := loop ((p0 + 65536 - a) % 65536) 0 (by omega) (fun e' he' => by omega)
  rw [Nat.add_zero, Nat.mod_eq_of_lt ha'] at this
  exact this
