/-! the class: a table is brought -/
theorem kL_mn2 (a b : Option Int32) : kL (mn2 a b) = if kL b < kL a then kL b else kL a := by
  cases a with
  | none =>
    show kL b = _
    cases b with
    | none => rw [if_neg (i64_lt_irrefl _)]
    | some y => exact (if_pos (lt_nth y)).symm
  | some x =>
    cases b with
    | none => exact (if_neg (fun z => i64_lt_irrefl _ (Int64.lt_trans z (lt_nth x)))).symm
    | some y =>
      show Int32.toInt64 (if y < x then y else x) = if Int32.toInt64 y < Int32.toInt64 x then Int32.toInt64 y else Int32.toInt64 x
      by_cases c : y < x
      · rw [if_pos c, if_pos (by rw [l_lt]; exact c)]
      · rw [if_neg c, if_neg (by rw [l_lt]; exact c)]
theorem kAt_kL (l : List Row) (i : Nat) : kAt l i = kL (hk (l.drop i)) := by
  cases e : l[i]? with
  | none =>
    have : l.length ≤ i := by
      rcases Nat.lt_or_ge i l.length with z | z
      · rw [List.getElem?_eq_getElem z] at e; cases e
      · exact z
    rw [kAt_none e, List.drop_eq_nil_of_le this]
    rfl
  | some x => rw [kAt_some e, drop_hd e]; rfl
/-- what a key takes from the front of a list -/
theorem pop_at (l : List Row) (i : Nat) (k : Int32) (hi : i ≤ l.length) : (kAt l i = Int32.toInt64 k ∧ (∃ y, l[i]? = some y ∧ (pop k (l.drop i)).1 = some y) ∧ (pop k (l.drop i)).2 = l.drop (i + 1) ∧ i + 1 ≤ l.length) ∨ (kAt l i ≠ Int32.toInt64 k ∧ (pop k (l.drop i)).1 = none ∧ (pop k (l.drop i)).2 = l.drop i) := by
  cases e : l[i]? with
  | none =>
    right
    have : l.length ≤ i := by
      rcases Nat.lt_or_ge i l.length with z | z
      · rw [List.getElem?_eq_getElem z] at e; cases e
      · exact z
    rw [kAt_none e, List.drop_eq_nil_of_le this]
    exact ⟨fun z => k_ne k z.symm, rfl, rfl⟩
  | some y =>
    have hil := (List.getElem?_eq_some_iff.mp e).1
    rw [kAt_some e, drop_hd e]
    by_cases c : y.1 = k
    · left
      refine ⟨by rw [c], ⟨y, rfl, ?_⟩, ?_, by omega⟩ <;> (unfold pop; simp only; rw [if_pos c])
    · right
      refine ⟨fun z => c (k_inj z), ?_, ?_⟩ <;> (unfold pop; simp only; rw [if_neg c])
section JG3
variable {h h' : jj_H} {x t : Nat} {Q : Value → jj_H → Prop}
theorem nx_hd {o u h : List Row} {k : Int32} (e : nx o u h = some k) : hk o = some k ∨ hk u = some k ∨ hk h = some k := by
  have m : ∀ a b : Option Int32, mn2 a b = some k → a = some k ∨ b = some k := by
    intro a b q
    cases a with
    | none => exact Or.inr q
    | some a =>
      cases b with
      | none => exact Or.inl q
      | some b =>
        have q' : some (if b < a then b else a) = some k := q
        by_cases c : b < a
        · rw [if_pos c] at q'; exact Or.inr q'
        · rw [if_neg c] at q'; exact Or.inl q'
  rcases m _ _ e with q | q
  · exact Or.inl q
  · exact Or.inr (m _ _ q)
def pT (x t : Nat) : Nat → Nat → Prop := fun tg a => pK x t tg a ∨ (tg = 1000 ∧ a = x + 29)
theorem pT_fP {x t : Nat} (ht : t < 3) : fP x (pT x t) := fun tg a q => by
  unfold pT pK at q
  by_cases e : tg = 1000
  · right; right; omega
  · right; left; simp only [List.mem_cons, List.not_mem_nil, or_false]; omega
/-- where a list stands behind a key: the place that is told, the next place -/
def nxt (l : List Row) (i : Nat) (k : Int32) (p : Int32) (i' : Nat) : Prop := plR p l (pop k (l.drop i)).1 ∧ (pop k (l.drop i)).2 = l.drop i' ∧ i' ≤ l.length ∧ (p = -1 ∧ i' = i ∧ (pop k (l.drop i)).1 = none ∨ ¬ p = -1 ∧ i' = i + 1 ∧ (pop k (l.drop i)).1.isSome = true)
theorem nxt_y {l : List Row} {i : Nat} {k : Int32} (hi : i ≤ l.length) (hl : l.length ≤ 200) (e : kAt l i = Int32.toInt64 k) : nxt l i k (nI i) (i + 1) := by
  rcases pop_at l i k hi with ⟨_, ⟨y, h1, h2⟩, h3, h4⟩ | ⟨h1, _⟩
  · exact ⟨Or.inr ⟨i, y, h2, rfl, h1⟩, h3, h4, Or.inr ⟨nI_m1 (by omega), rfl, by rw [h2]; rfl⟩⟩
  · exact absurd e h1
theorem nxt_n {l : List Row} {i : Nat} {k : Int32} (hi : i ≤ l.length) (e : ¬ kAt l i = Int32.toInt64 k) : nxt l i k (-1) i := by
  rcases pop_at l i k hi with ⟨h0, _⟩ | ⟨_, h1, h2⟩
  · exact absurd h0 e
  · exact ⟨Or.inl ⟨h1, rfl⟩, h2, hi, Or.inl ⟨rfl, rfl, h1⟩⟩
theorem c_bringTable {ro wo ru wu rh wh B : Nat} {lo lu lh : List Row} {cf0 : List Cf} (M : cM h x) (hz : x + 42 ≤ jZ h) (ht : t < 3) (So : sr h x ro wo lo) (Su : sr h x ru wu lu) (Sh : sr h x rh wh lh) (K : kCf h x cf0) (mx : jI h 301 (x + 30) 0 = 1) (hB : 2 * cf0.length + (lo.length + lu.length + lh.length) ≤ B) (hB2 : B ≤ 1800)
    (H1 : ∀ h' q, mg3 t (lo.length + lu.length + lh.length) lo lu lh [] cf0 = some q → rwO h' (x + 35 + 2 * t) (x + 36 + 2 * t) q.1 → kCf h' x q.2 → 2 * q.2.length ≤ B → cF (pT x t) h h' → Q (.int 1) h')
    (H0 : ∀ h', mg3 t (lo.length + lu.length + lh.length) lo lu lh [] cf0 = none → cF (pT x t) h h' → Q (.int 0) h') : jj_C mX2_bringTable 0 0 [.ref (x + 26), .int (nI t), .ref ro, .ref ru, .ref rh] h Q := by
  obtain ⟨m1, m2, m3⟩ := M.res ht
  obtain ⟨_, _, r1, r2, r3, r4⟩ := (M.2.2 t ht)
  have l1 := So.1.2.2.2.2.2.2.1
  have l2 := Su.1.2.2.2.2.2.2.1
  have l3 := Sh.1.2.2.2.2.2.2.1
  refine EX2_bringTable _ _ _ _ _ fun d => ?_
  simp (disch := omega) only [(cM_k M), (cM_r450_0 M), (cM_k1 M), (cM_n1 M), (cM_r451_0 M), (cM_k17 M), (cM_n17 M), (cM_r400_17 M), (cM_k18 M), (cM_n18 M), (cM_r452_0 M), (cM_k19 M), (cM_n19 M), (cM_r200_19 M), (cM_k20 M), (cM_n20 M), (cM_r453_0 M), (cM_k21 M), (cM_n21 M), (cM_r456_0 M), (cM_k22 M), (cM_n22 M), (cM_r458_0 M), (cM_k23 M), (cM_n23 M), (cM_r50_23 M), (cM_k24 M), (cM_n24 M), (cM_r51_23 M), (cM_k25 M), (cM_n25 M), (cM_r459_0 M), (cM_k26 M), (cM_n26 M), (cM_r102_26 M), (cM_k27 M), (cM_n27 M), (cM_r103_26 M), (cM_k28 M), (cM_n28 M), (cM_r104_26 M), (cM_k29 M), (cM_n29 M), (cM_r105_26 M), (cM_k30 M), (cM_n30 M), (cM_r300_30 M), (cM_k31 M), (cM_n31 M), (cM_r106_26 M), (cM_k32 M), (cM_n32 M), (cM_r107_26 M), (cM_k33 M), (cM_n33 M), (cM_r108_26 M), (cM_k34 M), (cM_n34 M), (cM_r460_0 M), (cM_k41 M), (cM_n41 M), (cM_r250_41 M), (cM_k42 M), (cM_n42 M), q_clamp, q_in, nI_leI, nI_ltI, nI_eq, ql_0, qL_0, qt_0, qT_0, qe_0, qc_0, qi_0, ql_1, qL_1, qt_1, qT_1, qe_1, qc_1, qi_1, ql_2, qL_2, qt_2, qT_2, qe_2, qc_2, qi_2, ql_3, qL_3, qt_3, qT_3, qe_3, qc_3, qi_3, ql_4, qL_4, qt_4, qT_4, qe_4, qc_4, qi_4, ql_6, qL_6, qt_6, qT_6, qe_6, qc_6, qi_6, ql_8, qL_8, qt_8, qT_8, qe_8, qc_8, qi_8, ql_10, qL_10, qt_10, qT_10, qe_10, qc_10, qi_10, ql_24, qL_24, qt_24, qT_24, qe_24, qc_24, qi_24, ql_60, qL_60, qt_60, qT_60, qe_60, qc_60, qi_60, ql_100, qL_100, qt_100, qT_100, qe_100, qc_100, qi_100, ql_200, qL_200, qt_200, qT_200, qe_200, qc_200, qi_200, ql_400, qL_400, qt_400, qT_400, qe_400, qc_400, qi_400, ql_600, qL_600, qt_600, qT_600, qe_600, qc_600, qi_600, ql_900, qL_900, qt_900, qT_900, qe_900, qc_900, qi_900, ql_1200, qL_1200, qt_1200, qT_1200, qe_1200, qc_1200, qi_1200, ql_65536, qL_65536, qt_65536, qT_65536, qe_65536, qc_65536, qi_65536, m1, m2, true_and, and_true, eq_self, forall_eq, forall_eq_apply_imp_iff]
  generalize hRES : mg3 t (lo.length + lu.length + lh.length) lo lu lh [] cf0 = RES at H1 H0
  have Ple : ∀ tg a, pT x t tg a → a ≤ x + 42 := fun tg a q => by unfold pT pK at q; omega
  have loop : ∀ n i j k tu (h1 : jj_H) (dd : List Row) (cf : List Cf), i ≤ lo.length → j ≤ lu.length → k ≤ lh.length → (lo.length - i) + (lu.length - j) + (lh.length - k) ≤ n → tu + n ≤ 600 → 2 * cf.length + ((lo.length - i) + (lu.length - j) + (lh.length - k)) ≤ B → mg3 t n (lo.drop i) (lu.drop j) (lh.drop k) dd cf = RES → kCf h1 x cf → rwO h1 (x + 35 + 2 * t) (x + 36 + 2 * t) dd → cF (pT x t) h h1 → jj_WP d mX2_bringTable 0 0 22 [(0, .ref (x + 26)), (1, .int (nI t)), (2, .ref ro), (3, .ref ru), (4, .ref rh), (5, .int (nI i)), (6, .int (nI j)), (7, .int (nI k)), (8, .int (nI tu))] [] h1 Q := by
    intro n
    induction n with
    | zero =>
      intro i j k tu h1 dd cf hi hj hk0 hn htu hcf hm K1 D1 F
      have So1 := So.cf F Ple
      have Su1 := Su.cf F Ple
      have Sh1 := Sh.cf F Ple
      have done : Q (.int 1) h1 := H1 h1 (dd, cf) (by rw [← hm]; rfl) D1 K1 (by show 2 * cf.length ≤ B; omega) F
      refine VX2_bringTable_22 _ _ _ _ _ _ _ _ _ ⟨fun _ => done, fun _ => ⟨So1.1.1, c_keyAt So1.1 (by omega) ⟨Su1.1.1, c_keyAt Su1.1 (by omega) ⟨Sh1.1.1, c_keyAt Sh1.1 (by omega) ?_⟩⟩⟩⟩
      rw [kAt_none (List.getElem?_eq_none (by omega)), kAt_none (List.getElem?_eq_none (by omega)), kAt_none (List.getElem?_eq_none (by omega))]
      refine ⟨fun c => absurd ?_ c, fun _ => done⟩
      rw [if_neg (i64_lt_irrefl _)]
      rfl
    | succ n ih =>
      intro i j k tu h1 dd cf hi hj hk0 hn htu hcf hm K1 D1 F
      have So1 := So.cf F Ple
      have Su1 := Su.cf F Ple
      have Sh1 := Sh.cf F Ple
      have M1 := M.cf F hz (pT_fP ht)
      have hz1 : x + 42 ≤ jZ h1 := Nat.le_trans hz F.1
      have mx1' : jI h1 301 (x + 30) 0 = 1 := (F.ei (by omega) (by unfold pT pK; omega)).trans mx
      refine VX2_bringTable_22 _ _ _ _ _ _ _ _ _ ?_
      rw [qL_600 (by omega)]
      refine ⟨fun c => by omega, fun _ => ⟨So1.1.1, c_keyAt So1.1 (by omega) ⟨Su1.1.1, c_keyAt Su1.1 (by omega) ⟨Sh1.1.1, c_keyAt Sh1.1 (by omega) ?_⟩⟩⟩⟩
      have ekey : (if (if kAt lh k < kAt lu j then kAt lh k else kAt lu j) < kAt lo i then (if kAt lh k < kAt lu j then kAt lh k else kAt lu j) else kAt lo i) = kL (nx (lo.drop i) (lu.drop j) (lh.drop k)) := by
        unfold nx
        rw [kL_mn2, kL_mn2, ← kAt_kL, ← kAt_kL, ← kAt_kL]
      simp only [jj_vj]
      rw [ekey]
      cases hnx : nx (lo.drop i) (lu.drop j) (lh.drop k) with
      | none =>
        refine ⟨fun c => absurd rfl c, fun _ => H1 h1 (dd, cf) ?_ D1 K1 (by show 2 * cf.length ≤ B; omega) F⟩
        rw [← hm, mg3, hnx]
      | some key =>
        have hkey := nx_hd hnx
        rw [mg3, hnx] at hm
        simp only at hm
        show (¬ Int32.toInt64 key = 4294967296 → _) ∧ _
        refine ⟨fun _ => ⟨cM_k26 M1, So1.1.1, c_keyAt So1.1 (by omega) ?_⟩, fun c => absurd c (k_ne key)⟩
        -- the last stage, with the three places told
        have st140 : ∀ (h2 : jj_H) (po pu ph : Int32) (i' j' k' : Nat), nxt lo i key po i' → nxt lu j key pu j' → nxt lh k key ph k' → cF (fun tg a => tg = 1000 ∧ a = x + 29) h1 h2 → jI h2 1000 (x + 29) 0 = po → jI h2 1000 (x + 29) 1 = pu → jj_WP d mX2_bringTable 0 0 140 [(0, .ref (x + 26)), (1, .int (nI t)), (2, .ref ro), (3, .ref ru), (4, .ref rh), (5, .int (nI i)), (6, .int (nI j)), (7, .int (nI k)), (8, .int (nI tu)), (9, .long (Int32.toInt64 key))] [.int ph, .int 2, .ref (x + 29)] h2 Q := by
          intro h2 po pu ph i' j' k' no nu nh F2 p0 p1
          have M2 := M1.cf F2 hz1 (fun tg a q => by right; right; omega)
          refine VX2_bringTable_140 _ _ _ _ _ _ _ _ _ _ _ _ _ ?_
          simp (disch := omega) only [(cM_k M2), (cM_r450_0 M2), (cM_k1 M2), (cM_n1 M2), (cM_r451_0 M2), (cM_k17 M2), (cM_n17 M2), (cM_r400_17 M2), (cM_k18 M2), (cM_n18 M2), (cM_r452_0 M2), (cM_k19 M2), (cM_n19 M2), (cM_r200_19 M2), (cM_k20 M2), (cM_n20 M2), (cM_r453_0 M2), (cM_k21 M2), (cM_n21 M2), (cM_r456_0 M2), (cM_k22 M2), (cM_n22 M2), (cM_r458_0 M2), (cM_k23 M2), (cM_n23 M2), (cM_r50_23 M2), (cM_k24 M2), (cM_n24 M2), (cM_r51_23 M2), (cM_k25 M2), (cM_n25 M2), (cM_r459_0 M2), (cM_k26 M2), (cM_n26 M2), (cM_r102_26 M2), (cM_k27 M2), (cM_n27 M2), (cM_r103_26 M2), (cM_k28 M2), (cM_n28 M2), (cM_r104_26 M2), (cM_k29 M2), (cM_n29 M2), (cM_r105_26 M2), (cM_k30 M2), (cM_n30 M2), (cM_r300_30 M2), (cM_k31 M2), (cM_n31 M2), (cM_r106_26 M2), (cM_k32 M2), (cM_n32 M2), (cM_r107_26 M2), (cM_k33 M2), (cM_n33 M2), (cM_r108_26 M2), (cM_k34 M2), (cM_n34 M2), (cM_r460_0 M2), (cM_k41 M2), (cM_n41 M2), (cM_r250_41 M2), (cM_k42 M2), (cM_n42 M2), q_clamp, q_in, nI_leI, nI_ltI, nI_eq, ql_0, qL_0, qt_0, qT_0, qe_0, qc_0, qi_0, ql_1, qL_1, qt_1, qT_1, qe_1, qc_1, qi_1, ql_2, qL_2, qt_2, qT_2, qe_2, qc_2, qi_2, ql_3, qL_3, qt_3, qT_3, qe_3, qc_3, qi_3, ql_4, qL_4, qt_4, qT_4, qe_4, qc_4, qi_4, ql_6, qL_6, qt_6, qT_6, qe_6, qc_6, qi_6, ql_8, qL_8, qt_8, qT_8, qe_8, qc_8, qi_8, ql_10, qL_10, qt_10, qT_10, qe_10, qc_10, qi_10, ql_24, qL_24, qt_24, qT_24, qe_24, qc_24, qi_24, ql_60, qL_60, qt_60, qT_60, qe_60, qc_60, qi_60, ql_100, qL_100, qt_100, qT_100, qe_100, qc_100, qi_100, ql_200, qL_200, qt_200, qT_200, qe_200, qc_200, qi_200, ql_400, qL_400, qt_400, qT_400, qe_400, qc_400, qi_400, ql_600, qL_600, qt_600, qT_600, qe_600, qc_600, qi_600, ql_900, qL_900, qt_900, qT_900, qe_900, qc_900, qi_900, ql_1200, qL_1200, qt_1200, qT_1200, qe_1200, qc_1200, qi_1200, ql_65536, qL_65536, qt_65536, qT_65536, qe_65536, qc_65536, qi_65536, true_and, and_true, eq_self, forall_eq, forall_eq_apply_imp_iff]
          rw [Int32.toInt32_toInt64]
          have F3 : cF (fun tg a => tg = 1000 ∧ a = x + 29) h1 (wI h2 1000 (x + 29) 2 ph) := F2.trans (cF.wI (P := fun tg a => tg = 1000 ∧ a = x + 29) ⟨rfl, rfl⟩) (fun _ _ _ q => q)
          have M3 := M1.cf F3 hz1 (fun tg a q => by right; right; omega)
          have hz3 : x + 42 ≤ jZ (wI h2 1000 (x + 29) 2 ph) := Nat.le_trans hz1 F3.1
          have q0 : jI (wI h2 1000 (x + 29) 2 ph) 1000 (x + 29) 0 = po := by rw [jI_wI, if_neg (by omega)]; exact p0
          have q1 : jI (wI h2 1000 (x + 29) 2 ph) 1000 (x + 29) 1 = pu := by rw [jI_wI, if_neg (by omega)]; exact p1
          have q2 : jI (wI h2 1000 (x + 29) 2 ph) 1000 (x + 29) 2 = ph := by rw [jI_wI, if_pos ⟨rfl, rfl, rfl⟩]
          generalize wI h2 1000 (x + 29) 2 ph = h3 at *
          have remo : lo.length - i' + (if (pop key (lo.drop i)).1.isSome then 1 else 0) ≤ lo.length - i ∧ (hk (lo.drop i) = some key → lo.length - i' + 1 ≤ lo.length - i) := by
            have hle := no.2.2.1
            rcases no.2.2.2 with ⟨_, e, e2⟩ | ⟨_, e, e2⟩
            · rw [e2]
              refine ⟨by simp; omega, fun z => ?_⟩
              exfalso
              cases ed : lo.drop i with
              | nil => rw [ed] at z; cases z
              | cons r rest =>
                rw [ed] at z e2
                have z' : r.1 = key := Option.some.inj z
                unfold pop at e2
                simp only at e2
                rw [if_pos z'] at e2
                cases e2
            · rw [e2]
              exact ⟨by simp; omega, fun _ => by omega⟩
          have remu : lu.length - j' + (if (pop key (lu.drop j)).1.isSome then 1 else 0) ≤ lu.length - j ∧ (hk (lu.drop j) = some key → lu.length - j' + 1 ≤ lu.length - j) := by
            have hle := nu.2.2.1
            rcases nu.2.2.2 with ⟨_, e, e2⟩ | ⟨_, e, e2⟩
            · rw [e2]
              refine ⟨by simp; omega, fun z => ?_⟩
              exfalso
              cases ed : lu.drop j with
              | nil => rw [ed] at z; cases z
              | cons r rest =>
                rw [ed] at z e2
                have z' : r.1 = key := Option.some.inj z
                unfold pop at e2
                simp only at e2
                rw [if_pos z'] at e2
                cases e2
            · rw [e2]
              exact ⟨by simp; omega, fun _ => by omega⟩
          have remh : lh.length - k' + (if (pop key (lh.drop k)).1.isSome then 1 else 0) ≤ lh.length - k ∧ (hk (lh.drop k) = some key → lh.length - k' + 1 ≤ lh.length - k) := by
            have hle := nh.2.2.1
            rcases nh.2.2.2 with ⟨_, e, e2⟩ | ⟨_, e, e2⟩
            · rw [e2]
              refine ⟨by simp; omega, fun z => ?_⟩
              exfalso
              cases ed : lh.drop k with
              | nil => rw [ed] at z; cases z
              | cons r rest =>
                rw [ed] at z e2
                have z' : r.1 = key := Option.some.inj z
                unfold pop at e2
                simp only at e2
                rw [if_pos z'] at e2
                cases e2
            · rw [e2]
              exact ⟨by simp; omega, fun _ => by omega⟩
          have rem1 : (lo.length - i') + (lu.length - j') + (lh.length - k') + 1 ≤ (lo.length - i) + (lu.length - j) + (lh.length - k) := by
            have a1 := remo.1
            have a2 := remu.1
            have a3 := remh.1
            rcases hkey with z | z | z
            · have := remo.2 z; omega
            · have := remu.2 z; omega
            · have := remh.2 z; omega
          have rem2 : (dec key (pop key (lo.drop i)).1 (pop key (lu.drop j)).1 (pop key (lh.drop k)).1).2 = true → (lo.length - i') + (lu.length - j') + (lh.length - k') + 2 ≤ (lo.length - i) + (lu.length - j) + (lh.length - k) := by
            intro z
            have := dec_two z
            have a1 := remo.1
            have a2 := remu.1
            have a3 := remh.1
            omega
          refine c_bringKey M3 hz3 ht (So1.cf F3 (fun tg a q => by omega)) (Su1.cf F3 (fun tg a q => by omega)) (Sh1.cf F3 (fun tg a q => by omega)) (D1.cf F3 (by omega) (by omega) (by omega) (by omega) (by omega)) (K1.cf F3 hz1 (by omega) (by omega) (fun a _ _ => by omega)) (fun z => by have := rem2 z; omega) ((F3.ei (by omega) (by omega)).trans mx1') q0 q1 q2 no.1 nu.1 nh.1 (fun h4 d2 hd2 R4 K4 F4 => ?_) (fun h4 r hr hfull F4 => ?_)
          · have F14 : cF (pT x t) h h4 := (F.trans F3 (fun tg a _ q => by unfold pT; omega)).trans F4 (fun tg a _ q => Or.inl q)
            have M4 := M.cf F14 hz (pT_fP ht)
            have w0 : jI h4 1000 (x + 29) 0 = po := (F4.ei (by omega) (by unfold pK; omega)).trans q0
            have w1 : jI h4 1000 (x + 29) 1 = pu := (F4.ei (by omega) (by unfold pK; omega)).trans q1
            have w2 : jI h4 1000 (x + 29) 2 = ph := (F4.ei (by omega) (by unfold pK; omega)).trans q2
            generalize hcf' : (if (dec key (pop key (lo.drop i)).1 (pop key (lu.drop j)).1 (pop key (lh.drop k)).1).2 = true then cf ++ [(t, key, true)] else cf) = cf' at *
            have hm2 : mg3 t n (lo.drop i') (lu.drop j') (lh.drop k') d2 cf' = RES := by
              rw [no.2.1, nu.2.1, nh.2.1] at hm
              rcases hd2 with ⟨z1, z2⟩ | ⟨r, z1, z2, z3⟩
              · rw [z1] at hm; rw [z2]; exact hm
              · rw [z1] at hm
                simp only at hm
                rw [if_neg z2] at hm
                rw [z3]; exact hm
            have hlen : 2 * cf'.length + ((lo.length - i') + (lu.length - j') + (lh.length - k')) ≤ B := by
              rw [← hcf']
              by_cases z : (dec key (pop key (lo.drop i)).1 (pop key (lu.drop j)).1 (pop key (lh.drop k)).1).2 = true
              · rw [if_pos z, List.length_append, List.length_singleton]
                have := rem2 z
                omega
              · rw [if_neg z]; omega
            have go := ih i' j' k' (tu + 1) h4 d2 cf' no.2.2.1 nu.2.2.1 nh.2.2.1 (by omega) (by omega) hlen hm2 K4 R4 F14
            refine ⟨fun _ => ?_, fun c => absurd c (by decide)⟩
            simp (disch := omega) only [(cM_k M4), (cM_r450_0 M4), (cM_k1 M4), (cM_n1 M4), (cM_r451_0 M4), (cM_k17 M4), (cM_n17 M4), (cM_r400_17 M4), (cM_k18 M4), (cM_n18 M4), (cM_r452_0 M4), (cM_k19 M4), (cM_n19 M4), (cM_r200_19 M4), (cM_k20 M4), (cM_n20 M4), (cM_r453_0 M4), (cM_k21 M4), (cM_n21 M4), (cM_r456_0 M4), (cM_k22 M4), (cM_n22 M4), (cM_r458_0 M4), (cM_k23 M4), (cM_n23 M4), (cM_r50_23 M4), (cM_k24 M4), (cM_n24 M4), (cM_r51_23 M4), (cM_k25 M4), (cM_n25 M4), (cM_r459_0 M4), (cM_k26 M4), (cM_n26 M4), (cM_r102_26 M4), (cM_k27 M4), (cM_n27 M4), (cM_r103_26 M4), (cM_k28 M4), (cM_n28 M4), (cM_r104_26 M4), (cM_k29 M4), (cM_n29 M4), (cM_r105_26 M4), (cM_k30 M4), (cM_n30 M4), (cM_r300_30 M4), (cM_k31 M4), (cM_n31 M4), (cM_r106_26 M4), (cM_k32 M4), (cM_n32 M4), (cM_r107_26 M4), (cM_k33 M4), (cM_n33 M4), (cM_r108_26 M4), (cM_k34 M4), (cM_n34 M4), (cM_r460_0 M4), (cM_k41 M4), (cM_n41 M4), (cM_r250_41 M4), (cM_k42 M4), (cM_n42 M4), q_clamp, q_in, nI_leI, nI_ltI, nI_eq, ql_0, qL_0, qt_0, qT_0, qe_0, qc_0, qi_0, ql_1, qL_1, qt_1, qT_1, qe_1, qc_1, qi_1, ql_2, qL_2, qt_2, qT_2, qe_2, qc_2, qi_2, ql_3, qL_3, qt_3, qT_3, qe_3, qc_3, qi_3, ql_4, qL_4, qt_4, qT_4, qe_4, qc_4, qi_4, ql_6, qL_6, qt_6, qT_6, qe_6, qc_6, qi_6, ql_8, qL_8, qt_8, qT_8, qe_8, qc_8, qi_8, ql_10, qL_10, qt_10, qT_10, qe_10, qc_10, qi_10, ql_24, qL_24, qt_24, qT_24, qe_24, qc_24, qi_24, ql_60, qL_60, qt_60, qT_60, qe_60, qc_60, qi_60, ql_100, qL_100, qt_100, qT_100, qe_100, qc_100, qi_100, ql_200, qL_200, qt_200, qT_200, qe_200, qc_200, qi_200, ql_400, qL_400, qt_400, qT_400, qe_400, qc_400, qi_400, ql_600, qL_600, qt_600, qT_600, qe_600, qc_600, qi_600, ql_900, qL_900, qt_900, qT_900, qe_900, qc_900, qi_900, ql_1200, qL_1200, qt_1200, qT_1200, qe_1200, qc_1200, qi_1200, ql_65536, qL_65536, qt_65536, qT_65536, qe_65536, qc_65536, qi_65536, w0, w1, true_and, and_true, eq_self, forall_eq, forall_eq_apply_imp_iff]
            have last : ∀ (v1 v2 : Int32), (nI j + v2 = nI j') → jj_WP d mX2_bringTable 0 0 195 [(0, .ref (x + 26)), (1, .int (nI t)), (2, .ref ro), (3, .ref ru), (4, .ref rh), (5, .int (nI i')), (7, .int (nI k)), (8, .int (nI tu))] [.int v2, .int (nI j)] h4 Q := by
              intro v1 v2 hv
              refine VX2_bringTable_195 _ _ _ _ _ _ _ _ _ _ ?_
              simp (disch := omega) only [(cM_k M4), (cM_r450_0 M4), (cM_k1 M4), (cM_n1 M4), (cM_r451_0 M4), (cM_k17 M4), (cM_n17 M4), (cM_r400_17 M4), (cM_k18 M4), (cM_n18 M4), (cM_r452_0 M4), (cM_k19 M4), (cM_n19 M4), (cM_r200_19 M4), (cM_k20 M4), (cM_n20 M4), (cM_r453_0 M4), (cM_k21 M4), (cM_n21 M4), (cM_r456_0 M4), (cM_k22 M4), (cM_n22 M4), (cM_r458_0 M4), (cM_k23 M4), (cM_n23 M4), (cM_r50_23 M4), (cM_k24 M4), (cM_n24 M4), (cM_r51_23 M4), (cM_k25 M4), (cM_n25 M4), (cM_r459_0 M4), (cM_k26 M4), (cM_n26 M4), (cM_r102_26 M4), (cM_k27 M4), (cM_n27 M4), (cM_r103_26 M4), (cM_k28 M4), (cM_n28 M4), (cM_r104_26 M4), (cM_k29 M4), (cM_n29 M4), (cM_r105_26 M4), (cM_k30 M4), (cM_n30 M4), (cM_r300_30 M4), (cM_k31 M4), (cM_n31 M4), (cM_r106_26 M4), (cM_k32 M4), (cM_n32 M4), (cM_r107_26 M4), (cM_k33 M4), (cM_n33 M4), (cM_r108_26 M4), (cM_k34 M4), (cM_n34 M4), (cM_r460_0 M4), (cM_k41 M4), (cM_n41 M4), (cM_r250_41 M4), (cM_k42 M4), (cM_n42 M4), q_clamp, q_in, nI_leI, nI_ltI, nI_eq, ql_0, qL_0, qt_0, qT_0, qe_0, qc_0, qi_0, ql_1, qL_1, qt_1, qT_1, qe_1, qc_1, qi_1, ql_2, qL_2, qt_2, qT_2, qe_2, qc_2, qi_2, ql_3, qL_3, qt_3, qT_3, qe_3, qc_3, qi_3, ql_4, qL_4, qt_4, qT_4, qe_4, qc_4, qi_4, ql_6, qL_6, qt_6, qT_6, qe_6, qc_6, qi_6, ql_8, qL_8, qt_8, qT_8, qe_8, qc_8, qi_8, ql_10, qL_10, qt_10, qT_10, qe_10, qc_10, qi_10, ql_24, qL_24, qt_24, qT_24, qe_24, qc_24, qi_24, ql_60, qL_60, qt_60, qT_60, qe_60, qc_60, qi_60, ql_100, qL_100, qt_100, qT_100, qe_100, qc_100, qi_100, ql_200, qL_200, qt_200, qT_200, qe_200, qc_200, qi_200, ql_400, qL_400, qt_400, qT_400, qe_400, qc_400, qi_400, ql_600, qL_600, qt_600, qT_600, qe_600, qc_600, qi_600, ql_900, qL_900, qt_900, qT_900, qe_900, qc_900, qi_900, ql_1200, qL_1200, qt_1200, qT_1200, qe_1200, qc_1200, qi_1200, ql_65536, qL_65536, qt_65536, qT_65536, qe_65536, qc_65536, qi_65536, w2, true_and, and_true, eq_self, forall_eq, forall_eq_apply_imp_iff]
              rw [hv]
              rcases nh.2.2.2 with ⟨c1, c2, _⟩ | ⟨c1, c2, _⟩
              · refine ⟨fun c => absurd c1 c, fun _ => ?_⟩
                rw [qa_0, qa_1, ← c2]; exact go
              · refine ⟨fun _ => ?_, fun c => absurd c c1⟩
                rw [qa_1, qa_1, ← c2]; exact go
            rcases no.2.2.2 with ⟨a1, a2, _⟩ | ⟨a1, a2, _⟩
            · refine ⟨fun c => absurd a1 c, fun _ => ⟨fun c => ?_, fun c => ?_⟩⟩
              · rw [qa_0, ← a2]
                rcases nu.2.2.2 with ⟨b1, b2, _⟩ | ⟨b1, b2, _⟩
                · exact absurd b1 c
                · exact last 0 1 (by rw [qa_1, b2])
              · rw [qa_0, ← a2]
                rcases nu.2.2.2 with ⟨b1, b2, _⟩ | ⟨b1, b2, _⟩
                · exact last 0 0 (by rw [qa_0, b2]; rfl)
                · exact absurd c b1
            · refine ⟨fun _ => ⟨fun c => ?_, fun c => ?_⟩, fun c => absurd c a1⟩
              · rw [qa_1, ← a2]
                rcases nu.2.2.2 with ⟨b1, b2, _⟩ | ⟨b1, b2, _⟩
                · exact absurd b1 c
                · exact last 0 1 (by rw [qa_1, b2])
              · rw [qa_1, ← a2]
                rcases nu.2.2.2 with ⟨b1, b2, _⟩ | ⟨b1, b2, _⟩
                · exact last 0 0 (by rw [qa_0, b2]; rfl)
                · exact absurd c b1
          · refine ⟨fun c => absurd rfl c, fun _ => H0 h4 ?_ ((F.trans F3 (fun tg a _ q => by unfold pT; omega)).trans F4 (fun tg a _ q => Or.inl q))⟩
            rw [hr] at hm
            simp only at hm
            rw [if_pos hfull] at hm
            exact hm.symm
        -- the middle stage
        have st91 : ∀ (po : Int32) (i' : Nat), nxt lo i key po i' → jj_WP d mX2_bringTable 0 0 91 [(0, .ref (x + 26)), (1, .int (nI t)), (2, .ref ro), (3, .ref ru), (4, .ref rh), (5, .int (nI i)), (6, .int (nI j)), (7, .int (nI k)), (8, .int (nI tu)), (9, .long (Int32.toInt64 key))] [.int po, .int 0, .ref (x + 29)] h1 Q := by
          intro po i' no
          refine VX2_bringTable_91 _ _ _ _ _ _ _ _ _ _ _ _ _ ?_
          have F2 : cF (fun tg a => tg = 1000 ∧ a = x + 29) h1 (wI h1 1000 (x + 29) 0 po) := cF.wI ⟨rfl, rfl⟩
          have M2 := M1.cf F2 hz1 (fun tg a q => by right; right; omega)
          have Su2 := Su1.cf F2 (fun tg a q => by omega)
          have p0 : jI (wI h1 1000 (x + 29) 0 po) 1000 (x + 29) 0 = po := by rw [jI_wI, if_pos ⟨rfl, rfl, rfl⟩]
          have su1 := Su1.1.1
          have sh1 := Sh1.1.1
          simp (disch := omega) only [(cM_k M1), (cM_r450_0 M1), (cM_k1 M1), (cM_n1 M1), (cM_r451_0 M1), (cM_k17 M1), (cM_n17 M1), (cM_r400_17 M1), (cM_k18 M1), (cM_n18 M1), (cM_r452_0 M1), (cM_k19 M1), (cM_n19 M1), (cM_r200_19 M1), (cM_k20 M1), (cM_n20 M1), (cM_r453_0 M1), (cM_k21 M1), (cM_n21 M1), (cM_r456_0 M1), (cM_k22 M1), (cM_n22 M1), (cM_r458_0 M1), (cM_k23 M1), (cM_n23 M1), (cM_r50_23 M1), (cM_k24 M1), (cM_n24 M1), (cM_r51_23 M1), (cM_k25 M1), (cM_n25 M1), (cM_r459_0 M1), (cM_k26 M1), (cM_n26 M1), (cM_r102_26 M1), (cM_k27 M1), (cM_n27 M1), (cM_r103_26 M1), (cM_k28 M1), (cM_n28 M1), (cM_r104_26 M1), (cM_k29 M1), (cM_n29 M1), (cM_r105_26 M1), (cM_k30 M1), (cM_n30 M1), (cM_r300_30 M1), (cM_k31 M1), (cM_n31 M1), (cM_r106_26 M1), (cM_k32 M1), (cM_n32 M1), (cM_r107_26 M1), (cM_k33 M1), (cM_n33 M1), (cM_r108_26 M1), (cM_k34 M1), (cM_n34 M1), (cM_r460_0 M1), (cM_k41 M1), (cM_n41 M1), (cM_r250_41 M1), (cM_k42 M1), (cM_n42 M1), q_clamp, q_in, nI_leI, nI_ltI, nI_eq, ql_0, qL_0, qt_0, qT_0, qe_0, qc_0, qi_0, ql_1, qL_1, qt_1, qT_1, qe_1, qc_1, qi_1, ql_2, qL_2, qt_2, qT_2, qe_2, qc_2, qi_2, ql_3, qL_3, qt_3, qT_3, qe_3, qc_3, qi_3, ql_4, qL_4, qt_4, qT_4, qe_4, qc_4, qi_4, ql_6, qL_6, qt_6, qT_6, qe_6, qc_6, qi_6, ql_8, qL_8, qt_8, qT_8, qe_8, qc_8, qi_8, ql_10, qL_10, qt_10, qT_10, qe_10, qc_10, qi_10, ql_24, qL_24, qt_24, qT_24, qe_24, qc_24, qi_24, ql_60, qL_60, qt_60, qT_60, qe_60, qc_60, qi_60, ql_100, qL_100, qt_100, qT_100, qe_100, qc_100, qi_100, ql_200, qL_200, qt_200, qT_200, qe_200, qc_200, qi_200, ql_400, qL_400, qt_400, qT_400, qe_400, qc_400, qi_400, ql_600, qL_600, qt_600, qT_600, qe_600, qc_600, qi_600, ql_900, qL_900, qt_900, qT_900, qe_900, qc_900, qi_900, ql_1200, qL_1200, qt_1200, qT_1200, qe_1200, qc_1200, qi_1200, ql_65536, qL_65536, qt_65536, qT_65536, qe_65536, qc_65536, qi_65536, su1, jR_wI, true_and, and_true, eq_self, forall_eq, forall_eq_apply_imp_iff]
          generalize wI h1 1000 (x + 29) 0 po = h2 at *
          refine c_keyAt Su2.1 (by omega) ?_
          have third : ∀ (pu : Int32) (j' : Nat), nxt lu j key pu j' → jj_C mX6_keyAt 0 0 [.ref rh, .int (nI k)] (wI h2 1000 (x + 29) 1 pu) (fun v9 h8 => jj_vj (fun k10 => (¬ k10 = Int32.toInt64 key → jj_WP d mX2_bringTable 0 0 140 [(0, .ref (x + 26)), (1, .int (nI t)), (2, .ref ro), (3, .ref ru), (4, .ref rh), (5, .int (nI i)), (6, .int (nI j)), (7, .int (nI k)), (8, .int (nI tu)), (9, .long (Int32.toInt64 key))] [.int (-1), .int 2, .ref (x + 29)] h8 Q) ∧ (k10 = Int32.toInt64 key → jj_WP d mX2_bringTable 0 0 140 [(0, .ref (x + 26)), (1, .int (nI t)), (2, .ref ro), (3, .ref ru), (4, .ref rh), (5, .int (nI i)), (6, .int (nI j)), (7, .int (nI k)), (8, .int (nI tu)), (9, .long (Int32.toInt64 key))] [.int (nI k), .int 2, .ref (x + 29)] h8 Q)) v9) := by
            intro pu j' nu
            have F3 : cF (fun tg a => tg = 1000 ∧ a = x + 29) h1 (wI h2 1000 (x + 29) 1 pu) := F2.trans (cF.wI (P := fun tg a => tg = 1000 ∧ a = x + 29) ⟨rfl, rfl⟩) (fun _ _ _ q => q)
            have Sh3 := Sh1.cf F3 (fun tg a q => by omega)
            have z0 : jI (wI h2 1000 (x + 29) 1 pu) 1000 (x + 29) 0 = po := by rw [jI_wI, if_neg (by omega)]; exact p0
            have z1 : jI (wI h2 1000 (x + 29) 1 pu) 1000 (x + 29) 1 = pu := by rw [jI_wI, if_pos ⟨rfl, rfl, rfl⟩]
            exact c_keyAt Sh3.1 (by omega) ⟨fun c => st140 _ po pu (-1) i' j' k no nu (nxt_n hk0 c) F3 z0 z1, fun c => st140 _ po pu (nI k) i' j' (k + 1) no nu (nxt_y hk0 l3 c) F3 z0 z1⟩
          have kh2 : jK h2 rh = 7 := (F2.ek (Sh1.2.2.2.1)).trans sh1
          simp (disch := omega) only [jj_vj, (cM_k M2), (cM_r450_0 M2), (cM_k1 M2), (cM_n1 M2), (cM_r451_0 M2), (cM_k17 M2), (cM_n17 M2), (cM_r400_17 M2), (cM_k18 M2), (cM_n18 M2), (cM_r452_0 M2), (cM_k19 M2), (cM_n19 M2), (cM_r200_19 M2), (cM_k20 M2), (cM_n20 M2), (cM_r453_0 M2), (cM_k21 M2), (cM_n21 M2), (cM_r456_0 M2), (cM_k22 M2), (cM_n22 M2), (cM_r458_0 M2), (cM_k23 M2), (cM_n23 M2), (cM_r50_23 M2), (cM_k24 M2), (cM_n24 M2), (cM_r51_23 M2), (cM_k25 M2), (cM_n25 M2), (cM_r459_0 M2), (cM_k26 M2), (cM_n26 M2), (cM_r102_26 M2), (cM_k27 M2), (cM_n27 M2), (cM_r103_26 M2), (cM_k28 M2), (cM_n28 M2), (cM_r104_26 M2), (cM_k29 M2), (cM_n29 M2), (cM_r105_26 M2), (cM_k30 M2), (cM_n30 M2), (cM_r300_30 M2), (cM_k31 M2), (cM_n31 M2), (cM_r106_26 M2), (cM_k32 M2), (cM_n32 M2), (cM_r107_26 M2), (cM_k33 M2), (cM_n33 M2), (cM_r108_26 M2), (cM_k34 M2), (cM_n34 M2), (cM_r460_0 M2), (cM_k41 M2), (cM_n41 M2), (cM_r250_41 M2), (cM_k42 M2), (cM_n42 M2), q_clamp, q_in, nI_leI, nI_ltI, nI_eq, ql_0, qL_0, qt_0, qT_0, qe_0, qc_0, qi_0, ql_1, qL_1, qt_1, qT_1, qe_1, qc_1, qi_1, ql_2, qL_2, qt_2, qT_2, qe_2, qc_2, qi_2, ql_3, qL_3, qt_3, qT_3, qe_3, qc_3, qi_3, ql_4, qL_4, qt_4, qT_4, qe_4, qc_4, qi_4, ql_6, qL_6, qt_6, qT_6, qe_6, qc_6, qi_6, ql_8, qL_8, qt_8, qT_8, qe_8, qc_8, qi_8, ql_10, qL_10, qt_10, qT_10, qe_10, qc_10, qi_10, ql_24, qL_24, qt_24, qT_24, qe_24, qc_24, qi_24, ql_60, qL_60, qt_60, qT_60, qe_60, qc_60, qi_60, ql_100, qL_100, qt_100, qT_100, qe_100, qc_100, qi_100, ql_200, qL_200, qt_200, qT_200, qe_200, qc_200, qi_200, ql_400, qL_400, qt_400, qT_400, qe_400, qc_400, qi_400, ql_600, qL_600, qt_600, qT_600, qe_600, qc_600, qi_600, ql_900, qL_900, qt_900, qT_900, qe_900, qc_900, qi_900, ql_1200, qL_1200, qt_1200, qT_1200, qe_1200, qc_1200, qi_1200, ql_65536, qL_65536, qt_65536, qT_65536, qe_65536, qc_65536, qi_65536, kh2, jR_wI, true_and, and_true, eq_self, forall_eq, forall_eq_apply_imp_iff]
          exact ⟨fun c => third (-1) j (nxt_n hj c), fun c => third (nI j) (j + 1) (nxt_y hj l2 c)⟩
        rw [cM_r104_26 M1]
        exact ⟨fun c => st91 (-1) i (nxt_n hi c), fun c => st91 (nI i) (i + 1) (nxt_y hi l1 c)⟩
  refine loop (lo.length + lu.length + lh.length) 0 0 0 0 _ [] cf0 (by omega) (by omega) (by omega) (by omega) (by omega) (by omega) (by rw [← hRES]; rfl) ?_ ⟨r1, r2, r3, ?_, ?_, ?_, by decide, fun i y c hy => by cases hy⟩ (cF.wI (Or.inl (Or.inr (Or.inr ⟨rfl, rfl⟩))))
  · exact K.cf (cF.wI (P := fun tg a => tg = 301 ∧ a = x + 35 + 2 * t) ⟨rfl, rfl⟩) hz (by omega) (by omega) (fun a _ _ => by omega)
  · show 0 ≤ jN h (x + 36 + 2 * t); omega
  · show jN h (x + 36 + 2 * t) ≤ 800; omega
  · rw [jI_wI, if_pos ⟨rfl, rfl, rfl⟩]; rfl
end JG3
