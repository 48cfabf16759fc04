/-! the class: the pool -/
def nF (h h' : jj_H) : Prop := cF (fun _ _ => False) h h'
section JPo
variable {h h' h1 : jj_H} {x m : Nat} {P : Pl} {Q : Value → jj_H → Prop} {T : Nat → Nat → Prop}
theorem c_bucket {a r w e : Nat} {k : NK} (N : ndO h a r w k e) (H : Q (.int (nI (bk k))) h) : jj_C mX4_bucketOf 0 0 [.ref a] h Q := by
  refine EX4_bucketOf _ fun d => ⟨N.1, ?_⟩
  rw [N.2.2.2.2.2.2.2.1, bk_eq]
  exact H
theorem c_pfind {a r w e : Nat} {k : NK} (M : cM h x) (Po : PO h x m P) (N : ndO h a r w k e) (H1 : ∀ b, (b, k) ∈ P (bk k) → Q (.ref b) h) (H0 : (∀ b, (b, k) ∉ P (bk k)) → Q (.ref 0) h) : jj_C mX4_find 0 0 [.ref (x + 19), .ref a] h Q := by
  have hb := bk_lt k
  refine EX4_find _ _ fun d => ⟨cM_k19 M, c_bucket N ?_⟩
  simp (disch := omega) only [jj_vi, (cM_k M), (cM_r450_0 M), (cM_k1 M), (cM_n1 M), (cM_r451_0 M), (cM_k17 M), (cM_n17 M), (cM_r400_17 M), (cM_k18 M), (cM_n18 M), (cM_r452_0 M), (cM_k19 M), (cM_n19 M), (cM_r200_19 M), (cM_k20 M), (cM_n20 M), (cM_r453_0 M), (cM_k21 M), (cM_n21 M), (cM_r456_0 M), (cM_k22 M), (cM_n22 M), (cM_r458_0 M), (cM_k23 M), (cM_n23 M), (cM_r50_23 M), (cM_k24 M), (cM_n24 M), (cM_r51_23 M), (cM_k25 M), (cM_n25 M), (cM_r459_0 M), (cM_k26 M), (cM_n26 M), (cM_r102_26 M), (cM_k27 M), (cM_n27 M), (cM_r103_26 M), (cM_k28 M), (cM_n28 M), (cM_r104_26 M), (cM_k29 M), (cM_n29 M), (cM_r105_26 M), (cM_k30 M), (cM_n30 M), (cM_r300_30 M), (cM_k31 M), (cM_n31 M), (cM_r106_26 M), (cM_k32 M), (cM_n32 M), (cM_r107_26 M), (cM_k33 M), (cM_n33 M), (cM_r108_26 M), (cM_k34 M), (cM_n34 M), (cM_r460_0 M), (cM_k41 M), (cM_n41 M), (cM_r250_41 M), (cM_k42 M), (cM_n42 M), q_clamp, q_in, nI_leI, nI_ltI, nI_eq, ql_0, qL_0, qt_0, qT_0, qe_0, qc_0, qi_0, ql_1, qL_1, qt_1, qT_1, qe_1, qc_1, qi_1, ql_2, qL_2, qt_2, qT_2, qe_2, qc_2, qi_2, ql_3, qL_3, qt_3, qT_3, qe_3, qc_3, qi_3, ql_4, qL_4, qt_4, qT_4, qe_4, qc_4, qi_4, ql_6, qL_6, qt_6, qT_6, qe_6, qc_6, qi_6, ql_8, qL_8, qt_8, qT_8, qe_8, qc_8, qi_8, ql_10, qL_10, qt_10, qT_10, qe_10, qc_10, qi_10, ql_24, qL_24, qt_24, qT_24, qe_24, qc_24, qi_24, ql_60, qL_60, qt_60, qT_60, qe_60, qc_60, qi_60, ql_100, qL_100, qt_100, qT_100, qe_100, qc_100, qi_100, ql_200, qL_200, qt_200, qT_200, qe_200, qc_200, qi_200, ql_400, qL_400, qt_400, qT_400, qe_400, qc_400, qi_400, ql_600, qL_600, qt_600, qT_600, qe_600, qc_600, qi_600, ql_900, qL_900, qt_900, qT_900, qe_900, qc_900, qi_900, ql_1200, qL_1200, qt_1200, qT_1200, qe_1200, qc_1200, qi_1200, ql_65536, qL_65536, qt_65536, qT_65536, qe_65536, qc_65536, qi_65536, true_and, and_true, eq_self, forall_eq, forall_eq_apply_imp_iff]
  have loop : ∀ (r2 : List (Nat × NK)) (pre : List (Nat × NK)) (cur : Nat), chn h x m cur r2 → P (bk k) = pre ++ r2 → (∀ b, (b, k) ∉ pre) → jj_WP d mX4_find 0 0 10 [(1, .ref a), (2, .ref cur)] [] h Q := by
    intro r2
    induction r2 with
    | nil =>
      intro pre cur c e np
      refine VX4_find_10 _ _ ⟨fun _ => H0 fun b z => ?_, fun z => absurd c z⟩
      rw [e, List.append_nil] at z
      exact np b z
    | cons q r2 ih =>
      intro pre cur c e np
      obtain ⟨c1, c2, c3⟩ := c
      obtain ⟨sb, r', w', sr, sw, N'⟩ := id c2
      subst c1
      refine VX4_find_10 _ _ ⟨fun z => absurd z sb.nz, fun _ => ⟨N'.1, c_nodeSame N' N ?_⟩⟩
      by_cases z : q.2 = k
      · rw [if_pos z]
        refine ⟨fun c => absurd c (by decide), fun _ => H1 q.1 ?_⟩
        rw [e]
        exact List.mem_append_right _ (by rw [← z]; exact List.mem_cons_self)
      · rw [if_neg z]
        refine ⟨fun _ => ⟨N'.1, ih (pre ++ [q]) _ c3 (by rw [e, List.append_assoc]; rfl) fun b hb => ?_⟩, fun c => absurd rfl c⟩
        rcases List.mem_append.mp hb with y | y
        · exact np b y
        · have : (b, k) = q := by simpa using y
          exact z (by rw [← this])
  exact loop (P (bk k)) [] _ (Po _ hb).1 rfl (fun b hb => by cases hb)
/-- as .sf, where arrays of nodes may change -/
theorem kN.kf {b : Nat} {k : NK} (N : kN h x m b k) (F : cF T h h') (hs : ∀ a, Sc h x m a → Sc h' x m a) (hT : ∀ tg a, Sc h x m a → T tg a → 25 ≤ jK h a) : kN h' x m b k := by
  obtain ⟨sb, r, w, sr, sw, N⟩ := N
  have kr : jK h r = 7 := by obtain ⟨_, _, _, _, _, _, _, _, l, f, R, _⟩ := N; exact R.1
  have kw : jK h w = 21 := by obtain ⟨_, _, _, _, _, _, _, _, l, f, R, _⟩ := N; exact R.2.2.1
  have kb := N.1
  exact ⟨hs _ sb, r, w, hs _ sr, hs _ sw, N.cf F sb.1.2.1 sr.1.2.1 sw.1.2.1 (fun tg _ _ q => by have := hT _ _ sb q; omega) (fun q => by have := hT _ _ sr q; omega) (fun q => by have := hT _ _ sr q; omega) (fun q => by have := hT _ _ sw q; omega)⟩
theorem chn.kf (F : cF T h h') (hs : ∀ a, Sc h x m a → Sc h' x m a) (hT : ∀ tg a, Sc h x m a → T tg a → 25 ≤ jK h a) : ∀ (r : List (Nat × NK)) (a : Nat), chn h x m a r → chn h' x m a r := by
  intro r
  induction r with
  | nil => intro a c; exact c
  | cons q r ih =>
    intro a c
    obtain ⟨c1, c2, c3⟩ := c
    refine ⟨c1, c2.kf F hs hT, ?_⟩
    have kq : jK h q.1 = 4 := by obtain ⟨_, r, w, _, _, N⟩ := c2; exact N.1
    rw [F.er c2.1.1.2.1 (fun z => by have := hT _ _ c2.1 z; omega)]
    exact ih _ c3
theorem PO.kf (R : PO h x m P) (F : cF T h h') (hs : ∀ a, Sc h x m a → Sc h' x m a) (hT : ∀ tg a, Sc h x m a → T tg a → 25 ≤ jK h a) (e : ∀ β, jR h' 1000 (x + 20) β = jR h 1000 (x + 20) β) : PO h' x m P := fun β hβ => ⟨by rw [e]; exact chn.kf F hs hT _ _ (R β hβ).1, (R β hβ).2⟩
theorem cF.setN {a r : Nat} {lv f b e : Int32} {hs : Int64} : cF (fun _ a' => a' = a) h (setN h a r lv f b e hs) :=
  ⟨Nat.le_refl _, fun a' _ => ⟨rfl, rfl, fun tg i c => ⟨jI_setN c, jL_setN c, jR_setN (fun z => c z.2)⟩⟩⟩
def uPl (P : Pl) (β : Nat) (q : Nat × NK) : Pl := fun γ => if γ = β then q :: P γ else P γ
theorem uPl_mem {β : Nat} {q : Nat × NK} {k : NK} {a : Nat} (h : (a, k) ∈ P (bk k)) : (a, k) ∈ uPl P β q (bk k) := by
  unfold uPl
  by_cases e : bk k = β
  · rw [if_pos e]; exact List.mem_cons_of_mem _ h
  · rw [if_neg e]; exact h
theorem Sc.cf {a : Nat} (s : Sc h x m a) (F : cF T h h') (hW : ∀ a, Wn h' x a → Wn h x a) : Sc h' x m a := ⟨⟨s.1.1, Nat.le_trans s.1.2.1 F.1, fun z => s.1.2.2 (hW a z)⟩, s.2⟩
theorem Wn.cf (F : cF T h h') (hz : x + 42 ≤ jZ h) (hT : ∀ a, x + 2 ≤ a → a ≤ x + 16 → ¬ T 1000 a) (a : Nat) (w : Wn h' x a) : Wn h x a := Wn.eq (fun t ht i => F.er (by unfold wb; omega) (hT _ (by unfold wb; omega) (by unfold wb; omega))) a w
theorem c_padd {a r' w' ra wa : Nat} {k : NK} {l : List Row} (M : cM h x) (kz : kZ h x m) (V : jj_V h) (Po : PO h x m P) (N : ndO h a ra wa k (ent k)) (Ra : rwO h ra wa l) (R' : rwO h r' w' l) (sr' : Sc h x m r') (sw' : Sc h x m w') (hW : ∀ b, Wn h x b → b ≤ jZ h) (hno : ∀ b, (b, k) ∉ P (bk k)) (H : ∀ h', PO h' x m (uPl P (bk k) (jZ h + 1, k)) → cF (fun tg a => tg = 1000 ∧ a = x + 20) h h' → jI h' 157 (jZ h + 1) 0 = 0 → jI h' 158 (jZ h + 1) 0 = 0 → jK h' (jZ h + 1) = 4 → jZ h' = jZ h + 1 → Q (.ref (jZ h + 1)) h') : jj_C mX4_addNode 1 9 [.ref (x + 19), .ref a, .ref r'] h Q := by
  obtain ⟨z1, z2, z3, z4⟩ := kz
  have hb := bk_lt k
  have ka := N.1
  have ha : a ≤ jZ h := (jV_le V (by omega)).2
  obtain ⟨n1, n2, n3, n4, n5, n6, n7, n8, l0, f, R0, f1, f2, f3, f4⟩ := id N
  have el := R0.uq Ra
  subst el
  have iA : ∀ tg, jI (wA h 4 0) tg a 0 = jI h tg a 0 := fun tg => by rw [jI_wA, if_neg (by omega)]
  have lA : jL (wA h 4 0) 155 a 0 = jL h 155 a 0 := by rw [jL_wA, if_neg (by omega)]
  have kA : jK (wA h 4 0) a = 4 := by rw [jK_wA, if_neg (by omega)]; exact ka
  refine EX4_addNode _ _ _ fun d => ⟨by omega, by omega, ?_⟩
  rintro _ rfl
  refine ⟨by omega, EX3_init _ fun d2 => ⟨by omega, kA, by rw [jK_wA, if_pos rfl], ?_⟩⟩
  rw [iA, iA, iA, iA, lA, n4, f1, n6, n7, n8]
  refine c_setN (by rw [jK_wA, if_pos rfl]) ?_
  generalize hg1 : setN (wA h 4 0) (jZ h + 1) r' (nI k.1) (nI f) (nI k.2.2.length) (nI (ent k)) k.2.1 = g1
  have Fg : cF (fun _ a' => a' = jZ h + 1) h g1 := by
    rw [← hg1]
    exact cF.wA.trans cF.setN (fun _ _ _ q => q)
  have Zg : jZ g1 = jZ h + 1 := by rw [← hg1]; rfl
  have Mg : cM g1 x := M.cf Fg z2 (fun tg a q => by left; omega)
  have kz1 : jK g1 (jZ h + 1) = 4 := by rw [← hg1]; show jK (wA h 4 0) (jZ h + 1) = 4; rw [jK_wA, if_pos rfl]
  have iz : ∀ tg, jI g1 tg (jZ h + 1) 0 = if tg = 151 then nI k.1 else if tg = 152 then nI f else if tg = 153 then nI k.2.2.length else if tg = 154 then nI (ent k) else 0 := by
    intro tg
    rw [← hg1]
    unfold setN
    rw [jI_wL, jI_wI, jI_wI, jI_wI, jI_wI, jI_wR, jI_wA, if_pos rfl]
    by_cases c1 : tg = 154
    · subst c1; simp
    · by_cases c2 : tg = 153
      · subst c2; simp
      · by_cases c3 : tg = 152
        · subst c3; simp
        · by_cases c4 : tg = 151
          · subst c4; simp
          · simp [c1, c2, c3, c4]
  have rz : jR g1 150 (jZ h + 1) 0 = r' := by
    rw [← hg1]; unfold setN
    show jR (wR (wA h 4 0) 150 (jZ h + 1) 0 r') 150 (jZ h + 1) 0 = r'
    rw [jR_wR, if_pos ⟨rfl, rfl, rfl⟩]
  have lz : jL g1 155 (jZ h + 1) 0 = k.2.1 := by rw [← hg1]; unfold setN; rw [jL_wL, if_pos ⟨rfl, rfl, rfl⟩]
  have Rg : rwO g1 r' w' l0 := R'.cf Fg sr'.1.2.1 sw'.1.2.1 (by have := sr'.1.2.1; omega) (by have := sr'.1.2.1; omega) (by have := sw'.1.2.1; omega)
  have Ng : ndO g1 (jZ h + 1) r' w' k (ent k) := ⟨kz1, rz, by have := sr'.1.1; omega, by rw [iz]; rfl, n5, by rw [iz]; rfl, by rw [iz]; rfl, lz, l0, f, Rg, by rw [iz]; rfl, f2, f3, f4⟩
  refine c_bucket Ng ?_
  have rr : ∀ v, jR (wR g1 156 (jZ h + 1) 0 v) 200 (x + 19) 0 = x + 20 := fun v => by rw [jR_wR, if_neg (by omega)]; exact cM_r200_19 Mg
  simp (disch := omega) only [jj_vi, (cM_k Mg), (cM_r450_0 Mg), (cM_k1 Mg), (cM_n1 Mg), (cM_r451_0 Mg), (cM_k17 Mg), (cM_n17 Mg), (cM_r400_17 Mg), (cM_k18 Mg), (cM_n18 Mg), (cM_r452_0 Mg), (cM_k19 Mg), (cM_n19 Mg), (cM_r200_19 Mg), (cM_k20 Mg), (cM_n20 Mg), (cM_r453_0 Mg), (cM_k21 Mg), (cM_n21 Mg), (cM_r456_0 Mg), (cM_k22 Mg), (cM_n22 Mg), (cM_r458_0 Mg), (cM_k23 Mg), (cM_n23 Mg), (cM_r50_23 Mg), (cM_k24 Mg), (cM_n24 Mg), (cM_r51_23 Mg), (cM_k25 Mg), (cM_n25 Mg), (cM_r459_0 Mg), (cM_k26 Mg), (cM_n26 Mg), (cM_r102_26 Mg), (cM_k27 Mg), (cM_n27 Mg), (cM_r103_26 Mg), (cM_k28 Mg), (cM_n28 Mg), (cM_r104_26 Mg), (cM_k29 Mg), (cM_n29 Mg), (cM_r105_26 Mg), (cM_k30 Mg), (cM_n30 Mg), (cM_r300_30 Mg), (cM_k31 Mg), (cM_n31 Mg), (cM_r106_26 Mg), (cM_k32 Mg), (cM_n32 Mg), (cM_r107_26 Mg), (cM_k33 Mg), (cM_n33 Mg), (cM_r108_26 Mg), (cM_k34 Mg), (cM_n34 Mg), (cM_r460_0 Mg), (cM_k41 Mg), (cM_n41 Mg), (cM_r250_41 Mg), (cM_k42 Mg), (cM_n42 Mg), q_clamp, q_in, nI_leI, nI_ltI, nI_eq, ql_0, qL_0, qt_0, qT_0, qe_0, qc_0, qi_0, ql_1, qL_1, qt_1, qT_1, qe_1, qc_1, qi_1, ql_2, qL_2, qt_2, qT_2, qe_2, qc_2, qi_2, ql_3, qL_3, qt_3, qT_3, qe_3, qc_3, qi_3, ql_4, qL_4, qt_4, qT_4, qe_4, qc_4, qi_4, ql_6, qL_6, qt_6, qT_6, qe_6, qc_6, qi_6, ql_8, qL_8, qt_8, qT_8, qe_8, qc_8, qi_8, ql_10, qL_10, qt_10, qT_10, qe_10, qc_10, qi_10, ql_24, qL_24, qt_24, qT_24, qe_24, qc_24, qi_24, ql_60, qL_60, qt_60, qT_60, qe_60, qc_60, qi_60, ql_100, qL_100, qt_100, qT_100, qe_100, qc_100, qi_100, ql_200, qL_200, qt_200, qT_200, qe_200, qc_200, qi_200, ql_400, qL_400, qt_400, qT_400, qe_400, qc_400, qi_400, ql_600, qL_600, qt_600, qT_600, qe_600, qc_600, qi_600, ql_900, qL_900, qt_900, qT_900, qe_900, qc_900, qi_900, ql_1200, qL_1200, qt_1200, qT_1200, qe_1200, qc_1200, qi_1200, ql_65536, qL_65536, qt_65536, qT_65536, qe_65536, qc_65536, qi_65536, rr, kz1, or_true, true_and, and_true, eq_self, forall_eq, forall_eq_apply_imp_iff]
  have Fw : cF (fun tg a => (a = jZ h + 1 ∧ tg = 156) ∨ (tg = 1000 ∧ a = x + 20)) g1 (wR (wR g1 156 (jZ h + 1) 0 (jR g1 1000 (x + 20) (bk k))) 1000 (x + 20) (bk k) (jZ h + 1)) := (cF.wR (Or.inl ⟨rfl, rfl⟩)).trans (cF.wR (P := fun tg a => (a = jZ h + 1 ∧ tg = 156) ∨ (tg = 1000 ∧ a = x + 20)) (Or.inr ⟨rfl, rfl⟩)) (fun _ _ _ q => q)
  have e20 : ∀ β, jR g1 1000 (x + 20) β = jR h 1000 (x + 20) β := fun β => Fg.er (by omega) (by omega)
  have r156 : jR (wR (wR g1 156 (jZ h + 1) 0 (jR g1 1000 (x + 20) (bk k))) 1000 (x + 20) (bk k) (jZ h + 1)) 156 (jZ h + 1) 0 = jR h 1000 (x + 20) (bk k) := by rw [jR_wR, if_neg (by omega), jR_wR, if_pos ⟨rfl, rfl, rfl⟩, e20]
  have r20 : ∀ β, jR (wR (wR g1 156 (jZ h + 1) 0 (jR g1 1000 (x + 20) (bk k))) 1000 (x + 20) (bk k) (jZ h + 1)) 1000 (x + 20) β = if β = bk k then jZ h + 1 else jR h 1000 (x + 20) β := fun β => by
    rw [jR_wR]
    by_cases e : β = bk k
    · rw [if_pos ⟨rfl, rfl, e⟩, if_pos e]
    · rw [if_neg (by omega), if_neg e, jR_wR, if_neg (by omega), e20]
  have iz2 : ∀ tg, jI (wR (wR g1 156 (jZ h + 1) 0 (jR g1 1000 (x + 20) (bk k))) 1000 (x + 20) (bk k) (jZ h + 1)) tg (jZ h + 1) 0 = jI g1 tg (jZ h + 1) 0 := fun tg => rfl
  have Ff : cF (fun tg a => tg = 1000 ∧ a = x + 20) h (wR (wR g1 156 (jZ h + 1) 0 (jR g1 1000 (x + 20) (bk k))) 1000 (x + 20) (bk k) (jZ h + 1)) := by
    refine ⟨by show jZ h ≤ jZ g1; omega, fun a' ha' => ?_⟩
    refine ⟨(Fw.ek (by omega)).trans (Fg.ek ha'), (Fw.en (by omega)).trans (Fg.en ha'), fun tg i c => ?_⟩
    exact ⟨(Fw.ei (by omega) (by omega)).trans (Fg.ei ha' (by omega)), (Fw.el (by omega) (by omega)).trans (Fg.el ha' (by omega)), (Fw.er (by omega) (by omega)).trans (Fg.er ha' (by omega))⟩
  have wn : ∀ b, Wn (wR (wR g1 156 (jZ h + 1) 0 (jR g1 1000 (x + 20) (bk k))) 1000 (x + 20) (bk k) (jZ h + 1)) x b → Wn h x b := Wn.cf Ff z2 (fun a h1 h2 q => by omega)
  have sf : sF h (wR (wR g1 156 (jZ h + 1) 0 (jR g1 1000 (x + 20) (bk k))) 1000 (x + 20) (bk k) (jZ h + 1)) x m := sF.of Ff (fun tg a s q => by have := s.1.1; omega) (fun b w => Or.inl (wn b w))
  have Nf : ndO (wR (wR g1 156 (jZ h + 1) 0 (jR g1 1000 (x + 20) (bk k))) 1000 (x + 20) (bk k) (jZ h + 1)) (jZ h + 1) r' w' k (ent k) := Ng.cf Fw (by omega) (by have := sr'.1.2.1; omega) (by have := sw'.1.2.1; omega) (fun tg _ _ q => by omega) (by have := sr'.1.2.1; have := sr'.1.1; omega) (by have := sr'.1.2.1; have := sr'.1.1; omega) (by have := sw'.1.2.1; have := sw'.1.1; omega)
  have kNf : kN (wR (wR g1 156 (jZ h + 1) 0 (jR g1 1000 (x + 20) (bk k))) 1000 (x + 20) (bk k) (jZ h + 1)) x m (jZ h + 1) k := ⟨⟨⟨by omega, by show jZ h + 1 ≤ jZ g1; omega, fun w => by have := hW _ (wn _ w); omega⟩, by omega⟩, r', w', sr'.sf sf, sw'.sf sf, Nf⟩
  refine H _ (fun β hβ => ?_) Ff ((iz2 157).trans (by rw [iz]; rfl)) ((iz2 158).trans (by rw [iz]; rfl)) kz1 Zg
  rw [r20]
  unfold uPl
  by_cases e : β = bk k
  · subst e
    rw [if_pos rfl, if_pos rfl]
    refine ⟨⟨rfl, kNf, ?_⟩, ?_, fun q hq => ?_⟩
    · show chn _ x m (jR _ 156 (jZ h + 1) 0) _
      rw [r156]
      exact chn.sf sf _ _ (Po _ hβ).1
    · rw [List.map_cons, List.nodup_cons]
      refine ⟨fun z => ?_, (Po _ hβ).2.1⟩
      obtain ⟨q, q1, q2⟩ := List.mem_map.mp z
      have q2' : q.2 = k := q2
      exact hno q.1 (by rw [← q2']; rw [← q2'] at q1; exact q1)
    · rcases List.mem_cons.mp hq with z | z
      · rw [z]
      · exact (Po _ hβ).2.2 q z
  · rw [if_neg e, if_neg e]
    exact ⟨chn.sf sf _ _ (Po β hβ).1, (Po β hβ).2⟩
end JPo
