/-! the class: the other store takes commits -/
section JSe
variable {h h' g : jj_H} {x m n t : Nat} {s : St} {P : Pl} {Q : Value → jj_H → Prop} {S : NK → Prop}
theorem nI_subl (a b : Nat) : nI (a + b) - nI a = nI b := by
  rw [← nI_add a b, Int32.add_comm, Int32.add_sub_cancel]
theorem c_takeAll {y : Int64} (R : Rc h x m s n) (hm : s.made ≤ 60) (hthr : ∀ c, c < 64 → bt s.thr c = true → c < s.made) (hy : ∀ c, c < 64 → bt y c = true → c < s.made) (H : ∀ h', Rc h' x m (s.set6 (s.thr ||| y, s.th)) n → xF h h' x m → Q (.int (nI (s.D (s.thr ||| y)) - nI (s.D s.thr))) h') : jj_C mX5_takeAll 0 0 [.ref (x + 41), .ref (x + 21), .long y] h Q := by
  obtain ⟨⟨P, B⟩, G⟩ := R
  refine EX5_takeAll _ _ _ fun d => ?_
  have hor : ∀ c, c < 64 → bt (s.thr ||| y) c = true → c < s.made := fun c hc hb => by
    rw [bt_or, Bool.or_eq_true] at hb
    exact hb.elim (hthr c hc) (hy c hc)
  -- a commit's three tables
  have inner : ∀ q t (c cnt : Nat) (g : jj_H) (S1 : NK → Prop), c < s.made → t + q = 3 → RcM g x m s n P → RcG g x s → xF h g x m → MT 158 1 d01 g P S1 → cnO S1 (s.D s.thr + cnt) → (∀ g' cnt' S', RcM g' x m s n P → RcG g' x s → xF h g' x m → MT 158 1 d01 g' P S' → cnO S' (s.D s.thr + cnt') → (∀ k, S' k ↔ (S1 k ∨ ∃ u, t ≤ u ∧ u < 3 ∧ k ∈ nks (s.T c u))) → jj_WP d mX5_takeAll 0 0 6 [(0, .ref (x + 41)), (1, .ref (x + 21)), (2, .long y), (4, .int (nI cnt')), (5, .int (nI (c + 1)))] [] g' Q) → jj_WP d mX5_takeAll 0 0 43 [(0, .ref (x + 41)), (1, .ref (x + 21)), (2, .long y), (4, .int (nI cnt)), (5, .int (nI c)), (6, .int 1), (7, .int (nI t))] [] g Q := by
    intro q
    induction q with
    | zero =>
      intro t c cnt g S1 hc ht Bg Gg Xg Mg Og HH
      have K := Bg.2.2.2.2.1 c hc
      have nz : jR g 1000 (x + 21) c ≠ 0 := K.1.nz
      refine VX5_takeAll_43 _ _ _ _ _ _ _ ⟨fun z => absurd z (by decide), fun _ => ⟨cM_k21 Bg.2.1, ?_⟩⟩
      rw [cM_n21 Bg.2.1, q_clamp (by omega), qL_3 (by omega), qa_1]
      refine ⟨vp_in_nI (by omega) (by decide), fun z => absurd z nz, fun _ => ⟨fun _ => HH g cnt S1 Bg Gg Xg Mg Og fun k => ⟨Or.inl, fun z => z.elim id ?_⟩, fun z => by omega⟩⟩
      rintro ⟨u, h1, h2, _⟩
      omega
    | succ q ih =>
      intro t c cnt g S1 hc ht Bg Gg Xg Mg Og HH
      have K := Bg.2.2.2.2.1 c hc
      have nz : jR g 1000 (x + 21) c ≠ 0 := K.1.nz
      have ht3 : t < 3 := by omega
      have k1 : jK g (jR g 1000 (x + 21) c) = 1 := K.2.2.1
      have k2 : jK g (jR g 3 (jR g 1000 (x + 21) c) 0) = 27 := K.2.2.2.2.2.2.1
      have k3 : jN g (jR g 3 (jR g 1000 (x + 21) c) 0) = 3 := K.2.2.2.2.2.2.2.1
      have k4 : kT g x m P (jR g 1000 (jR g 3 (jR g 1000 (x + 21) c) 0) t) (s.T c t) := K.2.2.2.2.2.2.2.2 t ht3
      refine VX5_takeAll_43 _ _ _ _ _ _ _ ⟨fun z => absurd z (by decide), fun _ => ⟨cM_k21 Bg.2.1, ?_⟩⟩
      rw [cM_n21 Bg.2.1, q_clamp (by omega), qL_3 (by omega), q_clamp (by omega), k3, qa_1, qa_1]
      refine ⟨vp_in_nI (by omega) (by decide), fun z => absurd z nz, fun _ => ⟨fun z => by omega, fun _ => ⟨k1, k2, vp_in_nI ht3 (by decide), c_takeNodes Bg k4 Mg fun g' b1 b2 b3 b4 => ?_⟩⟩⟩
      simp only [jj_vi]
      rw [nI_add]
      refine ih (t + 1) c _ g' _ hc (by omega) b1 (b3 Gg) (Xg.trans b2) b4 (by rw [← Nat.add_assoc]; exact Og.add) fun g2 cnt2 S2 c1 c2 c3 c4 c5 c6 => ?_
      refine HH g2 cnt2 S2 c1 c2 c3 c4 c5 fun k => ?_
      rw [c6]
      constructor
      · rintro ((z | z) | ⟨u, h1, h2, h3⟩)
        · exact Or.inr ⟨t, Nat.le_refl _, ht3, z⟩
        · exact Or.inl z
        · exact Or.inr ⟨u, by omega, h2, h3⟩
      · rintro (z | ⟨u, h1, h2, h3⟩)
        · exact Or.inl (Or.inr z)
        · by_cases e : u = t
          · rw [e] at h3; exact Or.inl (Or.inl h3)
          · exact Or.inr ⟨u, by omega, h2, h3⟩
  have loop : ∀ q (c cnt : Nat) (g : jj_H) (S1 : NK → Prop), c + q = 60 → RcM g x m s n P → RcG g x s → xF h g x m → MT 158 1 d01 g P S1 → cnO S1 (s.D s.thr + cnt) → (∀ k, S1 k ↔ (thS s k ∨ ∃ c', c' < c ∧ bt y c' = true ∧ k ∈ nk3 (s.T c'))) → jj_WP d mX5_takeAll 0 0 6 [(0, .ref (x + 41)), (1, .ref (x + 21)), (2, .long y), (4, .int (nI cnt)), (5, .int (nI c))] [] g Q := by
    intro q
    induction q with
    | zero =>
      intro c cnt g S1 hc Bg Gg Xg Mg Og hS
      have M := Bg.2.1
      have zz := Bg.1.2.1
      refine jV_WP fun Vg => VX5_takeAll_6 _ _ _ _ _ ⟨cM_k21 M, ?_⟩
      rw [cM_n21 M, nI_leI (by omega) (by omega)]
      refine ⟨fun _ => ⟨cM_k41 M, ?_⟩, fun z => by omega⟩
      rintro _ rfl _ rfl
      have e1 : jL g 251 (x + 41) 0 = s.thr := Gg.2.2.2.1
      have e2 : jI (wL g 251 (x + 41) 0 (jL g 251 (x + 41) 0 ||| y)) 252 (x + 41) 0 = nI (s.D s.thr) := Gg.2.2.2.2.1
      rw [e2, e1, nI_add]
      have hS2 : ∀ k, S1 k ↔ ∃ c', c' < s.made ∧ bt (s.thr ||| y) c' = true ∧ k ∈ nk3 (s.T c') := by
        intro k
        rw [hS]
        constructor
        · rintro (⟨c', h1, h2, h3⟩ | ⟨c', h1, h2, h3⟩)
          · exact ⟨c', h1, by rw [bt_or, h2]; rfl, h3⟩
          · exact ⟨c', hy c' (by omega) h2, by rw [bt_or, h2, Bool.or_true], h3⟩
        · rintro ⟨c', h1, h2, h3⟩
          rw [bt_or, Bool.or_eq_true] at h2
          rcases h2 with h2 | h2
          · exact Or.inl ⟨c', h1, h2, h3⟩
          · exact Or.inr ⟨c', by omega, h2, h3⟩
      have eD : s.D s.thr + cnt = s.D (s.thr ||| y) := Og.fin fun k => (hS2 k).trans (mem_D hm hor).symm
      rw [eD]
      have Bq : RcB g x m (s.set6 (s.thr ||| y, s.th)) n P := by
        obtain ⟨b1, b2, b3, b4, b5, b6⟩ := Bg
        refine ⟨b1, b2, b3, b4, b5, b6, fun β hβ p hp => ⟨fun z => ?_, fun z => ?_⟩⟩
        · exact (Mg β hβ p hp).2.mp ((hS2 p.2).mpr z)
        · refine (Mg β hβ p hp).1.resolve_right fun w => z ((hS2 p.2).mp ((Mg β hβ p hp).2.mpr w))
      have F : cF (fun tg a => (tg = 251 ∨ tg = 252) ∧ a = x + 41) g (wI (wL g 251 (x + 41) 0 (s.thr ||| y)) 252 (x + 41) 0 (nI (s.D (s.thr ||| y)))) := (cF.wL ⟨Or.inl rfl, rfl⟩).trans (cF.wI (P := fun tg a => (tg = 251 ∨ tg = 252) ∧ a = x + 41) ⟨Or.inr rfl, rfl⟩) (fun _ _ _ z => z)
      have F' : cF (qF x) g (wI (wL g 251 (x + 41) 0 (s.thr ||| y)) 252 (x + 41) 0 (nI (s.D (s.thr ||| y)))) := F.mono fun tg a _ z => ⟨by omega, by omega, by omega⟩
      obtain ⟨f1, f2, f3⟩ := RcB.fix (show (s.set6 (s.thr ||| y, s.th)).made ≤ 60 from hm) Bq Vg F'
      have HH := H _ ⟨⟨P, f1⟩, Gg.1.cf F zz (by omega) (by omega) (by omega) (by omega), Gg.2.1.cf F zz (by omega) (by omega) (by omega), Gg.2.2.1.cf (s := s) F zz (by omega) (by omega) (by omega) (by omega) (fun a _ _ => by omega) (by omega) (by omega) (by omega), ?_, ?_, fun b hb => ?_⟩ (Xg.trans f3)
      · rw [← eD, nI_subl] at HH
        rw [← eD]
        exact HH
      · rw [jL_wI, jL_wL, if_pos ⟨rfl, rfl, rfl⟩]; rfl
      · rw [jI_wI, if_pos ⟨rfl, rfl, rfl⟩]; rfl
      · exact (F.ei (tg := 1000) (a := x + 42) (by omega) (by omega)).trans (Gg.2.2.2.2.2 b hb)
    | succ q ih =>
      intro c cnt g S1 hc Bg Gg Xg Mg Og hS
      have M := Bg.2.1
      have e1 : jL g 251 (x + 41) 0 = s.thr := Gg.2.2.2.1
      refine VX5_takeAll_6 _ _ _ _ _ ⟨cM_k21 M, ?_⟩
      rw [cM_n21 M, nI_leI (by omega) (by omega), e1, bt_shr (by omega), bt_and, bt_not _ (by omega)]
      refine ⟨fun z => by omega, fun _ => ⟨cM_k41 M, fun z => ?_, fun z => ?_⟩⟩
      · refine VX5_takeAll_43 _ _ _ _ _ _ _ ⟨fun _ => ?_, fun w => absurd rfl w⟩
        rw [qa_1]
        refine ih (c + 1) cnt g S1 (by omega) Bg Gg Xg Mg Og fun k => ?_
        rw [hS]
        constructor
        · rintro (w | ⟨c', h1, h2, h3⟩)
          · exact Or.inl w
          · exact Or.inr ⟨c', by omega, h2, h3⟩
        · rintro (w | ⟨c', h1, h2, h3⟩)
          · exact Or.inl w
          · by_cases e : c' = c
            · subst e
              have ht : bt s.thr c' = true := by
                cases w : bt s.thr c' with
                | true => rfl
                | false => rw [h2, w] at z; cases z
              exact Or.inl ⟨c', hthr c' (by omega) ht, ht, h3⟩
            · exact Or.inr ⟨c', by omega, h2, h3⟩
      · have hb : bt y c = true := by
          cases w : bt y c with
          | true => rfl
          | false => rw [w] at z; exact absurd rfl z
        refine inner 3 0 c cnt g S1 (hy c (by omega) hb) (by omega) Bg Gg Xg Mg Og fun g' cnt' S' b1 b2 b3 b4 b5 b6 => ?_
        refine ih (c + 1) cnt' g' S' (by omega) b1 b2 b3 b4 b5 fun k => ?_
        rw [b6, hS]
        constructor
        · rintro ((w | ⟨c', h1, h2, h3⟩) | ⟨u, h1, h2, h3⟩)
          · exact Or.inl w
          · exact Or.inr ⟨c', by omega, h2, h3⟩
          · exact Or.inr ⟨c, by omega, hb, mem_nk3.mpr ⟨u, h2, h3⟩⟩
        · rintro (w | ⟨c', h1, h2, h3⟩)
          · exact Or.inl (Or.inl w)
          · by_cases e : c' = c
            · subst e
              obtain ⟨u, h4, h5⟩ := mem_nk3.mp h3
              exact Or.inr ⟨u, Nat.zero_le _, h4, h5⟩
            · exact Or.inl (Or.inr ⟨c', by omega, h2, h3⟩)
  obtain ⟨b1, b2, b3, b4, b5, b6, b7⟩ := B
  refine loop 60 0 0 h (thS s) (by omega) ⟨b1, b2, b3, b4, b5, b6⟩ G xF.rf (fun β hβ p hp => ?_) ⟨_, rfl, fun k => (mem_D hm hthr).symm⟩ (fun k => ⟨Or.inl, fun z => z.elim id ?_⟩)
  · by_cases th : thS s p.2
    · have := (b7 β hβ p hp).1 th
      exact ⟨Or.inr this, fun _ => this, fun _ => th⟩
    · have := (b7 β hβ p hp).2 th
      exact ⟨Or.inl this, fun z => absurd z th, fun z => by rw [this] at z; exact absurd z (by decide)⟩
  · rintro ⟨c', h1, _⟩
    omega
theorem x_send {y : Int32} (R : Rc h x m s n) (hw : s.wf) (H : ∀ h', Rc h' x m (a_send s y).2 n → xF h h' x m → Q (.int (a_send s y).1) h') : jj_C mX9_send 0 0 [.ref x, .int y] h Q := by
  refine jV_C (by decide +kernel) fun V => ?_
  have bad : ∀ v', a_send s y = (v', s) → Q (.int v') h := fun v' e => by
    have := H h (by rw [e]; exact R) xF.rf
    rw [e] at this
    exact this
  have M := R.M
  have hm := hw.1.2
  have z := R.z
  refine EX9_send _ _ fun d => ⟨cM_k M, x_isHere R (fun b hb => ⟨fun _ => ?_, fun c => absurd c (by decide)⟩) (fun hb => ⟨fun c => absurd rfl c, fun _ => bad _ (by simp only [a_send, hb])⟩)⟩
  obtain ⟨e, hb6, o1, o2, o3, _⟩ := bAt_some hw hb
  have i3 : jI h 1000 (x + 22) b = s.hd b := R.2.1.2.2.1 b hb6
  have i4 : jI h 1000 (x + 42) b = s.th b := R.2.2.2.2.2.2 b hb6
  have cb : aCom (s.hd b) s.made := hw.2.2.2.2.2.1 b hb6
  have lb := lnO_hd hw hb6 o1
  have fin : ¬ (s.th b ≠ -1 ∧ bt (s.an (s.hN b)) (s.tN b) = false) → jj_WP d mX9_send 0 0 49 [(0, .ref x), (1, .int (nI b)), (2, .int (s.hd b))] [] h Q := by
    intro hno
    have ea : a_send s y = (nI (s.D (s.thr ||| s.an (s.hN b))) - nI (s.D s.thr), s.set6 (s.thr ||| s.an (s.hN b), fun y => if y = b then s.hd b else s.th y)) := by simp only [a_send, hb, if_neg hno]
    refine VX9_send_49 _ _ _ ?_
    rw [cM_r460_0 M, cM_r250_41 M, cM_n42 M, q_clamp (by omega)]
    refine ⟨cM_k M, cM_k41 M, cM_k42 M, vp_in_nI hb6 (by decide), ?_⟩
    rintro _ rfl
    have F : cF (fun tg a => tg = 1000 ∧ a = x + 42) h (wI h 1000 (x + 42) b (s.hd b)) := cF.wI ⟨rfl, rfl⟩
    have F' : cF (qF x) h (wI h 1000 (x + 42) b (s.hd b)) := F.mono fun tg a _ q => ⟨by omega, by omega, by omega⟩
    have G := R.2
    have g1 := R.fld (s' := s.set6 (s.thr, fun y => if y = b then s.hd b else s.th y)) hm V F' (fun P B => B) ⟨G.1.cf F z.2.1 (by omega) (by omega) (by omega) (by omega), G.2.1.cf F z.2.1 (by omega) (by omega) (by omega), G.2.2.1.cf (s := s) F z.2.1 (by omega) (by omega) (by omega) (by omega) (fun a _ _ => by omega) (by omega) (by omega) (by omega), (F.el (tg := 251) (a := x + 41) (by have := z.2.1; omega) (by omega)).trans G.2.2.2.1, (F.ei (tg := 252) (a := x + 41) (by have := z.2.1; omega) (by omega)).trans G.2.2.2.2.1, fun b' hb' => ?_⟩
    · have M1 := g1.1.M
      have e1 : jR (wI h 1000 (x + 42) b (s.hd b)) 460 x 0 = x + 41 := cM_r460_0 M1
      have e2 : jR (wI h 1000 (x + 42) b (s.hd b)) 453 x 0 = x + 21 := cM_r453_0 M1
      rw [e1, e2]
      refine x_ln g1.1 hm cb ?_
      have el : lnO (s.set6 (s.thr, fun y => if y = b then s.hd b else s.th y)) (s.hd b) = s.an (s.hN b) := lb
      simp only [jj_vj]
      rw [el]
      refine ⟨cM_k41 M1, c_takeAll g1.1 hm hw.2.2.2.2.2.2.2.2.2.1 (fun c hc hbt => ?_) fun h2 R2 F2 => ?_⟩
      · have := (wf_an hw o3).2.2.1 c hc hbt
        have e3 : s.hN b < (s.set6 (s.thr, fun y => if y = b then s.hd b else s.th y)).made := o3
        omega
      · have HH := H h2 (by rw [ea]; exact R2) (g1.2.trans F2)
        rw [ea] at HH
        exact HH
    · rw [jI_wI]
      show _ = if b' = b then s.hd b else s.th b'
      by_cases c : b' = b
      · rw [if_pos ⟨rfl, rfl, c⟩, if_pos c]
      · rw [if_neg (by omega), if_neg c]; exact G.2.2.2.2.2 b' hb'
  rw [e]
  simp (disch := omega) only [(cM_k M), (cM_r450_0 M), (cM_k1 M), (cM_n1 M), (cM_r451_0 M), (cM_k17 M), (cM_n17 M), (cM_r400_17 M), (cM_k18 M), (cM_n18 M), (cM_r452_0 M), (cM_k19 M), (cM_n19 M), (cM_r200_19 M), (cM_k20 M), (cM_n20 M), (cM_r453_0 M), (cM_k21 M), (cM_n21 M), (cM_r456_0 M), (cM_k22 M), (cM_n22 M), (cM_r458_0 M), (cM_k23 M), (cM_n23 M), (cM_r50_23 M), (cM_k24 M), (cM_n24 M), (cM_r51_23 M), (cM_k25 M), (cM_n25 M), (cM_r459_0 M), (cM_k26 M), (cM_n26 M), (cM_r102_26 M), (cM_k27 M), (cM_n27 M), (cM_r103_26 M), (cM_k28 M), (cM_n28 M), (cM_r104_26 M), (cM_k29 M), (cM_n29 M), (cM_r105_26 M), (cM_k30 M), (cM_n30 M), (cM_r300_30 M), (cM_k31 M), (cM_n31 M), (cM_r106_26 M), (cM_k32 M), (cM_n32 M), (cM_r107_26 M), (cM_k33 M), (cM_n33 M), (cM_r108_26 M), (cM_k34 M), (cM_n34 M), (cM_r460_0 M), (cM_k41 M), (cM_n41 M), (cM_r250_41 M), (cM_k42 M), (cM_n42 M), q_clamp, q_in, nI_leI, nI_ltI, nI_eq, ql_0, qL_0, qt_0, qT_0, qe_0, qc_0, qi_0, ql_1, qL_1, qt_1, qT_1, qe_1, qc_1, qi_1, ql_2, qL_2, qt_2, qT_2, qe_2, qc_2, qi_2, ql_3, qL_3, qt_3, qT_3, qe_3, qc_3, qi_3, ql_4, qL_4, qt_4, qT_4, qe_4, qc_4, qi_4, ql_6, qL_6, qt_6, qT_6, qe_6, qc_6, qi_6, ql_8, qL_8, qt_8, qT_8, qe_8, qc_8, qi_8, ql_10, qL_10, qt_10, qT_10, qe_10, qc_10, qi_10, ql_24, qL_24, qt_24, qT_24, qe_24, qc_24, qi_24, ql_60, qL_60, qt_60, qT_60, qe_60, qc_60, qi_60, ql_100, qL_100, qt_100, qT_100, qe_100, qc_100, qi_100, ql_200, qL_200, qt_200, qT_200, qe_200, qc_200, qi_200, ql_400, qL_400, qt_400, qT_400, qe_400, qc_400, qi_400, ql_600, qL_600, qt_600, qT_600, qe_600, qc_600, qi_600, ql_900, qL_900, qt_900, qT_900, qe_900, qc_900, qi_900, ql_1200, qL_1200, qt_1200, qT_1200, qe_1200, qc_1200, qi_1200, ql_65536, qL_65536, qt_65536, qT_65536, qe_65536, qc_65536, qi_65536, i3, i4, true_and, and_true, eq_self, forall_eq, forall_eq_apply_imp_iff]
  refine x_hasB R (fun b' hb' hh => ⟨fun c => absurd c (by decide), fun _ => ?_⟩) (fun q => ⟨fun _ => fin fun q' => ?_, fun c => absurd rfl c⟩)
  · have eb : b' = b := by rw [lim_nI (by decide) hb6] at hb'; exact (Option.some.inj hb').symm
    subst eb
    obtain ⟨t1, t2⟩ := tN_ok hw hb6 hh
    simp (disch := omega) only [(cM_k M), (cM_r450_0 M), (cM_k1 M), (cM_n1 M), (cM_r451_0 M), (cM_k17 M), (cM_n17 M), (cM_r400_17 M), (cM_k18 M), (cM_n18 M), (cM_r452_0 M), (cM_k19 M), (cM_n19 M), (cM_r200_19 M), (cM_k20 M), (cM_n20 M), (cM_r453_0 M), (cM_k21 M), (cM_n21 M), (cM_r456_0 M), (cM_k22 M), (cM_n22 M), (cM_r458_0 M), (cM_k23 M), (cM_n23 M), (cM_r50_23 M), (cM_k24 M), (cM_n24 M), (cM_r51_23 M), (cM_k25 M), (cM_n25 M), (cM_r459_0 M), (cM_k26 M), (cM_n26 M), (cM_r102_26 M), (cM_k27 M), (cM_n27 M), (cM_r103_26 M), (cM_k28 M), (cM_n28 M), (cM_r104_26 M), (cM_k29 M), (cM_n29 M), (cM_r105_26 M), (cM_k30 M), (cM_n30 M), (cM_r300_30 M), (cM_k31 M), (cM_n31 M), (cM_r106_26 M), (cM_k32 M), (cM_n32 M), (cM_r107_26 M), (cM_k33 M), (cM_n33 M), (cM_r108_26 M), (cM_k34 M), (cM_n34 M), (cM_r460_0 M), (cM_k41 M), (cM_n41 M), (cM_r250_41 M), (cM_k42 M), (cM_n42 M), q_clamp, q_in, nI_leI, nI_ltI, nI_eq, ql_0, qL_0, qt_0, qT_0, qe_0, qc_0, qi_0, ql_1, qL_1, qt_1, qT_1, qe_1, qc_1, qi_1, ql_2, qL_2, qt_2, qT_2, qe_2, qc_2, qi_2, ql_3, qL_3, qt_3, qT_3, qe_3, qc_3, qi_3, ql_4, qL_4, qt_4, qT_4, qe_4, qc_4, qi_4, ql_6, qL_6, qt_6, qT_6, qe_6, qc_6, qi_6, ql_8, qL_8, qt_8, qT_8, qe_8, qc_8, qi_8, ql_10, qL_10, qt_10, qT_10, qe_10, qc_10, qi_10, ql_24, qL_24, qt_24, qT_24, qe_24, qc_24, qi_24, ql_60, qL_60, qt_60, qT_60, qe_60, qc_60, qi_60, ql_100, qL_100, qt_100, qT_100, qe_100, qc_100, qi_100, ql_200, qL_200, qt_200, qT_200, qe_200, qc_200, qi_200, ql_400, qL_400, qt_400, qT_400, qe_400, qc_400, qi_400, ql_600, qL_600, qt_600, qT_600, qe_600, qc_600, qi_600, ql_900, qL_900, qt_900, qT_900, qe_900, qc_900, qi_900, ql_1200, qL_1200, qt_1200, qT_1200, qe_1200, qc_1200, qi_1200, ql_65536, qL_65536, qt_65536, qT_65536, qe_65536, qc_65536, qi_65536, i4, true_and, and_true, eq_self, forall_eq, forall_eq_apply_imp_iff]
    rw [t1]
    refine x_isAncestor R hw (by omega) cb (fun a1 => ⟨fun _ => fin fun q' => ?_, fun c => absurd c (by decide)⟩) (fun a1 => ⟨fun c => absurd rfl c, fun _ => bad _ ?_⟩)
    · rw [lb] at a1
      rw [a1] at q'
      exact absurd q'.2 (by decide)
    · rw [lb] at a1
      simp only [a_send, hb, if_pos (show s.th b' ≠ -1 ∧ bt (s.an (s.hN b')) (s.tN b') = false from ⟨hh, a1⟩)]
  · rcases q with q | ⟨b', h1, h2⟩
    · rw [lim_nI (by decide) hb6] at q; cases q
    · rw [lim_nI (by decide) hb6] at h1
      cases h1
      exact q'.1 h2
end JSe
