/-! the class is made; the reference beside it -/
section JI3
variable {h h' h1 : jj_H} {x m n t : Nat} {s : St} {P : Pl} {Q : Value → jj_H → Prop}
theorem s0_eq : ((sA.add (-1) (-1)).sh 0 (nI sA.made)).set6 ((0 : Int64) ||| 1, fun _ => -1) = s0 := by
  have l0 : lnO sA (-1) = 0 := by unfold lnO; rw [if_pos rfl]
  refine Prod.ext ?_ (Prod.ext (Prod.ext rfl (Prod.ext ?_ (Prod.ext ?_ (Prod.ext ?_ ?_)))) (Prod.ext (Prod.ext ?_ rfl) (Prod.ext rfl (Prod.ext rfl (Prod.ext ?_ rfl)))))
  · funext p u
    show (if p = 0 then [] else []) = []
    split <;> rfl
  · show (0 : Int64) ||| shl 0 = 1
    decide
  · funext c
    show (if c = 0 then (-1 : Int32) else -1) = -1
    split <;> rfl
  · funext c
    show (if c = 0 then (-1 : Int32) else -1) = -1
    split <;> rfl
  · funext c
    show (if c = 0 then (shl 0 ||| lnO sA (-1)) ||| lnO sA (-1) else 1) = 1
    rw [l0]
    split
    · decide
    · rfl
  · funext b
    rfl
  · show (0 : Int64) ||| 1 = 1
    decide
theorem x_init (hx : 1 ≤ x) (K0 : KI x h 1 [] []) (H : ∀ h', Rc h' x 0 s0 0 → Q (.int 0) h') : jj_C mX9_init 7000 80000 [.ref x] h Q := by
  refine EX9_init _ fun d => ?_
  rw [K0.z]
  refine ⟨by omega, by decide, by decide, fun h1 e1 => ?_⟩
  have K1 : KI x h1 2 _ _ := K0.A rfl e1
  refine ⟨K1.gk 0 (by decide), fun h2 e2 => VX9_init_12 _ ?_⟩
  have K2 : KI x h2 2 [(450, 0, 0, 1)] [] := K1.R (o := 0) (by decide) e2
  refine k_tab hx (t := 0) (by decide) K2 rfl (by decide) (by decide) fun h3 K3' => ?_
  have K3 : KI x h3 7 _ _ := K3'
  refine k_tab hx (t := 1) (by decide) K3 rfl (by decide) (by decide) fun h4 K4' => ?_
  have K4 : KI x h4 12 _ _ := K4'
  refine k_tab hx (t := 2) (by decide) K4 rfl (by decide) (by decide) fun h5 K5' => ?_
  have K5 : KI x h5 17 _ _ := K5'
  refine VX9_init_14 _ _ ⟨fun _ => ?_, fun c => absurd (by decide) c⟩
  rw [K5.z]
  refine ⟨by decide, by decide, fun h6 e6 => ?_⟩
  have K6 : KI x h6 18 _ _ := K5.A rfl e6
  refine ⟨by omega, by decide, by decide, EX8_init _ fun d8 => ?_⟩
  rw [K6.z]
  refine ⟨by omega, by decide, by decide, fun h7 e7 => ?_⟩
  have K7 : KI x h7 19 _ _ := K6.A rfl e7
  refine ⟨K7.gk 17 (by decide), fun h8 e8 => ?_⟩
  have K8 := K7.R (by decide) e8
  refine ⟨K8.gk 0 (by decide), fun h9 e9 => VX9_init_69 _ ?_⟩
  have K9 := K8.R (o := 0) (by decide) e9
  rw [K9.z]
  refine ⟨by decide, by decide, fun h10 e10 => ?_⟩
  have K10 : KI x h10 20 _ _ := K9.A rfl e10
  refine ⟨by omega, by decide, by decide, EX4_init _ fun d4 => ?_⟩
  rw [K10.z]
  refine ⟨by omega, by decide, by decide, fun h11 e11 => ?_⟩
  have K11 : KI x h11 21 _ _ := K10.A rfl e11
  refine ⟨K11.gk 19 (by decide), fun h12 e12 => ?_⟩
  have K12 := K11.R (by decide) e12
  refine ⟨K12.gk 0 (by decide), fun h13 e13 => VX9_init_80 _ ?_⟩
  have K13 := K12.R (o := 0) (by decide) e13
  rw [K13.z]
  refine ⟨by decide, by decide, fun h14 e14 => ?_⟩
  have K14 : KI x h14 22 _ _ := K13.A rfl e14
  refine ⟨K14.gk 0 (by decide), fun h15 e15 => VX9_init_89 _ ?_⟩
  have K15 := K14.R (o := 0) (by decide) e15
  rw [K15.z]
  refine ⟨by decide, by decide, fun h16 e16 => ?_⟩
  have K16 : KI x h16 23 _ _ := K15.A rfl e16
  refine ⟨K16.gk 0 (by decide), fun h17 e17 => VX9_init_97 _ ?_⟩
  have K17 := K16.R (o := 0) (by decide) e17
  have r456 : jR h17 456 x 0 = x + 22 := K17.r 456 0 0 (by decide)
  rw [r456]
  refine ⟨K17.gk 0 (by decide), k_fill K17 (by decide) rfl fun h18 K18 => ⟨by decide, by decide, fun h19 e19 => ?_⟩⟩
  rw [K18.z]
  have K19 : KI x h19 24 _ _ := K18.A rfl e19
  refine ⟨by omega, by decide, by decide, EX1_init _ fun d1 => ?_⟩
  rw [K19.z]
  refine ⟨by omega, by decide, by decide, fun h20 e20 => ?_⟩
  have K20 : KI x h20 25 _ _ := K19.A rfl e20
  refine ⟨K20.gk 23 (by decide), fun h21 e21 => ?_⟩
  have K21 := K20.R (by decide) e21
  rw [K21.z]
  refine ⟨by decide, by decide, fun h22 e22 => ?_⟩
  have K22 : KI x h22 26 _ _ := K21.A rfl e22
  refine ⟨K22.gk 23 (by decide), fun h23 e23 => ?_⟩
  have K23 := K22.R (by decide) e23
  refine ⟨K23.gk 0 (by decide), fun h24 e24 => VX9_init_116 _ ?_⟩
  have K24 := K23.R (o := 0) (by decide) e24
  rw [K24.z]
  refine ⟨by decide, by decide, fun h25 e25 => ?_⟩
  have K25 : KI x h25 27 _ _ := K24.A rfl e25
  refine ⟨by omega, by decide, by decide, k_mrg hx K25 fun h26 K26 => ⟨K26.gk 0 (by decide), fun h27 e27 => VX9_init_127 _ ?_⟩⟩
  have K27 := K26.R (o := 0) (by decide) e27
  rw [K27.z]
  refine ⟨by decide, by decide, fun h28 e28 => ?_⟩
  have K28 : KI x h28 42 _ _ := K27.A rfl e28
  refine ⟨by omega, by decide, by decide, EX5_init _ fun d5 => ?_⟩
  rw [K28.z]
  refine ⟨by omega, by decide, by decide, fun h29 e29 => ?_⟩
  have K29 : KI x h29 43 _ _ := K28.A rfl e29
  refine ⟨K29.gk 41 (by decide), fun h30 e30 => ?_⟩
  have K30 := K29.R (by decide) e30
  have r250 : jR h30 250 (x + 41) 0 = x + 42 := K30.r 250 41 0 (by decide)
  rw [r250]
  refine k_fill K30 (by decide) rfl fun h31 K31 => ⟨K31.gk 0 (by decide), fun h32 e32 => VX9_init_138 _ ?_⟩
  have K32 : KI x h32 43 RSx ISx := K31.R (o := 0) (by decide) e32
  clear K31 K30 K29 K28 K27 K26 K25 K24 K23 K22 K21 K20 K19 K18 K17 K16 K15 K14 K13 K12 K11 K10 K9 K8 K7 K6 K5 K5' K4 K4' K3 K3' K2 K1
  obtain ⟨B, G⟩ := k_fin hx K32
  have r456b : jR h32 456 x 0 = x + 22 := K32.r 456 0 0 (by decide)
  rw [r456b]
  refine ⟨cM_k B.2.1, by decide, by decide, x_addCommit B G (by decide) (Or.inl rfl) (Or.inl rfl) (Or.inl rfl) (fun c _ z => by rw [show sA.thr = 0 from rfl, bt_0] at z; cases z) (fun q => absurd q (Nat.lt_irrefl 0)) fun h33 R33 _ => ⟨cM_k22 R33.M, by rw [cM_n22 R33.M]; exact vp_in_nI (n := 0) (by decide) (by decide), fun h34 e34 => ?_⟩⟩
  have ec : Int32.toNatClampNeg (0 : Int32) = 0 := rfl
  rw [ec] at e34
  subst e34
  have e460 : jR (wI h33 1000 (x + 22) 0 (nI sA.made)) 460 x 0 = x + 41 := cM_r460_0 R33.M
  have e453 : jR (wI h33 1000 (x + 22) 0 (nI sA.made)) 453 x 0 = x + 21 := cM_r453_0 R33.M
  refine ⟨cM_k R33.M, by rw [e460]; exact cM_k41 R33.M, ?_⟩
  rw [e460, e453]
  refine jV_C (by decide +kernel) fun V => ?_
  have g := R33.head (b := 0) (v := nI sA.made) (by decide) V (fun q => absurd q (Nat.lt_irrefl 0))
  refine c_takeAll g.1 (by decide) (fun c _ z => ?_) (fun c _ z => ?_) fun h35 R35 _ => ?_
  · rw [show ((sA.add (-1) (-1)).sh 0 (nI sA.made)).thr = 0 from rfl, bt_0] at z; cases z
  · rw [bt_1] at z
    have : c = 0 := of_decide_eq_true z
    show c < 0 + 1
    omega
  · refine H h35 ?_
    have : Rc h35 x 0 (((sA.add (-1) (-1)).sh 0 (nI sA.made)).set6 ((0 : Int64) ||| 1, fun _ => -1)) 0 := R35
    rw [s0_eq] at this
    exact this
/-! the reference's place is chosen -/
section JMv
variable (F : nF h h') (hs : ∀ a, Sc h x 0 a → Sc h' x m a)
theorem kN_mv {b : Nat} {k : NK} (F : nF h h') (hs : ∀ a, Sc h x 0 a → Sc h' x m a) (N : kN h x 0 b k) : kN h' x m b k := by
  obtain ⟨sb, r, w, sr, sw, N⟩ := N
  exact ⟨hs _ sb, r, w, hs _ sr, hs _ sw, N.cf F sb.1.2.1 sr.1.2.1 sw.1.2.1 (fun _ _ _ q => q) id id id⟩
theorem chn_mv (F : nF h h') (hs : ∀ a, Sc h x 0 a → Sc h' x m a) : ∀ (r : List (Nat × NK)) (a : Nat), chn h x 0 a r → chn h' x m a r := by
  intro r
  induction r with
  | nil => intro a c; exact c
  | cons q r ih =>
    intro a c
    obtain ⟨c1, c2, c3⟩ := c
    refine ⟨c1, kN_mv F hs c2, ?_⟩
    rw [F.er c2.1.1.2.1 id]
    exact ih _ c3
theorem kT_mv {tb : Nat} {l : List Row} (F : nF h h') (hs : ∀ a, Sc h x 0 a → Sc h' x m a) (K : kT h x 0 P tb l) : kT h' x m P tb l := by
  obtain ⟨s1, r, w, na, st, s2, s3, s4, s5, f1, R', f2, T⟩ := K
  refine ⟨hs _ s1, r, w, na, st, hs _ s2, hs _ s3, hs _ s4, hs _ s5, (F.er s1.1.2.1 id).trans f1, R'.cf F s2.1.2.1 s3.1.2.1 id id id, (F.ei s1.1.2.1 id).trans f2, T.cf F s1.1.2.1 s4.1.2.1 s5.1.2.1 (fun _ _ _ q => q) id id fun i a r' w' k hi ha q _ => ?_⟩
  obtain ⟨q1, q2, q3, q4⟩ := q
  exact ⟨⟨q1, hs _ q2, hs _ q3, hs _ q4⟩, q2.1.2.1, q3.1.2.1, q4.1.2.1, fun _ _ _ q => q, id, id, id⟩
end JMv
theorem Rc.mv (R : Rc h x 0 s n) (V : jj_V h) (F : nF h h') (hm : m = jZ h + 1) (hz : m + 24 ≤ jZ h') : Rc h' x m s n := by
  obtain ⟨⟨P, ⟨z1, z2, z3, z4⟩, M, W, Po, C, ⟨q, q1, q2, q3, q4, q5⟩, q6⟩, G⟩ := R
  have wn : ∀ b, Wn h' x b → Wn h x b := Wn.cf F z2 (fun _ _ _ q => q)
  have hW : ∀ b, Wn h x b → b ≤ jZ h := by
    rintro b ⟨u, hu, i, hi, e⟩
    rcases (W.1 u hu).2.1.1 i hi with q | q
    · omega
    · rw [← e]; exact (jV_le V (by omega)).2
  have hs : ∀ a, Sc h x 0 a → Sc h' x m a := fun a s => ⟨⟨s.1.1, Nat.le_trans s.1.2.1 F.1, fun z => s.1.2.2 (wn a z)⟩, Or.inl (by have := s.1.2.1; omega)⟩
  have ads : ∀ c, c < s.made → cad h' x c = cad h x c ∧ jR h' 3 (cad h x c) 0 = jR h 3 (cad h x c) 0 ∧ ∀ t, tba h' x c t = tba h x c t := fun c hc => by
    have K := C c hc
    have e1 : cad h' x c = cad h x c := F.er (by omega) id
    have e2 : jR h' 3 (cad h x c) 0 = jR h 3 (cad h x c) 0 := F.er K.1.1.2.1 id
    refine ⟨e1, e2, fun t => ?_⟩
    unfold tba
    rw [e1, e2]
    exact F.er K.2.1.1.2.1 id
  refine ⟨⟨P, ⟨z1, Nat.le_trans z2 F.1, hz, fun a h1 h2 h3 w => by have := hW a (wn a w); omega⟩, M.cf F z2 (fun _ _ q => absurd q id), W.cf V F z2 z1 (fun _ _ q => absurd q id), fun β hβ => ⟨?_, (Po β hβ).2⟩, fun c hc => ?_, ⟨q, q1, q2, (F.ei (by omega) id).trans q3, fun β hβ p hp => ?_, fun c t hc ht => ?_⟩, fun β hβ p hp => ?_⟩, G.cf F z2 (fun _ _ q => absurd q id)⟩
  · rw [F.er (by omega) id]; exact chn_mv F hs _ _ (Po β hβ).1
  · obtain ⟨e1, e2, e3⟩ := ads c hc
    obtain ⟨k1, k2, k3, k4, k5, k6, k7, k8, k9⟩ := C c hc
    unfold kC
    rw [e1, e2]
    refine ⟨hs _ k1, hs _ k2, (F.ek k1.1.2.1).trans k3, (F.ei k1.1.2.1 id).trans k4, (F.ei k1.1.2.1 id).trans k5, (F.el k1.1.2.1 id).trans k6, (F.ek k2.1.2.1).trans k7, (F.en k2.1.2.1).trans k8, fun t ht => ?_⟩
    rw [e3]
    exact kT_mv F hs (k9 t ht)
  · rw [F.ei ((Po β hβ).1.mem p hp).1.1.2.1 id]; exact q4 β hβ p hp
  · rw [(ads c hc).2.2 t, F.ei ((C c hc).2.2.2.2.2.2.2.2 t ht).1.1.2.1 id]; exact q5 c t hc ht
  · rw [F.ei ((Po β hβ).1.mem p hp).1.1.2.1 id]; exact q6 β hβ p hp
/-- the reference was written -/
theorem Rc.rf (R : Rc h x m s n) (hm : s.made ≤ 60) (V : jj_V h) (hx : x + 42 < m) (F : rfr h h' m) : Rc h' x m s n := by
  obtain ⟨⟨P, B⟩, G⟩ := R
  obtain ⟨z1, z2, z3, z4⟩ := id B.1
  have Fc : cF (fun _ a => m ≤ a ∧ a ≤ m + 24) h h' := by
    refine ⟨by unfold jZ; rw [F.1]; exact Nat.le_refl _, fun a ha => ⟨by unfold jK; rw [F.1], by unfold jN; rw [F.1], fun tg i c => ⟨(F.2 tg a i (by omega)).1, (F.2 tg a i (by omega)).2, by unfold jR; rw [F.1]⟩⟩⟩
  have er : ∀ tg a i, jR h' tg a i = jR h tg a i := fun tg a i => by unfold jR; rw [F.1]
  have g := RcB.gen (ls := s.T 60) hm B Fc (fun tg a q => by left; omega) (fun tg a s q => by have := s.2; omega) (by omega) (by omega) (by omega) (B.2.2.1.cf (s := s) V Fc z2 z1 (fun tg a q _ => Or.inr (Or.inr ⟨by omega, z4 a q.1 q.2 (by omega)⟩))) (fun a w => Or.inl (Wn.eq (fun t ht i => er _ _ _) a w))
  rw [St.wk3_self] at g
  exact ⟨⟨P, g.1⟩, G.cf Fc z2 (fun tg a q => by omega)⟩
theorem Rc.up (R : Rc h x m s n) (hn : n + 1 < 1000) : Rc h x m s (n + 1) := by
  obtain ⟨⟨P, b1, b2, b3, b4, b5, ⟨q, q1, q2, q3, q4, q5⟩, q6⟩, G⟩ := R
  exact ⟨⟨P, b1, b2, b3, b4, b5, ⟨q, by omega, hn, q3, q4, q5⟩, q6⟩, G⟩
end JI3
