/-! the class is made -/
section JI2
variable {h h' h1 : jj_H} {x m n t : Nat} {s : St} {P : Pl} {rs : List (Nat × Nat × Nat × Nat)} {is : List (Nat × Nat × Nat × Int32)} {Q : Value → jj_H → Prop}
theorem tbx5 : ∀ t, t < 3 → KS.getD (2 + 5 * t) (0, 0) = (8, 0) ∧ KS.getD (3 + 5 * t) (0, 0) = (7, 0) ∧ KS.getD (4 + 5 * t) (0, 0) = (21, 800) ∧ KS.getD (5 + 5 * t) (0, 0) = (25, 202) ∧ KS.getD (6 + 5 * t) (0, 0) = (21, 9) := by decide +kernel
theorem i200 : Int32.toNatClampNeg (4 * (if (0 : Int32) < 200 then 200 else 0)) = 800 ∧ ¬ ((4 : Int32) * (if (0 : Int32) < 200 then 200 else 0)) < 0 := by decide +kernel
theorem i001 : Int32.toNatClampNeg (4 * (if (0 : Int32) < 1 then 1 else 0)) = 4 ∧ ¬ ((4 : Int32) * (if (0 : Int32) < 1 then 1 else 0)) < 0 := by decide +kernel
/-- a table of the work is made -/
theorem k_tab {d : jj_D} {bc bs : Nat} (hx : 1 ≤ x) (ht : t < 3) (K : KI x h (2 + 5 * t) rs is) (h450 : rdl rs 450 0 0 = some 1) (hb : 5 ≤ bc) (hs : 1019 ≤ bs) (H : ∀ h', KI x h' (7 + 5 * t) ((1000, 1, t, 2 + 5 * t) :: (352, 2 + 5 * t, 0, 6 + 5 * t) :: (351, 2 + 5 * t, 0, 5 + 5 * t) :: (350, 2 + 5 * t, 0, 3 + 5 * t) :: (300, 3 + 5 * t, 0, 4 + 5 * t) :: rs) ((354, 2 + 5 * t, 0, 1) :: is) → jj_WP d mX9_init (((((bc - 1) - 1) - 1) - 1) - 1) (((((bs - 6) - 2) - 800) - 202) - 9) 14 [(0, .ref x), (1, .int (nI (t + 1)))] [] h' Q) : jj_WP d mX9_init bc bs 14 [(0, .ref x), (1, .int (nI t))] [] h Q := by
  obtain ⟨a1, a2, a3, a4, a5⟩ := tbx5 t ht
  have e1 : jR h 450 x 0 = x + 1 := by have := K.r 450 0 0 (by omega); rw [h450] at this; exact this
  refine VX9_init_14 _ _ ?_
  rw [qL_3 (by omega), K.z, e1, q_clamp (by omega), qa_1]
  refine ⟨fun c => by omega, fun _ => ⟨K.gk 0 (by omega), by omega, by omega, fun h7 e7 => ⟨by omega, by omega, fun h8 e8 => ?_⟩⟩⟩
  have K7 : KI x h7 (3 + 5 * t) rs is := by have := K.A a1 e7; rw [show 2 + 5 * t + 1 = 3 + 5 * t by omega] at this; exact this
  have K8 : KI x h8 (4 + 5 * t) rs is := by have := K7.A a2 e8; rw [show 3 + 5 * t + 1 = 4 + 5 * t by omega] at this; exact this
  rw [K7.z]
  refine ⟨by omega, by omega, by omega, k_rows hx K8 (by omega) (by rw [a2]) a3 i200.1 i200.2 (by decide) (by decide) (by decide) fun h9 K9' => ⟨by omega, by omega, fun h12 e12 => ⟨by omega, by omega, fun h13 e13 => ?_⟩⟩⟩
  have K9 : KI x h9 (5 + 5 * t) ((300, 3 + 5 * t, 0, 4 + 5 * t) :: rs) is := by have := K9'; rw [show 4 + 5 * t + 1 = 5 + 5 * t by omega] at this; exact this
  have K12 : KI x h12 (6 + 5 * t) ((300, 3 + 5 * t, 0, 4 + 5 * t) :: rs) is := by have := K9.A a4 e12; rw [show 5 + 5 * t + 1 = 6 + 5 * t by omega] at this; exact this
  have K13 : KI x h13 (7 + 5 * t) ((300, 3 + 5 * t, 0, 4 + 5 * t) :: rs) is := by have := K12.A a5 e13; rw [show 6 + 5 * t + 1 = 7 + 5 * t by omega] at this; exact this
  rw [K9.z, K12.z]
  refine ⟨by omega, EX7_init _ _ _ _ fun d2 => ⟨by omega, by rw [K13.gk _ (by omega), a1], fun g1 f1 g2 f2 g3 f3 g4 f4 => ?_⟩⟩
  have L1 := K13.R (by omega) f1
  have L2 := L1.R (by omega) f2
  have L3 := L2.R (by omega) f3
  have L4 := L3.I (by omega) f4
  refine ⟨L4.gk 1 (by omega), by rw [L4.gn 1 (by omega)]; exact vp_in_nI ht (by decide), Or.inr (by rw [L4.gk _ (by omega), a1]), fun g5 f5 => H g5 (L4.R (by omega) f5)⟩
/-- the merge's own is made -/
theorem k_mrg (hx : 1 ≤ x) (K : KI x h 27 rs is) (H : ∀ h', KI x h' 41 ((1000, 28, 2, 39) :: (300, 39, 0, 40) :: (1000, 28, 1, 37) :: (300, 37, 0, 38) :: (1000, 28, 0, 35) :: (300, 35, 0, 36) :: (108, 26, 0, 34) :: (107, 26, 0, 33) :: (106, 26, 0, 32) :: (105, 26, 0, 30) :: (300, 30, 0, 31) :: (104, 26, 0, 29) :: (103, 26, 0, 28) :: (102, 26, 0, 27) :: rs) ((301, 30, 0, 1) :: is) → Q (.int 0) h') : jj_C mX2_init 30 6000 [.ref (x + 26)] h Q := by
  refine EX2_init _ fun d => ?_
  rw [K.z]
  refine ⟨by omega, by decide, by decide, fun h1 e1 => ?_⟩
  have K1 : KI x h1 28 _ _ := K.A rfl e1
  refine ⟨K1.gk 26 (by decide), fun h2 e2 => VX2_init_12 _ ?_⟩
  have K2 := K1.R (by decide) e2
  rw [K2.z]
  refine ⟨by decide, by decide, fun h3 e3 => ?_⟩
  have K3 : KI x h3 29 _ _ := K2.A rfl e3
  refine ⟨K3.gk 26 (by decide), fun h4 e4 => VX2_init_20 _ ?_⟩
  have K4 := K3.R (by decide) e4
  rw [K4.z]
  refine ⟨by decide, by decide, fun h5 e5 => ?_⟩
  have K5 : KI x h5 30 _ _ := K4.A rfl e5
  refine ⟨K5.gk 26 (by decide), fun h6 e6 => VX2_init_27 _ ?_⟩
  have K6 := K5.R (by decide) e6
  rw [K6.z]
  refine ⟨by decide, by decide, fun h7 e7 => ?_⟩
  have K7 : KI x h7 31 _ _ := K6.A rfl e7
  refine ⟨by omega, by decide, by decide, k_rows hx K7 (by decide) rfl rfl i001.1 i001.2 (by decide) (by decide) (by decide) fun h8 K8' => ?_⟩
  have K8 : KI x h8 32 _ _ := K8'
  refine ⟨K8.gk 26 (by decide), fun h9 e9 => VX2_init_39 _ ?_⟩
  have K9 := K8.R (by decide) e9
  rw [K9.z]
  refine ⟨by decide, by decide, fun h10 e10 => ?_⟩
  have K10 : KI x h10 33 _ _ := K9.A rfl e10
  refine ⟨K10.gk 26 (by decide), fun h11 e11 => VX2_init_48 _ ?_⟩
  have K11 := K10.R (by decide) e11
  rw [K11.z]
  refine ⟨by decide, by decide, fun h12 e12 => ?_⟩
  have K12 : KI x h12 34 _ _ := K11.A rfl e12
  refine ⟨K12.gk 26 (by decide), fun h13 e13 => VX2_init_57 _ ?_⟩
  have K13 := K12.R (by decide) e13
  rw [K13.z]
  refine ⟨by decide, by decide, fun h14 e14 => ?_⟩
  have K14 : KI x h14 35 _ _ := K13.A rfl e14
  refine ⟨K14.gk 26 (by decide), fun h15 e15 => VX2_init_66 _ ?_⟩
  have K15 := K14.R (by decide) e15
  have r105 : jR h15 105 (x + 26) 0 = x + 30 := K15.r 105 26 0 (by decide)
  rw [r105]
  refine ⟨K15.gk 26 (by decide), K15.gk 30 (by decide), fun h16 e16 => VX2_init_74 _ ?_⟩
  have K16 := K15.I (by decide) e16
  have r103 : jR h16 103 (x + 26) 0 = x + 28 := K16.r 103 26 0 (by decide)
  refine VX2_init_76 _ _ ⟨fun c => absurd c (by decide), fun _ => ?_⟩
  rw [r103, K16.z]
  refine ⟨K16.gk 26 (by decide), by decide, by decide, fun h17 e17 => ?_⟩
  have K17 : KI x h17 36 _ _ := K16.A rfl e17
  refine ⟨by omega, by decide, by decide, k_rows hx K17 (by decide) rfl rfl i200.1 i200.2 (by decide) (by decide) (by decide) fun h18 K18' => ?_⟩
  have K18 : KI x h18 37 _ _ := K18'
  refine ⟨K18.gk 28 (by decide), by rw [K18.gn 28 (by decide)]; exact vp_in_nI (n := 0) (by decide) (by decide), Or.inr (K18.gk 35 (by decide)), fun h19 e19 => ?_⟩
  have K19 := K18.R (i := 0) (by decide) e19
  have r103b : jR h19 103 (x + 26) 0 = x + 28 := K19.r 103 26 0 (by decide)
  refine VX2_init_76 _ _ ⟨fun c => absurd c (by decide), fun _ => ?_⟩
  rw [r103b, K19.z]
  refine ⟨K19.gk 26 (by decide), by decide, by decide, fun h20 e20 => ?_⟩
  have K20 : KI x h20 38 _ _ := K19.A rfl e20
  refine ⟨by omega, by decide, by decide, k_rows hx K20 (by decide) rfl rfl i200.1 i200.2 (by decide) (by decide) (by decide) fun h21 K21' => ?_⟩
  have K21 : KI x h21 39 _ _ := K21'
  refine ⟨K21.gk 28 (by decide), by rw [K21.gn 28 (by decide)]; exact vp_in_nI (n := 1) (by decide) (by decide), Or.inr (K21.gk 37 (by decide)), fun h22 e22 => ?_⟩
  have K22 := K21.R (i := 1) (by decide) e22
  have r103c : jR h22 103 (x + 26) 0 = x + 28 := K22.r 103 26 0 (by decide)
  refine VX2_init_76 _ _ ⟨fun c => absurd c (by decide), fun _ => ?_⟩
  rw [r103c, K22.z]
  refine ⟨K22.gk 26 (by decide), by decide, by decide, fun h23 e23 => ?_⟩
  have K23 : KI x h23 40 _ _ := K22.A rfl e23
  refine ⟨by omega, by decide, by decide, k_rows hx K23 (by decide) rfl rfl i200.1 i200.2 (by decide) (by decide) (by decide) fun h24 K24' => ?_⟩
  have K24 : KI x h24 41 _ _ := K24'
  refine ⟨K24.gk 28 (by decide), by rw [K24.gn 28 (by decide)]; exact vp_in_nI (n := 2) (by decide) (by decide), Or.inr (K24.gk 39 (by decide)), fun h25 e25 => ?_⟩
  have K25 := K24.R (i := 2) (by decide) e25
  exact VX2_init_76 _ _ ⟨fun _ => H h25 K25, fun c => absurd (by decide) c⟩
end JI2
