/-! the law, from its first instruction, on the empty small heap -/
def e0 : jj_H := (fun _ _ _ => 0, fun _ _ _ => 0, fun _ _ _ => 0, fun _ => 0, fun _ => 0, 0)
theorem law_all {d : jj_D} (hN : d.2.2.2.2.1 ≤ 384) : jj_WP d mL_law 600000 7302250 0 [(0, .float 0)] [] e0 (fun v _ => v = .int 1) := by
  refine VL_law_0 ⟨by decide, by decide, fun h1 e1 => ⟨by decide, by decide, by decide, ?_⟩⟩
  have K0 : KI 1 h1 1 [] [] := by
    subst e1
    refine ⟨rfl, fun j hj => ?_, fun tg o i ho => ?_, fun tg o i ho => ?_, fun tg o i ho => ?_, fun e he => (by cases he), fun e he => (by cases he)⟩
    · have : j = 0 := by omega
      subst this
      exact ⟨rfl, rfl⟩
    · have : o = 0 := by omega
      subst this
      rfl
    · have : o = 0 := by omega
      subst this
      rfl
    · have : o = 0 := by omega
      subst this
      rfl
  refine x_init (x := 1) (by decide) K0 fun h2 R2 => ?_
  refine jV_WP fun V2 => VL_law_8 _ ⟨by decide, by decide, fun h5 e5 => ⟨by omega, by decide, by decide, ?_⟩⟩
  have z2 : 1 + 42 ≤ jZ h2 := R2.z.2.1
  subst e5
  refine r_init (by omega) (jZ_wA _ _ _) (by rw [jK_wA, if_pos rfl]) (fun tg i => by rw [jI_wA, if_pos rfl]) (fun tg i => by rw [jL_wA, if_pos rfl]) fun h6 S6 N6 => ?_
  have F : nF h2 h6 := by
    refine ⟨by rw [N6.1]; omega, fun a ha => ?_⟩
    obtain ⟨n1, n2, n3, n4, n5⟩ := N6.2 a (by omega)
    refine ⟨n4.trans (by rw [jK_wA, if_neg (by omega)]), n5.trans (by rw [jN_wA, if_neg (by omega)]), fun tg i _ => ⟨(n1 tg i).trans (by rw [jI_wA, if_neg (by omega)]), (n2 tg i).trans (by rw [jL_wA, if_neg (by omega)]), (n3 tg i).trans (by rw [jR_wA, if_neg (by omega)])⟩⟩
  have R6 : Rc h6 1 (jZ h2 + 1) s0 0 := R2.mv V2 F rfl (by rw [N6.1]; exact Nat.le_refl _)
  exact law_loop (x := 1) (m := jZ h2 + 1) hN (by omega) (fun _ => rfl) 64 0 0 h6 s0 _ _ (by omega) (Nat.le_refl _) (by decide) (by decide) R6 S6 s0_wf
