/-! the class: commit -/
section JCq
variable {h h' g : jj_H} {x m n t : Nat} {s : St} {Q : Value → jj_H → Prop}
theorem add_more (hw : s.wf) : s.add (s.hd s.hand) (if s.mg = 1 then nI s.their else -1) = s.more := by
  obtain ⟨a, b, c⟩ := hand_ok hw
  have hm := hw.1.2
  have e1 : lnO s (s.hd s.hand) = s.an (s.hN s.hand) := lnO_hd hw c hw.2.2.2.2.2.2.1.2.1
  have e2 : lnO s (if s.mg = 1 then nI s.their else -1) = (if s.mg = 1 then s.an s.their else 0) := by
    by_cases q : s.mg = 1
    · have ht := (hw.2.2.2.2.2.2.2.1.2.1 (by omega)).1
      rw [if_pos q, if_pos q]
      unfold lnO
      rw [if_neg (nI_m1 (by omega)), q_clamp (by omega)]
    · rw [if_neg q, if_neg q]
      unfold lnO
      rw [if_pos rfl]
  unfold St.add St.more
  rw [e1, e2]
/-- a head is set, and the merge is over -/
theorem x_headEnd {b : Nat} {v : Int32} (R : Rc h x m s n) (hm : s.made ≤ 60) (H : ∀ h', Rc h' x m (s.sh b v).over n → xF h h' x m → Q (.int 0) h') : jj_C mX2_end 0 0 [.ref (x + 26)] (wI h 1000 (x + 22) b v) Q := by
  refine jV_C (by decide +kernel) fun V' => ?_
  have V : jj_V h := V'
  have M := R.M
  have z := R.z
  refine EX2_end _ fun d => ⟨cM_k26 M, ?_⟩
  rintro _ rfl _ rfl _ rfl
  generalize hf : wI (wI (wI (wI h 1000 (x + 22) b v) 100 (x + 26) 0 0) 109 (x + 26) 0 0) 110 (x + 26) 0 0 = f
  have F : cF (fun tg a => (tg = 1000 ∧ a = x + 22) ∨ ((tg = 100 ∨ tg = 109 ∨ tg = 110) ∧ a = x + 26)) h f := by
    rw [← hf]
    have c1 : ∀ {g : jj_H} {tg : Nat} {w : Int32}, (tg = 100 ∨ tg = 109 ∨ tg = 110) → cF (fun tg a => (tg = 1000 ∧ a = x + 22) ∨ ((tg = 100 ∨ tg = 109 ∨ tg = 110) ∧ a = x + 26)) g (wI g tg (x + 26) 0 w) := fun q => cF.wI (Or.inr ⟨q, rfl⟩)
    exact (((cF.wI (Or.inl ⟨rfl, rfl⟩)).trans (c1 (by omega)) (fun _ _ _ q => q)).trans (c1 (by omega)) (fun _ _ _ q => q)).trans (c1 (by omega)) (fun _ _ _ q => q)
  have F' : cF (qF x) h f := F.mono fun tg a _ q => ⟨by omega, by omega, by omega⟩
  have zz := z.2.1
  have G := R.2
  have g := R.fld (s' := (s.sh b v).over) hm V F' (fun P B => B) ⟨⟨?_, ?_, fun y hy => ?_, ?_⟩, G.2.1.cf F z.2.1 (by omega) (by omega) (by omega), ⟨?_, fun q => absurd q (Nat.lt_irrefl 0), ⟨?_, ?_, fun i c hc => by cases hc⟩, ?_⟩, G.2.2.2.cf (s := s) F z.2.1 (by omega) (by omega) (by omega)⟩
  · exact H _ g.1 g.2
  · exact (F.ei (tg := 454) (a := x) (by omega) (by omega)).trans G.1.1
  · exact (F.el (tg := 455) (a := x) (by omega) (by omega)).trans G.1.2.1
  · rw [← hf, jI_wI, if_neg (by omega), jI_wI, if_neg (by omega), jI_wI, if_neg (by omega), jI_wI]
    show _ = if y = b then v else s.hd y
    by_cases e : y = b
    · rw [if_pos ⟨rfl, rfl, e⟩, if_pos e]
    · rw [if_neg (by omega), if_neg e]; exact G.1.2.2.1 y hy
  · exact (F.ei (tg := 457) (a := x) (by omega) (by omega)).trans G.1.2.2.2
  · rw [← hf, jI_wI, if_neg (by omega), jI_wI, if_neg (by omega), jI_wI, if_pos ⟨rfl, rfl, rfl⟩]; rfl
  · rw [← hf, jI_wI, if_neg (by omega), jI_wI, if_pos ⟨rfl, rfl, rfl⟩]; rfl
  · rw [← hf, jI_wI, if_pos ⟨rfl, rfl, rfl⟩]; rfl
  · exact (F.ei (tg := 301) (a := x + 30) (by omega) (by omega)).trans G.2.2.1.2.2.2
theorem x_commit (R : Rc h x m s n) (hw : s.wf) (H : ∀ h', Rc h' x m (a_commit s).2 n → xF h h' x m → Q (.int (a_commit s).1) h') : jj_C mX9_commit 5480 53000 [.ref x] h Q := by
  have bad : ∀ v', a_commit s = (v', s) → Q (.int v') h := fun v' e => by
    have := H h (by rw [e]; exact R) xF.rf
    rw [e] at this
    exact this
  have M := R.M
  have hm := hw.1.2
  have hmg := R.mg
  obtain ⟨p1, p2, p3⟩ := hand_ok hw
  have i110 : jI h 110 (x + 26) 0 = nI (opn s) := R.2.2.2.1.2.2.1.2.1
  have hl : s.cf.length ≤ 900 := hw.2.2.2.2.2.2.2.1.2.2.2.1
  have ho : opn s ≤ s.cf.length := List.countP_le_length
  have o0 : ¬ 0 < s.mg → opn s = 0 := fun q => by
    have e := hw.2.2.2.2.2.2.2.1.2.2.1 (by omega)
    unfold opn
    rw [e]
    rfl
  have fin : ∀ d, ¬ 0 < opn s → ¬ (s.mg = 0 ∧ s.cln = true) → jj_WP d mX9_commit 5480 53000 42 [(0, .ref x)] [] h Q := by
    intro d c1 c2
    have i1 : jI h 457 x 0 = nI s.hand := R.2.1.2.2.2
    have i2 : jI h 1000 (x + 22) s.hand = s.hd s.hand := R.2.1.2.2.1 s.hand p3
    have i3 : jI h 454 x 0 = nI s.made := R.2.1.1
    refine VX9_commit_42 _ ?_
    rw [i3, qt_60 (by omega), cM_r456_0 M, cM_r459_0 M, i1, hmg, q_clamp (by omega), i2]
    refine ⟨cM_k M, fun c60 => ?_, fun c60 => bad _ ?_⟩
    · have e : a_commit s = (nI s.made, (s.more.sh s.hand (nI s.made)).over) := by unfold a_commit; rw [if_neg c1, if_neg c2, if_neg (by omega)]
      have rest : ∀ h3, Rc h3 x m s.more n → xF h h3 x m → jK h3 (x + 22) = 21 ∧ (vp_in (nI s.hand) (jN h3 (x + 22)) ∧ (∀ h7, h7 = wI h3 1000 (x + 22) s.hand (nI s.made) → (jK h3 x = 10 ∧ (jK h3 (jR h7 459 x 0) = 3 ∧ (jj_C mX2_end 0 0 [.ref (jR h7 459 x 0)] h7 (fun v9 h8 => jK h8 x = 10 ∧ (jK h8 (jR h8 456 x 0) = 21 ∧ (vp_in (jI h8 457 x 0) (jN h8 (jR h8 456 x 0)) ∧ (Q (.int (jI h8 1000 (jR h8 456 x 0) (Int32.toNatClampNeg (jI h8 457 x 0)))) h8))))))))) := by
        intro h3 R3 F3
        have M3 := R3.M
        refine ⟨cM_k22 M3, by rw [cM_n22 M3]; exact vp_in_nI p3 (by decide), ?_⟩
        rintro _ rfl
        have e459 : jR (wI h3 1000 (x + 22) s.hand (nI s.made)) 459 x 0 = x + 26 := cM_r459_0 M3
        rw [e459]
        refine ⟨cM_k M3, cM_k26 M3, x_headEnd R3 (by show s.made + 1 ≤ 60; omega) fun h8 R8 F8 => ?_⟩
        have HH := H h8 (by rw [e]; exact R8) (F3.trans F8)
        rw [e] at HH
        have M8 := R8.M
        have j1 : jI h8 457 x 0 = nI s.hand := R8.2.1.2.2.2
        have j2 : jI h8 1000 (x + 22) s.hand = nI s.made := by
          have := R8.2.1.2.2.1 s.hand p3
          rw [this]
          show (if s.hand = s.hand then nI s.made else _) = _
          rw [if_pos rfl]
        rw [cM_r456_0 M8, j1, q_clamp (by omega), cM_n22 M8, j2]
        exact ⟨cM_k M8, cM_k22 M8, vp_in_nI p3 (by decide), HH⟩
      obtain ⟨⟨P, B⟩, G⟩ := R
      have ch : aCom (s.hd s.hand) s.made := hw.2.2.2.2.2.1 s.hand p3
      have am := add_more hw
      have hthr : ∀ c, c < 64 → bt s.thr c = true → c < s.made := hw.2.2.2.2.2.2.2.2.2.1
      have hvp : 0 < s.mg → ∀ k, k < 3 → s.vPl k < s.made := fun q k _ => vPl_ok hw q k
      refine ⟨cM_k22 M, by rw [cM_n22 M]; exact vp_in_nI p3 (by decide), cM_k26 M, fun c => ⟨Nat.le_refl _, Nat.le_refl _, ?_⟩, fun c => ⟨Nat.le_refl _, Nat.le_refl _, ?_⟩⟩
      · have hg := mg_0 c
        rw [if_neg (by omega)] at am
        refine x_addCommit B G c60 ch (Or.inl rfl) (Or.inr hw) hthr hvp fun h3 R3 F3 => ?_
        rw [am] at R3
        exact rest h3 R3 F3
      · have hg := mg_1 c
        have k1 := (G.2.2.1.2.1 hg).1
        rw [k1]
        have hv2 : aCom (if s.mg = 1 then nI s.their else -1) s.made := by
          by_cases q : s.mg = 1
          · rw [if_pos q]; exact Or.inr ⟨s.their, rfl, (hw.2.2.2.2.2.2.2.1.2.1 hg).1⟩
          · rw [if_neg q]; exact Or.inl rfl
        refine x_addCommit B G c60 ch hv2 (Or.inr hw) hthr hvp fun h3 R3 F3 => ?_
        rw [am] at R3
        exact rest h3 R3 F3
    · unfold a_commit
      rw [if_neg c1, if_neg c2, if_pos (by omega)]
  refine EX9_commit _ fun d => ?_
  rw [cM_r459_0 M, hmg, i110, ql_0 (by omega)]
  refine ⟨cM_k M, cM_k26 M, fun c => ⟨fun c' => absurd c c', fun _ => x_isClean R hw (fun q => ⟨fun c => absurd c (by decide), fun _ => bad _ ?_⟩) (fun q => ⟨fun _ => fin d ?_ ?_, fun c => absurd rfl c⟩)⟩, fun c => ⟨fun c2 => ⟨fun _ => fin d ?_ ?_, fun c' => absurd c' c⟩, fun c2 => bad _ ?_⟩⟩
  · have hg := mg_0 c
    have := o0 hg
    unfold a_commit
    rw [if_neg (by omega), if_pos ⟨by omega, q⟩]
  · have := o0 (mg_0 c)
    omega
  · exact fun z => by rw [q] at z; exact absurd z.2 (by decide)
  · omega
  · have := mg_1 c
    exact fun z => by omega
  · unfold a_commit
    rw [if_pos (by omega)]
end JCq
