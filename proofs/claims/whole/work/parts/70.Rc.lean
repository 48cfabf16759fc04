/-! the class: what changes -/
/-- of the cells that were there, only the places of P have changed -/
def cF (P : Nat → Nat → Prop) (h h' : jj_H) : Prop := jZ h ≤ jZ h' ∧ ∀ a, a ≤ jZ h → jK h' a = jK h a ∧ jN h' a = jN h a ∧ ∀ tg i, ¬ P tg a → jI h' tg a i = jI h tg a i ∧ jL h' tg a i = jL h tg a i ∧ jR h' tg a i = jR h tg a i
section JF
variable {P P' : Nat → Nat → Prop} {h h' h1 h2 : jj_H} {tg a i : Nat}
theorem cF.z (F : cF P h h') : jZ h ≤ jZ h' := F.1
theorem cF.ek (F : cF P h h') (ha : a ≤ jZ h) : jK h' a = jK h a := (F.2 a ha).1
theorem cF.en (F : cF P h h') (ha : a ≤ jZ h) : jN h' a = jN h a := (F.2 a ha).2.1
theorem cF.ei (F : cF P h h') (ha : a ≤ jZ h) (hp : ¬ P tg a) : jI h' tg a i = jI h tg a i := ((F.2 a ha).2.2 tg i hp).1
theorem cF.el (F : cF P h h') (ha : a ≤ jZ h) (hp : ¬ P tg a) : jL h' tg a i = jL h tg a i := ((F.2 a ha).2.2 tg i hp).2.1
theorem cF.er (F : cF P h h') (ha : a ≤ jZ h) (hp : ¬ P tg a) : jR h' tg a i = jR h tg a i := ((F.2 a ha).2.2 tg i hp).2.2
theorem cF.rf : cF P h h := ⟨Nat.le_refl _, fun _ _ => ⟨rfl, rfl, fun _ _ _ => ⟨rfl, rfl, rfl⟩⟩⟩
theorem cF.trans (p : cF P h h1) (q : cF P' h1 h2) (hp : ∀ tg a, a ≤ jZ h → P' tg a → P tg a) : cF P h h2 :=
  ⟨Nat.le_trans p.1 q.1, fun a ha => by
    have ha1 : a ≤ jZ h1 := Nat.le_trans ha p.1
    refine ⟨(q.ek ha1).trans (p.ek ha), (q.en ha1).trans (p.en ha), fun tg i c => ?_⟩
    have c' : ¬ P' tg a := fun z => c (hp tg a ha z)
    exact ⟨(q.ei ha1 c').trans (p.ei ha c), (q.el ha1 c').trans (p.el ha c), (q.er ha1 c').trans (p.er ha c)⟩⟩
theorem cF.mono (p : cF P h h') (hp : ∀ tg a, a ≤ jZ h → P tg a → P' tg a) : cF P' h h' := ⟨p.1, fun a ha => ⟨p.ek ha, p.en ha, fun tg i c => (p.2 a ha).2.2 tg i (fun z => c (hp tg a ha z))⟩⟩
theorem cF.wI {v : Int32} (hp : P tg a) : cF P h (wI h tg a i v) := ⟨Nat.le_refl _, fun a' _ => ⟨rfl, rfl, fun tg' i' c => ⟨by rw [jI_wI, if_neg (fun z => c (by rw [z.1, z.2.1]; exact hp))], rfl, rfl⟩⟩⟩
theorem cF.wL {v : Int64} (hp : P tg a) : cF P h (wL h tg a i v) := ⟨Nat.le_refl _, fun a' _ => ⟨rfl, rfl, fun tg' i' c => ⟨rfl, by rw [jL_wL, if_neg (fun z => c (by rw [z.1, z.2.1]; exact hp))], rfl⟩⟩⟩
theorem cF.wR {v : Nat} (hp : P tg a) : cF P h (wR h tg a i v) := ⟨Nat.le_refl _, fun a' _ => ⟨rfl, rfl, fun tg' i' c => ⟨rfl, rfl, by rw [jR_wR, if_neg (fun z => c (by rw [z.1, z.2.1]; exact hp))]⟩⟩⟩
theorem cF.wA {k n : Nat} : cF P h (wA h k n) := ⟨by rw [jZ_wA]; omega, fun a' ha => ⟨by rw [jK_wA, if_neg (by omega)], by rw [jN_wA, if_neg (by omega)], fun tg' i' c => ⟨by rw [jI_wA, if_neg (by omega)], by rw [jL_wA, if_neg (by omega)], by rw [jR_wA, if_neg (by omega)]⟩⟩⟩
end JF
def pW (r w : Nat) : Nat → Nat → Prop := fun tg a => (tg = 1000 ∧ a = w) ∨ (tg = 301 ∧ a = r)
theorem wFr.toC {h h' : jj_H} {r w : Nat} (F : wFr h h' r w) : cF (pW r w) h h' := by
  obtain ⟨f1, f2⟩ := F
  refine ⟨by unfold jZ; rw [f1]; exact Nat.le_refl _, fun a ha => ⟨by unfold jK; rw [f1], by unfold jN; rw [f1], fun tg i c => ⟨f2 _ _ _ (fun z => c (Or.inl z)) (fun z => c (Or.inr z)), by unfold jL; rw [f1], by unfold jR; rw [f1]⟩⟩⟩
def pB (h : jj_H) (b u : Nat) : Nat → Nat → Prop := fun tg a => isN h b a ∨ (a = b ∧ (tg = 353 ∨ tg = 354)) ∨ (tg = 1000 ∧ (a = b + 3 ∨ a = b + 4 ∨ a = u))
theorem toCb {h h' : jj_H} {b u : Nat} (F : bF h h' b u) : cF (pB h b u) h h' := by
  refine ⟨F.1, fun a ha => ⟨(F.2.1 a ha).1, (F.2.1 a ha).2, fun tg i c => ?_⟩⟩
  have c1 : ¬ isN h b a := fun z => c (Or.inl z)
  have c2 : ¬ (a = b ∧ (tg = 353 ∨ tg = 354)) := fun z => c (Or.inr (Or.inl z))
  have c3 : ¬ (tg = 1000 ∧ (a = b + 3 ∨ a = b + 4 ∨ a = u)) := fun z => c (Or.inr (Or.inr z))
  exact ⟨F.2.2.1 _ _ _ ha c1 c2 (by omega), F.2.2.2.1 _ _ _ ha c1, F.2.2.2.2.1 _ _ _ ha c1 (by omega)⟩
theorem rwO.cf {P : Nat → Nat → Prop} {h h' : jj_H} {r w : Nat} {l : List Row} (R : rwO h r w l) (F : cF P h h') (hr : r ≤ jZ h) (hw : w ≤ jZ h) (p1 : ¬ P 300 r) (p2 : ¬ P 301 r) (p3 : ¬ P 1000 w) : rwO h' r w l := by
  obtain ⟨z1, z2, z3, z4, z5, z6, z7, z8⟩ := R
  exact ⟨(F.ek hr).trans z1, (F.er hr p1).trans z2, (F.ek hw).trans z3, by rw [F.en hw]; exact z4, by rw [F.en hw]; exact z5, (F.ei hr p2).trans z6, z7, fun i x c hx hc => (F.ei hw p3).trans (z8 i x c hx hc)⟩
theorem ndO.cf {P : Nat → Nat → Prop} {h h' : jj_H} {a r w e : Nat} {k : NK} (N : ndO h a r w k e) (F : cF P h h') (ha : a ≤ jZ h) (hr : r ≤ jZ h) (hw : w ≤ jZ h) (p : ∀ tg, 150 ≤ tg → tg ≤ 155 → ¬ P tg a) (p1 : ¬ P 300 r) (p2 : ¬ P 301 r) (p3 : ¬ P 1000 w) : ndO h' a r w k e :=
  N.fr (fun l R => R.cf F hr hw p1 p2 p3) (F.ek ha) (F.er ha (p _ (by decide) (by decide))) (fun tg q1 q2 => F.ei ha (p _ (by omega) (by omega))) (F.el ha (p _ (by decide) (by decide)))
theorem tbX.cf {P : Nat → Nat → Prop} {S S' : Nat → Nat → Nat → NK → Prop} {h h' : jj_H} {tb na st : Nat} {l : List Row} {X : List (List Nd)} (T : tbX S h tb na st l X) (F : cF P h h') (h1 : tb ≤ jZ h) (h2 : na ≤ jZ h) (h3 : st ≤ jZ h) (p1 : ∀ tg, 351 ≤ tg → tg ≤ 353 → ¬ P tg tb) (p2 : ¬ P 1000 na) (p3 : ¬ P 1000 st) (hS : ∀ i a r w k, i < (flat X).length → a = jR h 1000 na i → S a r w k → (∃ e, ndO h a r w k e) → S' a r w k ∧ a ≤ jZ h ∧ r ≤ jZ h ∧ w ≤ jZ h ∧ (∀ tg, 150 ≤ tg → tg ≤ 155 → ¬ P tg a) ∧ ¬ P 300 r ∧ ¬ P 301 r ∧ ¬ P 1000 w) : tbX S' h' tb na st l X := by
  obtain ⟨t1, t2, t3, t4, t5, t6, t7, t8, t9, t10, t11, t12⟩ := T
  refine ⟨(F.ek h1).trans t1, (F.er h1 (p1 _ (by decide) (by decide))).trans t2, (F.er h1 (p1 _ (by decide) (by decide))).trans t3, (F.ek h2).trans t4, (F.ek h3).trans t5, by rw [F.en h3]; exact t6, by rw [F.en h3]; exact t7, by rw [F.en h2]; exact t8, by rw [F.en h2]; exact t9, (F.ei h1 (p1 _ (by decide) (by decide))).trans t10, fun lv hlv => (F.ei h3 p3).trans (t11 lv hlv), fun i nd hi => ?_⟩
  obtain ⟨r, w, s, N⟩ := t12 i nd hi
  obtain ⟨s', q1, q2, q3, q4, q5, q6, q7⟩ := hS i _ r w _ (List.getElem?_eq_some_iff.mp hi).1 rfl s ⟨_, N⟩
  rw [F.er h2 p2]
  exact ⟨r, w, s', N.cf F q1 q2 q3 q4 q5 q6 q7⟩
/-! the class at x: its fixed cells -/
def cT : List (Nat × Nat × Nat × Nat × Nat) := [(450, 0, 1, 27, 3), (451, 0, 17, 9, 0), (400, 17, 18, 21, 400), (452, 0, 19, 5, 0), (200, 19, 20, 25, 4096), (453, 0, 21, 24, 60), (456, 0, 22, 21, 6), (458, 0, 23, 2, 0), (50, 23, 24, 21, 400), (51, 23, 25, 21, 400), (459, 0, 26, 3, 0), (102, 26, 27, 24, 3), (103, 26, 28, 26, 3), (104, 26, 29, 21, 3), (105, 26, 30, 7, 0), (300, 30, 31, 21, 4), (106, 26, 32, 21, 900), (107, 26, 33, 21, 900), (108, 26, 34, 23, 900), (460, 0, 41, 6, 0), (250, 41, 42, 21, 6)]
def cM (h : jj_H) (x : Nat) : Prop := jK h x = 10 ∧ (∀ q ∈ cT, jR h q.1 (x + q.2.1) 0 = x + q.2.2.1 ∧ jK h (x + q.2.2.1) = q.2.2.2.1 ∧ jN h (x + q.2.2.1) = q.2.2.2.2) ∧ ∀ t, t < 3 → jR h 1000 (x + 1) t = x + 2 + 5 * t ∧ jR h 1000 (x + 28) t = x + 35 + 2 * t ∧ jK h (x + 35 + 2 * t) = 7 ∧ jR h 300 (x + 35 + 2 * t) 0 = x + 36 + 2 * t ∧ jK h (x + 36 + 2 * t) = 21 ∧ jN h (x + 36 + 2 * t) = 800
theorem cM_k {h : jj_H} {x : Nat} (M : cM h x) : jK h x = 10 := M.1
theorem cM_r450_0 {h : jj_H} {x : Nat} (M : cM h x) : jR h 450 x 0 = x + 1 := (M.2.1 (450, 0, 1, 27, 3) (by decide)).1
theorem cM_k1 {h : jj_H} {x : Nat} (M : cM h x) : jK h (x + 1) = 27 := (M.2.1 (450, 0, 1, 27, 3) (by decide)).2.1
theorem cM_n1 {h : jj_H} {x : Nat} (M : cM h x) : jN h (x + 1) = 3 := (M.2.1 (450, 0, 1, 27, 3) (by decide)).2.2
theorem cM_r451_0 {h : jj_H} {x : Nat} (M : cM h x) : jR h 451 x 0 = x + 17 := (M.2.1 (451, 0, 17, 9, 0) (by decide)).1
theorem cM_k17 {h : jj_H} {x : Nat} (M : cM h x) : jK h (x + 17) = 9 := (M.2.1 (451, 0, 17, 9, 0) (by decide)).2.1
theorem cM_n17 {h : jj_H} {x : Nat} (M : cM h x) : jN h (x + 17) = 0 := (M.2.1 (451, 0, 17, 9, 0) (by decide)).2.2
theorem cM_r400_17 {h : jj_H} {x : Nat} (M : cM h x) : jR h 400 (x + 17) 0 = x + 18 := (M.2.1 (400, 17, 18, 21, 400) (by decide)).1
theorem cM_k18 {h : jj_H} {x : Nat} (M : cM h x) : jK h (x + 18) = 21 := (M.2.1 (400, 17, 18, 21, 400) (by decide)).2.1
theorem cM_n18 {h : jj_H} {x : Nat} (M : cM h x) : jN h (x + 18) = 400 := (M.2.1 (400, 17, 18, 21, 400) (by decide)).2.2
theorem cM_r452_0 {h : jj_H} {x : Nat} (M : cM h x) : jR h 452 x 0 = x + 19 := (M.2.1 (452, 0, 19, 5, 0) (by decide)).1
theorem cM_k19 {h : jj_H} {x : Nat} (M : cM h x) : jK h (x + 19) = 5 := (M.2.1 (452, 0, 19, 5, 0) (by decide)).2.1
theorem cM_n19 {h : jj_H} {x : Nat} (M : cM h x) : jN h (x + 19) = 0 := (M.2.1 (452, 0, 19, 5, 0) (by decide)).2.2
theorem cM_r200_19 {h : jj_H} {x : Nat} (M : cM h x) : jR h 200 (x + 19) 0 = x + 20 := (M.2.1 (200, 19, 20, 25, 4096) (by decide)).1
theorem cM_k20 {h : jj_H} {x : Nat} (M : cM h x) : jK h (x + 20) = 25 := (M.2.1 (200, 19, 20, 25, 4096) (by decide)).2.1
theorem cM_n20 {h : jj_H} {x : Nat} (M : cM h x) : jN h (x + 20) = 4096 := (M.2.1 (200, 19, 20, 25, 4096) (by decide)).2.2
theorem cM_r453_0 {h : jj_H} {x : Nat} (M : cM h x) : jR h 453 x 0 = x + 21 := (M.2.1 (453, 0, 21, 24, 60) (by decide)).1
theorem cM_k21 {h : jj_H} {x : Nat} (M : cM h x) : jK h (x + 21) = 24 := (M.2.1 (453, 0, 21, 24, 60) (by decide)).2.1
theorem cM_n21 {h : jj_H} {x : Nat} (M : cM h x) : jN h (x + 21) = 60 := (M.2.1 (453, 0, 21, 24, 60) (by decide)).2.2
theorem cM_r456_0 {h : jj_H} {x : Nat} (M : cM h x) : jR h 456 x 0 = x + 22 := (M.2.1 (456, 0, 22, 21, 6) (by decide)).1
theorem cM_k22 {h : jj_H} {x : Nat} (M : cM h x) : jK h (x + 22) = 21 := (M.2.1 (456, 0, 22, 21, 6) (by decide)).2.1
theorem cM_n22 {h : jj_H} {x : Nat} (M : cM h x) : jN h (x + 22) = 6 := (M.2.1 (456, 0, 22, 21, 6) (by decide)).2.2
theorem cM_r458_0 {h : jj_H} {x : Nat} (M : cM h x) : jR h 458 x 0 = x + 23 := (M.2.1 (458, 0, 23, 2, 0) (by decide)).1
theorem cM_k23 {h : jj_H} {x : Nat} (M : cM h x) : jK h (x + 23) = 2 := (M.2.1 (458, 0, 23, 2, 0) (by decide)).2.1
theorem cM_n23 {h : jj_H} {x : Nat} (M : cM h x) : jN h (x + 23) = 0 := (M.2.1 (458, 0, 23, 2, 0) (by decide)).2.2
theorem cM_r50_23 {h : jj_H} {x : Nat} (M : cM h x) : jR h 50 (x + 23) 0 = x + 24 := (M.2.1 (50, 23, 24, 21, 400) (by decide)).1
theorem cM_k24 {h : jj_H} {x : Nat} (M : cM h x) : jK h (x + 24) = 21 := (M.2.1 (50, 23, 24, 21, 400) (by decide)).2.1
theorem cM_n24 {h : jj_H} {x : Nat} (M : cM h x) : jN h (x + 24) = 400 := (M.2.1 (50, 23, 24, 21, 400) (by decide)).2.2
theorem cM_r51_23 {h : jj_H} {x : Nat} (M : cM h x) : jR h 51 (x + 23) 0 = x + 25 := (M.2.1 (51, 23, 25, 21, 400) (by decide)).1
theorem cM_k25 {h : jj_H} {x : Nat} (M : cM h x) : jK h (x + 25) = 21 := (M.2.1 (51, 23, 25, 21, 400) (by decide)).2.1
theorem cM_n25 {h : jj_H} {x : Nat} (M : cM h x) : jN h (x + 25) = 400 := (M.2.1 (51, 23, 25, 21, 400) (by decide)).2.2
theorem cM_r459_0 {h : jj_H} {x : Nat} (M : cM h x) : jR h 459 x 0 = x + 26 := (M.2.1 (459, 0, 26, 3, 0) (by decide)).1
theorem cM_k26 {h : jj_H} {x : Nat} (M : cM h x) : jK h (x + 26) = 3 := (M.2.1 (459, 0, 26, 3, 0) (by decide)).2.1
theorem cM_n26 {h : jj_H} {x : Nat} (M : cM h x) : jN h (x + 26) = 0 := (M.2.1 (459, 0, 26, 3, 0) (by decide)).2.2
theorem cM_r102_26 {h : jj_H} {x : Nat} (M : cM h x) : jR h 102 (x + 26) 0 = x + 27 := (M.2.1 (102, 26, 27, 24, 3) (by decide)).1
theorem cM_k27 {h : jj_H} {x : Nat} (M : cM h x) : jK h (x + 27) = 24 := (M.2.1 (102, 26, 27, 24, 3) (by decide)).2.1
theorem cM_n27 {h : jj_H} {x : Nat} (M : cM h x) : jN h (x + 27) = 3 := (M.2.1 (102, 26, 27, 24, 3) (by decide)).2.2
theorem cM_r103_26 {h : jj_H} {x : Nat} (M : cM h x) : jR h 103 (x + 26) 0 = x + 28 := (M.2.1 (103, 26, 28, 26, 3) (by decide)).1
theorem cM_k28 {h : jj_H} {x : Nat} (M : cM h x) : jK h (x + 28) = 26 := (M.2.1 (103, 26, 28, 26, 3) (by decide)).2.1
theorem cM_n28 {h : jj_H} {x : Nat} (M : cM h x) : jN h (x + 28) = 3 := (M.2.1 (103, 26, 28, 26, 3) (by decide)).2.2
theorem cM_r104_26 {h : jj_H} {x : Nat} (M : cM h x) : jR h 104 (x + 26) 0 = x + 29 := (M.2.1 (104, 26, 29, 21, 3) (by decide)).1
theorem cM_k29 {h : jj_H} {x : Nat} (M : cM h x) : jK h (x + 29) = 21 := (M.2.1 (104, 26, 29, 21, 3) (by decide)).2.1
theorem cM_n29 {h : jj_H} {x : Nat} (M : cM h x) : jN h (x + 29) = 3 := (M.2.1 (104, 26, 29, 21, 3) (by decide)).2.2
theorem cM_r105_26 {h : jj_H} {x : Nat} (M : cM h x) : jR h 105 (x + 26) 0 = x + 30 := (M.2.1 (105, 26, 30, 7, 0) (by decide)).1
theorem cM_k30 {h : jj_H} {x : Nat} (M : cM h x) : jK h (x + 30) = 7 := (M.2.1 (105, 26, 30, 7, 0) (by decide)).2.1
theorem cM_n30 {h : jj_H} {x : Nat} (M : cM h x) : jN h (x + 30) = 0 := (M.2.1 (105, 26, 30, 7, 0) (by decide)).2.2
theorem cM_r300_30 {h : jj_H} {x : Nat} (M : cM h x) : jR h 300 (x + 30) 0 = x + 31 := (M.2.1 (300, 30, 31, 21, 4) (by decide)).1
theorem cM_k31 {h : jj_H} {x : Nat} (M : cM h x) : jK h (x + 31) = 21 := (M.2.1 (300, 30, 31, 21, 4) (by decide)).2.1
theorem cM_n31 {h : jj_H} {x : Nat} (M : cM h x) : jN h (x + 31) = 4 := (M.2.1 (300, 30, 31, 21, 4) (by decide)).2.2
theorem cM_r106_26 {h : jj_H} {x : Nat} (M : cM h x) : jR h 106 (x + 26) 0 = x + 32 := (M.2.1 (106, 26, 32, 21, 900) (by decide)).1
theorem cM_k32 {h : jj_H} {x : Nat} (M : cM h x) : jK h (x + 32) = 21 := (M.2.1 (106, 26, 32, 21, 900) (by decide)).2.1
theorem cM_n32 {h : jj_H} {x : Nat} (M : cM h x) : jN h (x + 32) = 900 := (M.2.1 (106, 26, 32, 21, 900) (by decide)).2.2
theorem cM_r107_26 {h : jj_H} {x : Nat} (M : cM h x) : jR h 107 (x + 26) 0 = x + 33 := (M.2.1 (107, 26, 33, 21, 900) (by decide)).1
theorem cM_k33 {h : jj_H} {x : Nat} (M : cM h x) : jK h (x + 33) = 21 := (M.2.1 (107, 26, 33, 21, 900) (by decide)).2.1
theorem cM_n33 {h : jj_H} {x : Nat} (M : cM h x) : jN h (x + 33) = 900 := (M.2.1 (107, 26, 33, 21, 900) (by decide)).2.2
theorem cM_r108_26 {h : jj_H} {x : Nat} (M : cM h x) : jR h 108 (x + 26) 0 = x + 34 := (M.2.1 (108, 26, 34, 23, 900) (by decide)).1
theorem cM_k34 {h : jj_H} {x : Nat} (M : cM h x) : jK h (x + 34) = 23 := (M.2.1 (108, 26, 34, 23, 900) (by decide)).2.1
theorem cM_n34 {h : jj_H} {x : Nat} (M : cM h x) : jN h (x + 34) = 900 := (M.2.1 (108, 26, 34, 23, 900) (by decide)).2.2
theorem cM_r460_0 {h : jj_H} {x : Nat} (M : cM h x) : jR h 460 x 0 = x + 41 := (M.2.1 (460, 0, 41, 6, 0) (by decide)).1
theorem cM_k41 {h : jj_H} {x : Nat} (M : cM h x) : jK h (x + 41) = 6 := (M.2.1 (460, 0, 41, 6, 0) (by decide)).2.1
theorem cM_n41 {h : jj_H} {x : Nat} (M : cM h x) : jN h (x + 41) = 0 := (M.2.1 (460, 0, 41, 6, 0) (by decide)).2.2
theorem cM_r250_41 {h : jj_H} {x : Nat} (M : cM h x) : jR h 250 (x + 41) 0 = x + 42 := (M.2.1 (250, 41, 42, 21, 6) (by decide)).1
theorem cM_k42 {h : jj_H} {x : Nat} (M : cM h x) : jK h (x + 42) = 21 := (M.2.1 (250, 41, 42, 21, 6) (by decide)).2.1
theorem cM_n42 {h : jj_H} {x : Nat} (M : cM h x) : jN h (x + 42) = 6 := (M.2.1 (250, 41, 42, 21, 6) (by decide)).2.2
/-- the places that hold no fixed reference -/
def fP (x : Nat) (P : Nat → Nat → Prop) : Prop := ∀ tg a, P tg a → (a < x ∨ x + 42 < a) ∨ tg ∈ [301, 353, 354, 454, 455, 457, 52, 100, 101, 109, 110, 201, 251, 252] ∨ (tg = 1000 ∧ a ≠ x + 1 ∧ a ≠ x + 28)
theorem cM.cf {P : Nat → Nat → Prop} {h h' : jj_H} {x : Nat} (M : cM h x) (F : cF P h h') (hz : x + 42 ≤ jZ h) (D : fP x P) : cM h' x := by
  have tb : ∀ q ∈ cT, q.1 ∉ [301, 353, 354, 454, 455, 457, 52, 100, 101, 109, 110, 201, 251, 252] ∧ q.1 ≠ 1000 ∧ q.2.1 ≤ 42 ∧ q.2.2.1 ≤ 42 := by decide
  refine ⟨(F.ek (by omega)).trans M.1, fun q hq => ?_, fun t ht => ?_⟩
  · obtain ⟨a1, a2, a3⟩ := M.2.1 q hq
    obtain ⟨b1, b2, b3, b4⟩ := tb q hq
    refine ⟨(F.er (by omega) fun p => ?_).trans a1, (F.ek (by omega)).trans a2, (F.en (by omega)).trans a3⟩
    rcases D _ _ p with z | z | z
    · omega
    · exact b1 z
    · omega
  · obtain ⟨a1, a2, a3, a4, a5, a6⟩ := M.2.2 t ht
    refine ⟨(F.er (by omega) fun p => ?_).trans a1, (F.er (by omega) fun p => ?_).trans a2, (F.ek (by omega)).trans a3, (F.er (by omega) fun p => ?_).trans a4, (F.ek (by omega)).trans a5, (F.en (by omega)).trans a6⟩
    · rcases D _ _ p with z | z | z
      · omega
      · exact absurd z (by decide)
      · omega
    · rcases D _ _ p with z | z | z
      · omega
      · exact absurd z (by decide)
      · omega
    · rcases D _ _ p with z | z | z
      · omega
      · exact absurd z (by decide)
      · omega
/-! the work -/
def wb (x t : Nat) : Nat := x + 2 + 5 * t
def wT (h : jj_H) (x t : Nat) (l : List Row) : Prop := bT h (wb x t) ∧ nA h (wb x t) ∧ rwO h (wb x t + 1) (wb x t + 2) l ∧ (jI h 354 (wb x t) 0 = 0 → tbX (Sw (wb x t)) h (wb x t) (wb x t + 3) (wb x t + 4) l (tree l)) ∧ ∀ i, i < 202 → jR h 1000 (wb x t + 3) i = 0 ∨ x + 42 < jR h 1000 (wb x t + 3) i
def Wk (h : jj_H) (x : Nat) (ls : Nat → List Row) : Prop := (∀ t, t < 3 → wT h x t (ls t)) ∧ ∀ t t' i i', t < 3 → t' < 3 → i < 202 → i' < 202 → jR h 1000 (wb x t + 3) i = jR h 1000 (wb x t' + 3) i' → jR h 1000 (wb x t + 3) i = 0 ∨ t = t'
theorem wT.cf {P : Nat → Nat → Prop} {h h' : jj_H} {x t : Nat} {l : List Row} (W : wT h x t l) (V : jj_V h) (F : cF P h h') (hz : x + 42 ≤ jZ h) (ht : t < 3) (p1 : ∀ tg, 350 ≤ tg → tg ≤ 354 → ¬ P tg (wb x t)) (p2 : ¬ P 300 (wb x t + 1)) (p3 : ¬ P 301 (wb x t + 1)) (p4 : ∀ j, 2 ≤ j → j ≤ 4 → ¬ P 1000 (wb x t + j)) (p5 : ∀ a, isN h (wb x t) a → a ≠ 0 → ∀ tg, 150 ≤ tg → tg ≤ 155 → ¬ P tg a) : wT h' x t l := by
  obtain ⟨B, A, R, T, N⟩ := W
  have hb : wb x t + 4 ≤ jZ h := by unfold wb; omega
  obtain ⟨a1, a2, a3, a4, a5, a6, a7, a8, a9, a10, a11, a12⟩ := B
  have r3 : ∀ i, jR h' 1000 (wb x t + 3) i = jR h 1000 (wb x t + 3) i := fun i => F.er (by omega) (p4 3 (by decide) (by decide))
  have ex : ∀ i, i < 202 → jR h 1000 (wb x t + 3) i ≠ 0 → jR h 1000 (wb x t + 3) i ≤ jZ h := fun i hi h0 => (jV_le V (by rw [(A.1 i hi).resolve_left h0]; decide)).2
  refine ⟨⟨(F.ek (by omega)).trans a1, (F.er (by omega) (p1 _ (by decide) (by decide))).trans a2, (F.er (by omega) (p1 _ (by decide) (by decide))).trans a3, (F.er (by omega) (p1 _ (by decide) (by decide))).trans a4, (F.ek (by omega)).trans a5, (F.er (by omega) p2).trans a6, (F.ek (by omega)).trans a7, (F.en (by omega)).trans a8, (F.ek (by omega)).trans a9, (F.en (by omega)).trans a10, (F.ek (by omega)).trans a11, (F.en (by omega)).trans a12⟩, ⟨fun i hi => ?_, fun i j hi hj => ?_⟩, R.cf F (by omega) (by omega) p2 p3 (p4 2 (by decide) (by decide)), fun st => ?_, fun i hi => ?_⟩
  · rw [r3]
    by_cases h0 : jR h 1000 (wb x t + 3) i = 0
    · exact Or.inl h0
    · right
      rw [F.ek (ex i hi h0)]
      exact (A.1 i hi).resolve_left h0
  · rw [r3, r3]; exact A.2 i j hi hj
  · rw [F.ei (by omega) (p1 _ (by decide) (by decide))] at st
    refine (T st).cf F (by omega) (by omega) (by omega) (fun tg q1 q2 => p1 tg (by omega) (by omega)) (p4 3 (by decide) (by decide)) (p4 4 (by decide) (by decide)) fun i a r w k hi ha s _ => ?_
    obtain ⟨rfl, rfl⟩ := s
    have hi2 : i < 202 := by have := (T st).2.2.2.2.2.2.2.1; omega
    have h0 : jR h 1000 (wb x t + 3) i ≠ 0 := by
      obtain ⟨nd, hnd⟩ : ∃ nd, (flat (tree l))[i]? = some nd := ⟨_, List.getElem?_eq_getElem hi⟩
      obtain ⟨r, w, _, N⟩ := (T st).2.2.2.2.2.2.2.2.2.2.2 i nd hnd
      exact fun z => by have := (jV_le V (a := jR h 1000 (wb x t + 3) i) (by rw [N.1]; decide)).1; omega
    refine ⟨⟨rfl, rfl⟩, ?_, by omega, by omega, fun tg q1 q2 => ?_, p2, p3, p4 2 (by decide) (by decide)⟩
    · rw [ha]; exact ex i hi2 h0
    · exact p5 a ⟨i, hi2, ha.symm⟩ (by rw [ha]; exact h0) tg q1 q2
  · rw [r3]; exact N i hi
