/-! the class: what keeps a state -/
theorem St.wk3_self (s : St) : s.wk3 (s.T 60) = s := by
  unfold St.wk3 St.set1
  have : (fun p u => if p = 60 then s.T 60 u else s.T p u) = s.1 := by
    funext p u
    by_cases e : p = 60
    · rw [if_pos e, e]; rfl
    · rw [if_neg e]; rfl
  rw [this]
theorem St.wk3_T {s : St} {ls : Nat → List Row} {c : Nat} (h : c < 60) : (s.wk3 ls).T c = s.T c := by
  funext u
  show (if c = 60 then ls u else s.T c u) = s.T c u
  rw [if_neg (by omega)]
theorem St.wk3_60 (s : St) (ls : Nat → List Row) : (s.wk3 ls).T 60 = ls := by
  funext u
  show (if 60 = 60 then ls u else s.T 60 u) = ls u
  rw [if_pos rfl]
theorem thS_wk3 {s : St} {ls : Nat → List Row} (hm : s.made ≤ 60) (k : NK) : thS (s.wk3 ls) k ↔ thS s k := by
  constructor
  · rintro ⟨c, h1, h2, h3⟩
    have h1' : c < s.made := h1
    rw [St.wk3_T (by omega)] at h3
    exact ⟨c, h1, h2, h3⟩
  · rintro ⟨c, h1, h2, h3⟩
    exact ⟨c, h1, h2, by rw [St.wk3_T (by omega)]; exact h3⟩
def mF (h h' : jj_H) (m : Nat) : Prop := jZ h ≤ jZ h' ∧ ∀ a, m ≤ a → a ≤ m + 24 → jK h' a = jK h a ∧ jN h' a = jN h a ∧ ∀ tg i, jI h' tg a i = jI h tg a i ∧ jL h' tg a i = jL h tg a i ∧ jR h' tg a i = jR h tg a i
theorem mF.rf {h : jj_H} {m : Nat} : mF h h m := ⟨Nat.le_refl _, fun _ _ _ => ⟨rfl, rfl, fun _ _ => ⟨rfl, rfl, rfl⟩⟩⟩
theorem mF.trans {h h1 h2 : jj_H} {m : Nat} (p : mF h h1 m) (q : mF h1 h2 m) : mF h h2 m := ⟨Nat.le_trans p.1 q.1, fun a h1 h2 => by
  obtain ⟨x1, x2, x3⟩ := p.2 a h1 h2
  obtain ⟨y1, y2, y3⟩ := q.2 a h1 h2
  refine ⟨y1.trans x1, y2.trans x2, fun tg i => ?_⟩
  obtain ⟨u1, u2, u3⟩ := x3 tg i
  obtain ⟨v1, v2, v3⟩ := y3 tg i
  exact ⟨v1.trans u1, v2.trans u2, v3.trans u3⟩⟩
theorem mF.of {P : Nat → Nat → Prop} {h h' : jj_H} {m : Nat} (F : cF P h h') (hz : m + 24 ≤ jZ h) (hP : ∀ tg a, m ≤ a → a ≤ m + 24 → ¬ P tg a) : mF h h' m :=
  ⟨F.1, fun a h1 h2 => ⟨F.ek (by omega), F.en (by omega), fun tg i => ⟨F.ei (by omega) (hP _ _ h1 h2), F.el (by omega) (hP _ _ h1 h2), F.er (by omega) (hP _ _ h1 h2)⟩⟩⟩
theorem Rr.mf {h h' : jj_H} {m : Nat} {s : St} (R : Rr h m s) (F : mF h h' m) : Rr h' m s := by
  have tb : ∀ q ∈ rT, q.2.1 ≤ 24 := by decide
  have eI : ∀ tg a i, m ≤ a → a ≤ m + 24 → jI h' tg a i = jI h tg a i := fun tg a i p q => ((F.2 a p q).2.2 tg i).1
  have eL : ∀ tg a i, m ≤ a → a ≤ m + 24 → jL h' tg a i = jL h tg a i := fun tg a i p q => ((F.2 a p q).2.2 tg i).2.1
  refine Rr.mk ⟨⟨(F.2 m (by omega) (by omega)).1.trans R.1.1, fun q hq => ?_⟩, fun p hp t ht => (R.2.1 p hp t ht).ag fun a i _ _ => eI _ _ _ (by omega) (by omega), fun p t hp ht => (R.2.2.1 p t hp ht).ag (fun a i _ _ => eI _ _ _ (by omega) (by omega)) (fun i => eL _ _ _ (by omega) (by omega))⟩ (R.g.ag (fun tg _ _ => eI _ _ _ (by omega) (by omega)) (fun a i _ _ => eI _ _ _ (by omega) (by omega)) (fun tg _ => eL _ _ _ (by omega) (by omega)) (fun a i _ _ => eL _ _ _ (by omega) (by omega)))
  have := tb q hq
  obtain ⟨a1, a2, a3⟩ := R.1.2 q hq
  exact ⟨((F.2 m (by omega) (by omega)).2.2 _ _).2.2.trans a1, (F.2 _ (by omega) (by omega)).1.trans a2, (F.2 _ (by omega) (by omega)).2.1.trans a3⟩
section JM
variable {h h' : jj_H} {x m n : Nat} {s : St} {P : Pl} {Q : Nat → Nat → Prop}
theorem RcB.gen {ls : Nat → List Row} (hm : s.made ≤ 60) (R : RcB h x m s n P) (F : cF Q h h') (D : fP x Q) (hs : ∀ tg a, Sc h x m a → ¬ Q tg a) (p20 : ¬ Q 1000 (x + 20)) (p21 : ¬ Q 1000 (x + 21)) (p201 : ¬ Q 201 (x + 19)) (W : Wk h' x ls) (hW : ∀ a, Wn h' x a → Wn h x a ∨ jZ h < a) : RcB h' x m (s.wk3 ls) n P ∧ sF h h' x m := by
  obtain ⟨⟨z1, z2, z3, z4⟩, M, _, Po, C, Mq⟩ := R
  have hz := F.1
  have sf : sF h h' x m := sF.of F (fun tg a s c => absurd c (hs tg a s)) hW
  refine ⟨⟨⟨z1, by omega, by omega, fun a h1 h2 h3 z => ?_⟩, M.cf F z2 D, by rw [St.wk3_60]; exact W, Po.sf sf fun β => F.er (by omega) p20, fun c hc => ?_, ?_⟩, sf⟩
  · rcases hW a z with q | q
    · exact z4 a h1 h2 h3 q
    · omega
  · have hc' : c < s.made := hc
    have k := (C c hc').sf sf (F.er (by omega) p21) (fun _ _ q => q)
    unfold kC at k ⊢
    rw [St.wk3_T (by omega)]
    exact k
  · obtain ⟨⟨q, q1, q2, q3, q4, q5⟩, q6⟩ := Mq
    have ei : ∀ β, β < 4096 → ∀ p ∈ P β, ∀ tg, jI h' tg p.1 0 = jI h tg p.1 0 := fun β hβ p hp tg => by
      have := ((Po β hβ).1.mem p hp).1
      exact F.ei this.1.2.1 (hs _ _ this)
    refine ⟨⟨q, q1, q2, (F.ei (by omega) p201).trans q3, fun β hβ p hp => by rw [ei β hβ p hp]; exact q4 β hβ p hp, fun c t hc ht => ?_⟩, fun β hβ p hp => by rw [ei β hβ p hp, thS_wk3 hm]; exact q6 β hβ p hp⟩
    have hc' : c < s.made := hc
    rw [((C c hc').ads sf (F.er (by omega) p21)).2.2 t]
    have st := ((C c hc').2.2.2.2.2.2.2.2 t ht).1
    rw [F.ei st.1.2.1 (hs _ _ st)]
    exact q5 c t hc' ht
/-- places of fixed cells that hold no table, no pool, no commits -/
def qF (x : Nat) : Nat → Nat → Prop := fun tg a => x ≤ a ∧ a ≤ x + 42 ∧ ((a = x ∧ (tg = 454 ∨ tg = 455 ∨ tg = 457)) ∨ (x + 22 ≤ a ∧ a ≠ x + 28 ∧ (tg = 1000 ∨ tg = 301 ∨ tg = 52 ∨ tg = 100 ∨ tg = 101 ∨ tg = 109 ∨ tg = 110 ∨ tg = 251 ∨ tg = 252)) ∨ (tg = 1000 ∧ a = x + 18))
theorem qF_fP (x : Nat) : fP x (qF x) := by
  rintro tg a ⟨h1, h2, h3⟩
  by_cases e : tg = 1000
  · right; right; omega
  · right; left
    simp only [List.mem_cons, List.not_mem_nil, or_false]
    omega
theorem Wk.cf (W : Wk h x (s.T 60)) (V : jj_V h) (F : cF Q h h') (hz : x + 42 ≤ jZ h) (hx : 1 ≤ x) (hQ : ∀ tg a, Q tg a → a ≠ 0 → (x + 17 ≤ a ∧ a ≤ x + 42) ∨ a ≤ x ∨ (x + 42 < a ∧ ¬ Wn h x a)) : Wk h' x (s.T 60) := by
  have nq : ∀ tg a, x + 2 ≤ a → a ≤ x + 16 → ¬ Q tg a := fun tg a h1 h2 q => by
    rcases hQ tg a q (by omega) with z | z | z <;> omega
  have r3 : ∀ t, t < 3 → ∀ i, jR h' 1000 (wb x t + 3) i = jR h 1000 (wb x t + 3) i := fun t ht i => F.er (by unfold wb; omega) (nq _ _ (by unfold wb; omega) (by unfold wb; omega))
  refine ⟨fun t ht => (W.1 t ht).cf V F hz ht (fun tg _ _ => nq _ _ (by unfold wb; omega) (by unfold wb; omega)) (nq _ _ (by unfold wb; omega) (by unfold wb; omega)) (nq _ _ (by unfold wb; omega) (by unfold wb; omega)) (fun j _ _ => nq _ _ (by unfold wb; omega) (by unfold wb; omega)) (fun a ha h0 tg _ _ q => ?_), fun t t' i i' ht ht' hi hi' => ?_⟩
  · obtain ⟨i, hi, e⟩ := ha
    have := ((W.1 t ht).2.2.2.2 i hi).resolve_left (by rw [e]; exact h0)
    rw [e] at this
    rcases hQ tg a q h0 with z | z | z
    · omega
    · omega
    · exact z.2 ⟨t, ht, i, hi, e⟩
  · rw [r3 t ht, r3 t' ht']; exact W.2 t t' i i' ht ht' hi hi'
theorem Wn.eq (e : ∀ t, t < 3 → ∀ i, jR h' 1000 (wb x t + 3) i = jR h 1000 (wb x t + 3) i) (a : Nat) (w : Wn h' x a) : Wn h x a := by
  obtain ⟨t, ht, i, hi, q⟩ := w
  exact ⟨t, ht, i, hi, by rw [← e t ht]; exact q⟩
/-- the reference's cells are as they were -/
def xF (h h' : jj_H) (x m : Nat) : Prop := x + 42 < m → mF h h' m
theorem xF.rf : xF h h x m := fun _ => mF.rf
theorem xF.trans {h1 h2 : jj_H} (p : xF h h1 x m) (q : xF h1 h2 x m) : xF h h2 x m := fun c => (p c).trans (q c)
theorem RcB.fix (hm : s.made ≤ 60) (R : RcB h x m s n P) (V : jj_V h) (F : cF (qF x) h h') : RcB h' x m s n P ∧ sF h h' x m ∧ xF h h' x m := by
  obtain ⟨z1, z2, z3, z4⟩ := id R.1
  have W := R.2.2.1.cf (s := s) V F z2 z1 (fun tg a q _ => by obtain ⟨h1, h2, h3⟩ := q; omega)
  have := RcB.gen hm R F (qF_fP x) (fun tg a s q => by have := s.1.1; have := q.2.1; omega) (fun q => by obtain ⟨h1, h2, h3⟩ := q; omega) (fun q => by obtain ⟨h1, h2, h3⟩ := q; omega) (fun q => by obtain ⟨h1, h2, h3⟩ := q; omega) W (fun a w => Or.inl (Wn.eq (fun t ht i => F.er (by unfold wb; omega) (fun q => by obtain ⟨h1, h2, h3⟩ := q; unfold wb at *; omega)) a w))
  rw [St.wk3_self] at this
  exact ⟨this.1, this.2, fun hh => mF.of F z3 fun tg a h1 h2 q => by obtain ⟨g1, g2, g3⟩ := q; omega⟩
/-! the groups -/
theorem kF.cf {made : Nat} {here : Int64} {g : (Nat → Int32) × Nat} (K : kF h x made here g) (F : cF Q h h') (hz : x + 42 ≤ jZ h) (p1 : ¬ Q 454 x) (p2 : ¬ Q 455 x) (p3 : ¬ Q 457 x) (p4 : ¬ Q 1000 (x + 22)) : kF h' x made here g :=
  ⟨(F.ei (by omega) p1).trans K.1, (F.el (by omega) p2).trans K.2.1, fun b hb => (F.ei (by omega) p4).trans (K.2.2.1 b hb), (F.ei (by omega) p3).trans K.2.2.2⟩
theorem kD.cf {dl : List (Int32 × Int32)} (K : kD h x dl) (F : cF Q h h') (hz : x + 42 ≤ jZ h) (p1 : ¬ Q 52 (x + 23)) (p2 : ¬ Q 1000 (x + 24)) (p3 : ¬ Q 1000 (x + 25)) : kD h' x dl :=
  ⟨(F.ei (by omega) p1).trans K.1, fun i c hc => ⟨(F.ei (by omega) p2).trans (K.2 i c hc).1, (F.ei (by omega) p3).trans (K.2 i c hc).2⟩⟩
theorem kCf.cf {cf : List (Nat × Int32 × Bool)} (K : kCf h x cf) (F : cF Q h h') (hz : x + 42 ≤ jZ h) (p1 : ¬ Q 109 (x + 26)) (p2 : ¬ Q 110 (x + 26)) (p3 : ∀ a, x + 32 ≤ a → a ≤ x + 34 → ¬ Q 1000 a) : kCf h' x cf :=
  ⟨(F.ei (by omega) p1).trans K.1, (F.ei (by omega) p2).trans K.2.1, fun i c hc => ⟨(F.ei (by omega) (p3 _ (by omega) (by omega))).trans (K.2.2 i c hc).1, (F.ei (by omega) (p3 _ (by omega) (by omega))).trans (K.2.2 i c hc).2.1, (F.ei (by omega) (p3 _ (by omega) (by omega))).trans (K.2.2 i c hc).2.2⟩⟩
theorem kM.cf (K : kM h x s) (F : cF Q h h') (hz : x + 42 ≤ jZ h) (p0 : ¬ Q 100 (x + 26)) (p00 : ¬ Q 101 (x + 26)) (p1 : ¬ Q 109 (x + 26)) (p2 : ¬ Q 110 (x + 26)) (p3 : ∀ a, x + 32 ≤ a → a ≤ x + 34 → ¬ Q 1000 a) (p4 : ¬ Q 1000 (x + 27)) (p5 : ¬ Q 1000 (x + 21)) (p6 : ¬ Q 301 (x + 30)) : kM h' x s :=
  ⟨(F.ei (by omega) p0).trans K.1, fun q => ⟨(F.ei (by omega) p00).trans (K.2.1 q).1, fun k hk => by
    unfold cad
    rw [F.er (by omega) p4, F.er (by omega) p5]
    exact (K.2.1 q).2 k hk⟩, K.2.2.1.cf F hz p1 p2 p3, (F.ei (by omega) p6).trans K.2.2.2⟩
theorem kO.cf (K : kO h x s) (F : cF Q h h') (hz : x + 42 ≤ jZ h) (p1 : ¬ Q 251 (x + 41)) (p2 : ¬ Q 252 (x + 41)) (p3 : ¬ Q 1000 (x + 42)) : kO h' x s :=
  ⟨(F.el (by omega) p1).trans K.1, (F.ei (by omega) p2).trans K.2.1, fun b hb => (F.ei (by omega) p3).trans (K.2.2 b hb)⟩
theorem RcG.cf (G : RcG h x s) (F : cF Q h h') (hz : x + 42 ≤ jZ h) (hQ : ∀ tg a, Q tg a → a < x ∨ (x < a ∧ a < x + 21) ∨ x + 42 < a) : RcG h' x s := by
  have nq : ∀ tg a, (a = x ∨ (x + 21 ≤ a ∧ a ≤ x + 42)) → ¬ Q tg a := fun tg a h1 q => by have := hQ tg a q; omega
  exact ⟨G.1.cf F hz (nq _ _ (by omega)) (nq _ _ (by omega)) (nq _ _ (by omega)) (nq _ _ (by omega)), G.2.1.cf F hz (nq _ _ (by omega)) (nq _ _ (by omega)) (nq _ _ (by omega)), G.2.2.1.cf F hz (nq _ _ (by omega)) (nq _ _ (by omega)) (nq _ _ (by omega)) (nq _ _ (by omega)) (fun a _ _ => nq _ _ (by omega)) (nq _ _ (by omega)) (nq _ _ (by omega)) (nq _ _ (by omega)), G.2.2.2.cf F hz (nq _ _ (by omega)) (nq _ _ (by omega)) (nq _ _ (by omega))⟩
end JM
