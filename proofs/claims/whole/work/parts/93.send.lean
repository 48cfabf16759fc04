/-! the class: marks of nodes -/
def RcM (h : jj_H) (x m : Nat) (s : St) (n : Nat) (P : Pl) : Prop := kZ h x m ∧ cM h x ∧ Wk h x (s.T 60) ∧ PO h x m P ∧ (∀ c, c < s.made → kC h x m P s c) ∧ ∃ q, q ≤ n ∧ n < 1000 ∧ jI h 201 (x + 19) 0 = nI q ∧ (∀ β, β < 4096 → ∀ p ∈ P β, ∃ j, j ≤ q ∧ jI h 157 p.1 0 = nI j) ∧ ∀ c t, c < s.made → t < 3 → ∃ j, j ≤ q ∧ jI h 355 (tba h x c t) 0 = nI j
def MT (tg : Nat) (v : Int32) (D : Int32 → Prop) (h : jj_H) (P : Pl) (S : NK → Prop) : Prop := ∀ β, β < 4096 → ∀ p ∈ P β, D (jI h tg p.1 0) ∧ (S p.2 ↔ jI h tg p.1 0 = v)
/-- so many are the members of S -/
def cnO (S : NK → Prop) (c : Nat) : Prop := ∃ L : List NK, c = dct (fun _ => False) L ∧ ∀ y, S y ↔ y ∈ L
section JMk
variable {h h' g : jj_H} {x m n t : Nat} {s : St} {P : Pl} {Q : Value → jj_H → Prop} {S : NK → Prop} {D : Int32 → Prop}
theorem nodup_snd {l : List (Nat × NK)} (hn : (l.map Prod.snd).Nodup) : ∀ {a b : Nat} {k : NK}, (a, k) ∈ l → (b, k) ∈ l → a = b := by
  induction l with
  | nil => intro a b k h1; cases h1
  | cons p l ih =>
    rw [List.map_cons, List.nodup_cons] at hn
    intro a b k h1 h2
    rcases List.mem_cons.mp h1 with e1 | e1
    · rcases List.mem_cons.mp h2 with e2 | e2
      · exact congrArg Prod.fst (e1.trans e2.symm)
      · exact absurd (List.mem_map.mpr ⟨(b, k), e2, by rw [← e1]⟩) hn.1
    · rcases List.mem_cons.mp h2 with e2 | e2
      · exact absurd (List.mem_map.mpr ⟨(a, k), e1, by rw [← e2]⟩) hn.1
      · exact ih hn.2 e1 e2
theorem PO.key {β β' : Nat} {p p' : Nat × NK} (Po : PO h x m P) (hβ : β < 4096) (hβ' : β' < 4096) (h1 : p ∈ P β) (h2 : p' ∈ P β') (e : p.1 = p'.1) : p.2 = p'.2 := by
  obtain ⟨_, r, w, _, _, N⟩ := (Po β hβ).1.mem p h1
  obtain ⟨_, r', w', _, _, N'⟩ := (Po β' hβ').1.mem p' h2
  rw [← e] at N'
  exact N.uq N'
theorem PO.adr {β : Nat} {p : Nat × NK} {a : Nat} {k : NK} (Po : PO h x m P) (hβ : β < 4096) (h1 : p ∈ P β) (h2 : (a, k) ∈ P (bk k)) (e : p.2 = k) : p.1 = a := by
  have hb := (Po β hβ).2.2 p h1
  subst e
  rw [hb] at h2
  exact nodup_snd (Po β hβ).2.1 (a := p.1) (b := a) (k := p.2) h1 h2
theorem MT.mark {tg a : Nat} {v : Int32} {k : NK} (M : MT tg v D h P S) (Po : PO h x m P) (hv : D v) (hp : (a, k) ∈ P (bk k)) : MT tg v D (wI h tg a 0 v) P (fun y => y = k ∨ S y) := by
  intro β hβ p hpp
  rw [jI_wI]
  by_cases e : p.1 = a
  · have ek : p.2 = k := Po.key hβ (bk_lt k) hpp hp e
    rw [if_pos ⟨rfl, e, rfl⟩]
    exact ⟨hv, fun _ => rfl, fun _ => Or.inl ek⟩
  · rw [if_neg (fun z => e z.2.1)]
    have := M β hβ p hpp
    exact ⟨this.1, fun z => this.2.mp (z.resolve_left fun y => e (Po.adr hβ hpp hp y)), fun z => Or.inr (this.2.mpr z)⟩
theorem MT.ot {tg tg' a i : Nat} {v w : Int32} (M : MT tg v D h P S) (hne : tg ≠ tg') : MT tg v D (wI h tg' a i w) P S := by
  intro β hβ p hp
  rw [jI_wI, if_neg (fun z => hne z.1)]
  exact M β hβ p hp
theorem MT.cf {tg : Nat} {v : Int32} {T : Nat → Nat → Prop} (M : MT tg v D h P S) (Po : PO h x m P) (F : cF T h h') (hT : ∀ tg a, Sc h x m a → ¬ T tg a) : MT tg v D h' P S := by
  intro β hβ p hp
  have s1 := ((Po β hβ).1.mem p hp).1
  rw [F.ei s1.1.2.1 (hT _ _ s1)]
  exact M β hβ p hp
theorem MT.set {tg : Nat} {v : Int32} {S' : NK → Prop} (M : MT tg v D h P S) (e : ∀ y, S y ↔ S' y) : MT tg v D h P S' := by rw [← set_ext e]; exact M
theorem cnO.add {c : Nat} {l : List NK} (O : cnO S c) : cnO (fun y => y ∈ l ∨ S y) (c + dct S l) := by
  obtain ⟨L, e, hL⟩ := O
  have h3 : dct (fun _ => False) (L ++ l) = dct (fun _ => False) L + dct S l := by
    have h1 := dct_app l L (fun _ => False)
    have h2 : (fun y => y ∈ L ∨ (fun _ : NK => False) y) = S := set_ext fun y => ⟨fun z => (hL y).mpr (z.resolve_right id), fun z => Or.inl ((hL y).mp z)⟩
    exact h1.trans (congrArg (fun T => dct (fun _ => False) L + dct T l) h2)
  refine ⟨L ++ l, by rw [h3, ← e], fun y => ?_⟩
  rw [List.mem_append, ← hL]
  exact Or.comm
theorem cnO.fin {c : Nat} {L' : List NK} (O : cnO S c) (e : ∀ y, S y ↔ y ∈ L') : c = dct (fun _ => False) L' := by
  obtain ⟨L, e1, hL⟩ := O
  rw [e1]
  exact dct_set fun y => (hL y).symm.trans (e y)
theorem cnO.set {c : Nat} {S' : NK → Prop} (O : cnO S c) (e : ∀ y, S y ↔ S' y) : cnO S' c := by rw [← set_ext e]; exact O
theorem RcM.w {tg a : Nat} {v : Int32} (B : RcM h x m s n P) (V : jj_V h) (sa : Sc h x m a) (hv : tg = 158 ∨ ((tg = 157 ∨ tg = 355) ∧ v = jI h 201 (x + 19) 0)) : RcM (wI h tg a 0 v) x m s n P ∧ xF h (wI h tg a 0 v) x m ∧ (RcG h x s → RcG (wI h tg a 0 v) x s) ∧ sF h (wI h tg a 0 v) x m := by
  obtain ⟨⟨z1, z2, z3, z4⟩, M, W, Po, C, q, q1, q2, q3, q4, q5⟩ := B
  have F : cF (fun tg' a' => tg' = tg ∧ a' = a) h (wI h tg a 0 v) := cF.wI ⟨rfl, rfl⟩
  have s1 := sa.1.1
  have s2 := sa.2
  have ht : tg = 157 ∨ tg = 158 ∨ tg = 355 := by rcases hv with c | ⟨c | c, _⟩ <;> omega
  have vq : tg ≠ 158 → v = nI q := fun c => by rw [← q3]; exact (hv.resolve_left c).2
  have sf : sF h (wI h tg a 0 v) x m := sF.of F (fun tg' a' _ c => by omega) (fun b w => Or.inl w)
  refine ⟨⟨⟨z1, z2, z3, z4⟩, M.cf F z2 (fun tg a c => by left; omega), W.cf V F z2 z1 (fun tg' a' c _ => Or.inr (Or.inr ⟨by omega, by rw [c.2]; exact sa.1.2.2⟩)), Po.sf sf (fun _ => rfl), fun c hc => (C c hc).sf sf rfl (fun _ _ y => y), q, q1, q2, ?_, fun β hβ p hp => ?_, fun c t hc ht => ?_⟩, fun hh => mF.of F z3 fun tg' a' h1 h2 c => by omega, fun G => G.cf F z2 (fun tg' a' c => by omega), sf⟩
  · rw [jI_wI, if_neg (by omega)]; exact q3
  · rw [jI_wI]
    by_cases c : 157 = tg ∧ p.1 = a ∧ 0 = 0
    · rw [if_pos c, vq (by omega)]; exact ⟨q, Nat.le_refl _, rfl⟩
    · rw [if_neg c]; exact q4 β hβ p hp
  · have e : tba (wI h tg a 0 v) x c t = tba h x c t := rfl
    rw [e, jI_wI]
    by_cases z : 355 = tg ∧ tba h x c t = a ∧ 0 = 0
    · rw [if_pos z, vq (by omega)]; exact ⟨q, Nat.le_refl _, rfl⟩
    · rw [if_neg z]; exact q5 c t hc ht
abbrev d01 : Int32 → Prop := fun w => w = 0 ∨ w = 1
theorem nks_drop {l : List Row} {i : Nat} {nd : Nd} (e1 : (flat (tree l))[i]? = some nd) : (nks l).drop i = nk l nd :: (nks l).drop (i + 1) := by
  have e2 : (nks l)[i]? = some (nk l nd) := by unfold nks; rw [List.getElem?_map, e1]; rfl
  have hlt := (List.getElem?_eq_some_iff.mp e2).1
  rw [List.drop_eq_getElem_cons hlt]
  congr 1
  exact (List.getElem?_eq_some_iff.mp e2).2
theorem nks_end {l : List Row} {i : Nat} (h : (flat (tree l)).length ≤ i) : (nks l).drop i = [] := List.drop_eq_nil_of_le (by unfold nks; rw [List.length_map]; omega)
theorem c_takeNodes {tb : Nat} {l : List Row} (B : RcM h x m s n P) (K : kT h x m P tb l) (Mt : MT 158 1 d01 h P S) (H : ∀ h', RcM h' x m s n P → xF h h' x m → (RcG h x s → RcG h' x s) → MT 158 1 d01 h' P (fun y => y ∈ nks l ∨ S y) → Q (.int (nI (dct S (nks l)))) h') : jj_C mX5_takeNodes 0 0 [.ref tb] h Q := by
  refine EX5_takeNodes _ fun d => ?_
  have ll : l.length ≤ 200 := by obtain ⟨_, r, w, na, st, _, _, _, _, _, R', _⟩ := K; exact R'.2.2.2.2.2.2.1
  have htl := (tree_len l ll).1
  have loop : ∀ q i cnt (g : jj_H) (S1 : NK → Prop), i + q = (flat (tree l)).length → RcM g x m s n P → kT g x m P tb l → xF h g x m → (RcG h x s → RcG g x s) → MT 158 1 d01 g P S1 → (∀ h', RcM h' x m s n P → xF h h' x m → (RcG h x s → RcG h' x s) → MT 158 1 d01 h' P (fun y => y ∈ (nks l).drop i ∨ S1 y) → Q (.int (nI (cnt + dct S1 ((nks l).drop i)))) h') → jj_WP d mX5_takeNodes 0 0 4 [(0, .ref tb), (1, .int (nI cnt)), (2, .int (nI i))] [] g Q := by
    intro q
    induction q with
    | zero =>
      intro i cnt g S1 hi Bg Kg Xg Gg Mg HH
      obtain ⟨s1, r, w, na, st, s2, s3, s4, s5, e1, R', e2, T⟩ := id Kg
      refine VX5_takeNodes_4 _ _ _ ⟨T.1, c_nodesInAll T ?_⟩
      simp only [jj_vi]
      rw [nI_leI (by omega) (by omega)]
      refine ⟨fun _ => ?_, fun c => by omega⟩
      have := HH g Bg Xg Gg
      rw [nks_end (by omega)] at this
      exact this (Mg.set fun y => ⟨Or.inr, fun z => z.resolve_left (fun c => by cases c)⟩)
    | succ q ih =>
      intro i cnt g S1 hi Bg Kg Xg Gg Mg HH
      obtain ⟨s1, r, w, na, st, s2, s3, s4, s5, e1, R', e2, T⟩ := id Kg
      obtain ⟨nd, hnd⟩ : ∃ nd, (flat (tree l))[i]? = some nd := ⟨_, List.getElem?_eq_getElem (by omega)⟩
      obtain ⟨r', w', ⟨p1, p2, p3, p4⟩, N⟩ := T.2.2.2.2.2.2.2.2.2.2.2 i nd hnd
      have hn1 := T.2.2.2.2.2.2.2.1
      have hn2 := T.2.2.2.2.2.2.2.2.1
      have mk := Mg _ (bk_lt _) _ p1
      rw [nks_drop hnd] at HH
      refine jV_WP fun Vg => VX5_takeNodes_4 _ _ _ ⟨T.1, c_nodesInAll T ?_⟩
      simp only [jj_vi]
      rw [nI_leI (by omega) (by omega)]
      refine ⟨fun c => by omega, fun _ => ⟨T.1, by rw [T.2.1]; exact T.2.2.2.1, ?_⟩⟩
      rw [T.2.1, q_clamp (by omega), qa_1, qa_1]
      refine ⟨vp_in_nI (by omega) (by omega), N.1, fun c => ?_, fun c => ?_⟩
      · have hS : S1 (nk l nd) := mk.2.mpr (mk.1.resolve_left c)
        refine ih (i + 1) cnt g S1 (by omega) Bg Kg Xg Gg Mg fun h' b1 b2 b3 b4 => ?_
        have := HH h' b1 b2 b3 (b4.set fun y => ⟨fun z => z.elim (fun z => Or.inl (List.mem_cons_of_mem _ z)) Or.inr, fun z => z.elim (fun z => (List.mem_cons.mp z).elim (fun z => Or.inr (by rw [z]; exact hS)) Or.inl) Or.inr⟩)
        rw [dct_in hS] at this
        exact this
      · have hS : ¬ S1 (nk l nd) := fun z => by have := mk.2.mp z; rw [c] at this; exact absurd this (by decide)
        rintro _ rfl
        obtain ⟨b1, b2, b3, b4⟩ := Bg.w (tg := 158) (v := 1) Vg p2 (Or.inl rfl)
        refine ih (i + 1) (cnt + 1) _ (fun y => y = nk l nd ∨ S1 y) (by omega) b1 (Kg.sf b4 (fun _ _ z => z)) (Xg.trans b2) (fun G => b3 (Gg G)) (Mg.mark Bg.2.2.2.1 (Or.inr rfl) p1) fun h' c1 c2 c3 c4 => ?_
        have := HH h' c1 c2 c3 (c4.set fun y => ⟨fun z => z.elim (fun z => Or.inl (List.mem_cons_of_mem _ z)) (fun z => z.elim (fun z => Or.inl (by rw [z]; exact List.mem_cons_self)) Or.inr), fun z => z.elim (fun z => (List.mem_cons.mp z).elim (fun z => Or.inr (Or.inl z)) Or.inl) (fun z => Or.inr (Or.inr z))⟩)
        rw [dct_new hS] at this
        rw [show cnt + 1 + dct (fun y => y = nk l nd ∨ S1 y) ((nks l).drop (i + 1)) = cnt + (dct (fun y => y = nk l nd ∨ S1 y) ((nks l).drop (i + 1)) + 1) by omega]
        exact this
  refine loop _ 0 0 h S (Nat.zero_add _) B K xF.rf (fun G => G) Mt fun h' b1 b2 b3 b4 => ?_
  rw [List.drop_zero] at b4 ⊢
  rw [Nat.zero_add]
  exact H h' b1 b2 b3 b4
theorem mem_D {z : Int64} {k : NK} (hm : s.made ≤ 60) (hz : ∀ c, c < 64 → bt z c = true → c < s.made) : k ∈ sq (cS z false) (fun p => nk3 (s.T p)) 61 0 ↔ ∃ c, c < s.made ∧ bt z c = true ∧ k ∈ nk3 (s.T c) := by
  rw [mem_sq]
  constructor
  · rintro ⟨i, h1, h2, h3, h4⟩
    unfold cS at h3
    by_cases e : i = 60
    · rw [if_pos e] at h3; cases h3
    · rw [if_neg e] at h3
      exact ⟨i, hz i (by omega) h3, h3, h4⟩
  · rintro ⟨c, h1, h2, h3⟩
    refine ⟨c, Nat.zero_le _, by omega, ?_, h3⟩
    unfold cS
    rw [if_neg (by omega)]
    exact h2
end JMk
