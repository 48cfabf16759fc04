/-! the class: nodes counted -/
abbrev dQ (q : Nat) : Int32 → Prop := fun w => ∃ j, j ≤ q ∧ w = nI j
/-- a table that bears the number of this count has been counted -/
def TM (q : Nat) (g : jj_H) (x : Nat) (s : St) (S : NK → Prop) : Prop := ∀ c t, c < s.made → t < 3 → jI g 355 (tba g x c t) 0 = nI q → ∀ k ∈ nks (s.T c t), S k
section JSt
variable {h h' g : jj_H} {x m n t : Nat} {s : St} {P : Pl} {Q : Value → jj_H → Prop} {S : NK → Prop} {D : Int32 → Prop}
theorem RcB.w {tg a : Nat} {v : Int32} (B : RcB h x m s n P) (V : jj_V h) (sa : Sc h x m a) (hv : (tg = 157 ∨ tg = 355) ∧ v = jI h 201 (x + 19) 0) : RcB (wI h tg a 0 v) x m s n P ∧ xF h (wI h tg a 0 v) x m ∧ (RcG h x s → RcG (wI h tg a 0 v) x s) ∧ sF h (wI h tg a 0 v) x m := by
  obtain ⟨b1, b2, b3, b4, b5, b6, b7⟩ := B
  have hh := RcM.w (h := h) (x := x) (m := m) (s := s) (n := n) (P := P) (tg := tg) (v := v) ⟨b1, b2, b3, b4, b5, b6⟩ V sa (Or.inr hv)
  obtain ⟨⟨c1, c2, c3, c4, c5, c6⟩, cc⟩ := hh
  refine ⟨⟨c1, c2, c3, c4, c5, c6, fun β hβ p hp => ?_⟩, cc⟩
  rw [jI_wI, if_neg (fun z => by have := hv.1; omega)]
  exact b7 β hβ p hp
theorem c_see {a q : Nat} {k : NK} (B : RcB h x m s n P) (hq : jI h 201 (x + 19) 0 = nI q) (Mt : MT 157 (nI q) D h P S) (hp : (a, k) ∈ P (bk k)) (H1 : S k → Q (.int 0) (wI h 157 a 0 (nI q))) (H0 : ¬ S k → Q (.int 1) (wI h 157 a 0 (nI q))) : jj_C mX4_see 0 0 [.ref (x + 19), .ref a] h Q := by
  have mk := Mt _ (bk_lt k) _ hp
  obtain ⟨sb, r, w, _, _, N⟩ := B.2.2.2.1.kn hp
  refine EX4_see _ _ fun d => ⟨N.1, cM_k19 B.2.1, ?_, ?_⟩
  · rw [hq]
    intro c
    rintro _ rfl
    exact H1 (mk.2.mpr c)
  · rw [hq]
    intro c
    rintro _ rfl
    exact H0 (fun z => c (mk.2.mp z))
theorem kT.uq {tb : Nat} {l l' : List Row} (a : kT h x m P tb l) (b : kT h x m P tb l') : l = l' := by
  obtain ⟨_, r, w, _, _, _, _, _, _, e1, R1, _⟩ := a
  obtain ⟨_, r', w', _, _, _, _, _, _, e1', R1', _⟩ := b
  have : r = r' := e1.symm.trans e1'
  subst this
  exact R1.uq R1'
theorem tba_eq (e : g.2 = h.2) (c t : Nat) : tba g x c t = tba h x c t ∧ cad g x c = cad h x c := by
  unfold tba cad jR
  rw [e]
  exact ⟨rfl, rfl⟩
theorem c_count {c q : Nat} (B : RcB h x m s n P) (G : RcG h x s) (hq : jI h 201 (x + 19) 0 = nI q) (Mt : MT 157 (nI q) (dQ q) h P S) (tm : TM q h x s S) (hc : c < s.made) (ht : t < 3) (H : ∀ h', RcB h' x m s n P → RcG h' x s → xF h h' x m → h'.2 = h.2 → jI h' 201 (x + 19) 0 = nI q → MT 157 (nI q) (dQ q) h' P (fun y => y ∈ nks (s.T c t) ∨ S y) → TM q h' x s (fun y => y ∈ nks (s.T c t) ∨ S y) → Q (.int (nI (dct S (nks (s.T c t))))) h') : jj_C mX4_countUnseen 0 0 [.ref (x + 19), .ref (tba h x c t)] h Q := by
  refine jV_C (by decide +kernel) fun V => ?_
  have K := (B.2.2.2.2.1 c hc).2.2.2.2.2.2.2.2 t ht
  generalize htb : tba h x c t = tb at *
  generalize hl : s.T c t = l at *
  have k8 : jK h tb = 8 := by obtain ⟨_, r, w, na, st, _, _, _, _, _, _, _, T⟩ := K; exact T.1
  have stb := K.1
  have ll : l.length ≤ 200 := by obtain ⟨_, r, w, na, st, _, _, _, _, _, R', _⟩ := K; exact R'.2.2.2.2.2.2.1
  have htl := (tree_len l ll).1
  refine EX4_countUnseen _ _ fun d => ⟨k8, cM_k19 B.2.1, ?_⟩
  rw [hq]
  refine ⟨fun cn => ?_, fun cy => ?_⟩
  · rintro _ rfl
    have loop : ∀ qq i cnt (g : jj_H) (S1 : NK → Prop), i + qq = (flat (tree l)).length → RcB g x m s n P → RcG g x s → xF h g x m → g.2 = h.2 → kT g x m P tb l → jI g 201 (x + 19) 0 = nI q → MT 157 (nI q) (dQ q) g P S1 → (∀ c' t', c' < s.made → t' < 3 → jI g 355 (tba h x c' t') 0 = nI q → tba h x c' t' = tb ∨ ∀ k ∈ nks (s.T c' t'), S1 k) → (∀ h', RcB h' x m s n P → RcG h' x s → xF h h' x m → h'.2 = h.2 → jI h' 201 (x + 19) 0 = nI q → MT 157 (nI q) (dQ q) h' P (fun y => y ∈ (nks l).drop i ∨ S1 y) → (∀ c' t', c' < s.made → t' < 3 → jI h' 355 (tba h x c' t') 0 = nI q → tba h x c' t' = tb ∨ ∀ k ∈ nks (s.T c' t'), k ∈ (nks l).drop i ∨ S1 k) → Q (.int (nI (cnt + dct S1 ((nks l).drop i)))) h') → jj_WP d mX4_countUnseen 0 0 25 [(0, .ref (x + 19)), (1, .ref tb), (2, .int (nI cnt)), (3, .int (nI i))] [] g Q := by
      intro qq
      induction qq with
      | zero =>
        intro i cnt g S1 hi Bg Gg Xg eg Kg qg Mg tg HH
        obtain ⟨s1, r, w, na, st, s2, s3, s4, s5, e1, R', e2, T⟩ := id Kg
        refine VX4_countUnseen_25 _ _ _ _ ⟨T.1, c_nodesInAll T ?_⟩
        simp only [jj_vi]
        rw [nI_leI (by omega) (by omega)]
        refine ⟨fun _ => ?_, fun c => by omega⟩
        have := HH g Bg Gg Xg eg qg
        rw [nks_end (by omega)] at this
        exact this (Mg.set fun y => ⟨Or.inr, fun z => z.resolve_left (fun c => by cases c)⟩) fun c' t' h1 h2 h3 => (tg c' t' h1 h2 h3).imp id (fun z k hk => Or.inr (z k hk))
      | succ qq ih =>
        intro i cnt g S1 hi Bg Gg Xg eg Kg qg Mg tg HH
        obtain ⟨s1, r, w, na, st, s2, s3, s4, s5, e1, R', e2, T⟩ := id Kg
        obtain ⟨nd, hnd⟩ : ∃ nd, (flat (tree l))[i]? = some nd := ⟨_, List.getElem?_eq_getElem (by omega)⟩
        obtain ⟨r', w', ⟨p1, p2, p3, p4⟩, N⟩ := T.2.2.2.2.2.2.2.2.2.2.2 i nd hnd
        have hn1 := T.2.2.2.2.2.2.2.1
        have hn2 := T.2.2.2.2.2.2.2.2.1
        rw [nks_drop hnd] at HH
        refine jV_WP fun Vg => VX4_countUnseen_25 _ _ _ _ ⟨T.1, c_nodesInAll T ?_⟩
        simp only [jj_vi]
        rw [nI_leI (by omega) (by omega)]
        refine ⟨fun c => by omega, fun _ => ⟨T.1, by rw [T.2.1]; exact T.2.2.2.1, ?_⟩⟩
        rw [T.2.1, q_clamp (by omega), qa_1, qa_1]
        obtain ⟨b1, b2, b3, b4⟩ := Bg.w (tg := 157) (v := nI q) Vg p2 ⟨Or.inl rfl, qg.symm⟩
        have M2 := Mg.mark Bg.2.2.2.1 (⟨q, Nat.le_refl _, rfl⟩ : dQ q (nI q)) p1
        have q2 : jI (wI g 157 (jR g 1000 na i) 0 (nI q)) 201 (x + 19) 0 = nI q := by rw [jI_wI, if_neg (by omega)]; exact qg
        have t2 : ∀ c' t', c' < s.made → t' < 3 → jI (wI g 157 (jR g 1000 na i) 0 (nI q)) 355 (tba h x c' t') 0 = nI q → tba h x c' t' = tb ∨ ∀ k ∈ nks (s.T c' t'), (k = nk l nd ∨ S1 k) := fun c' t' h1 h2 h3 => by
          rw [jI_wI, if_neg (by omega)] at h3
          exact (tg c' t' h1 h2 h3).imp id (fun z k hk => Or.inr (z k hk))
        have go : ∀ cnt2, cnt2 + dct (fun y => y = nk l nd ∨ S1 y) ((nks l).drop (i + 1)) = cnt + dct S1 (nk l nd :: (nks l).drop (i + 1)) → jj_WP d mX4_countUnseen 0 0 25 [(0, .ref (x + 19)), (1, .ref tb), (2, .int (nI cnt2)), (3, .int (nI (i + 1)))] [] (wI g 157 (jR g 1000 na i) 0 (nI q)) Q := by
          intro cnt2 ec
          refine ih (i + 1) cnt2 _ (fun y => y = nk l nd ∨ S1 y) (by omega) b1 (b3 Gg) (Xg.trans b2) eg (Kg.sf b4 (fun _ _ z => z)) q2 M2 t2 fun h' c1 c2 c3 c4 c5 c6 c7 => ?_
          have es : ∀ y, (y ∈ (nks l).drop (i + 1) ∨ (y = nk l nd ∨ S1 y)) ↔ (y ∈ nk l nd :: (nks l).drop (i + 1) ∨ S1 y) := fun y => ⟨fun z => z.elim (fun z => Or.inl (List.mem_cons_of_mem _ z)) (fun z => z.elim (fun z => Or.inl (by rw [z]; exact List.mem_cons_self)) Or.inr), fun z => z.elim (fun z => (List.mem_cons.mp z).elim (fun z => Or.inr (Or.inl z)) Or.inl) (fun z => Or.inr (Or.inr z))⟩
          have := HH h' c1 c2 c3 c4 c5 (c6.set es) fun c' t' h1 h2 h3 => (c7 c' t' h1 h2 h3).imp id (fun z k hk => (es k).mp (z k hk))
          rw [ec]
          exact this
        refine ⟨vp_in_nI (by omega) (by omega), cM_k19 Bg.2.1, c_see Bg qg Mg p1 (fun hS => ⟨fun _ => go cnt ?_, fun c => absurd rfl c⟩) (fun hS => ⟨fun c => absurd c (by decide), fun _ => go (cnt + 1) ?_⟩)⟩
        · rw [dct_in hS]
          congr 2
          exact set_ext fun y => ⟨fun z => z.elim (fun z => by rw [z]; exact hS) id, Or.inr⟩
        · rw [dct_new hS]
          omega
    obtain ⟨b1, b2, b3, b4⟩ := B.w (tg := 355) (v := nI q) V stb ⟨Or.inr rfl, hq.symm⟩
    refine loop _ 0 0 _ S (Nat.zero_add _) b1 (b3 G) b2 rfl (K.sf b4 (fun _ _ z => z)) (by rw [jI_wI, if_neg (by omega)]; exact hq) (Mt.ot (by decide)) (fun c' t' h1 h2 h3 => ?_) fun h' c1 c2 c3 c4 c5 c6 c7 => ?_
    · by_cases e : tba h x c' t' = tb
      · exact Or.inl e
      · rw [jI_wI, if_neg (fun z => e z.2.1)] at h3
        exact Or.inr (tm c' t' h1 h2 h3)
    · rw [List.drop_zero] at c6 c7 ⊢
      rw [Nat.zero_add]
      refine H h' c1 c2 c3 c4 c5 c6 fun c' t' h1 h2 h3 k hk => ?_
      rw [(tba_eq c4 c' t').1] at h3
      rcases c7 c' t' h1 h2 h3 with z | z
      · have K' := (B.2.2.2.2.1 c' h1).2.2.2.2.2.2.2.2 t' h2
        rw [z] at K'
        rw [K'.uq K] at hk
        exact Or.inl hk
      · exact z k hk
  · have hall : ∀ k ∈ nks l, S k := by
      have := tm c t hc ht (by rw [htb]; exact cy)
      rw [hl] at this
      exact this
    have es : ∀ y, S y ↔ (y ∈ nks l ∨ S y) := fun y => ⟨Or.inr, fun z => z.elim (hall y) id⟩
    have := H h B G xF.rf rfl hq (Mt.set es) (fun c' t' h1 h2 h3 k hk => Or.inr (tm c' t' h1 h2 h3 k hk))
    rw [dct_all hall] at this
    exact this
/-- a count begins -/
theorem RcB.begin (B : RcB h x m s n P) (V : jj_V h) (hn : n + 1 < 1000) : ∃ q, q ≤ n ∧ jI h 201 (x + 19) 0 = nI q ∧ RcB (wI h 201 (x + 19) 0 (nI (q + 1))) x m s (n + 1) P ∧ xF h (wI h 201 (x + 19) 0 (nI (q + 1))) x m ∧ (RcG h x s → RcG (wI h 201 (x + 19) 0 (nI (q + 1))) x s) ∧ MT 157 (nI (q + 1)) (dQ (q + 1)) (wI h 201 (x + 19) 0 (nI (q + 1))) P (fun _ => False) ∧ TM (q + 1) (wI h 201 (x + 19) 0 (nI (q + 1))) x s (fun _ => False) := by
  obtain ⟨⟨z1, z2, z3, z4⟩, M, W, Po, C, ⟨q, q1, q2, q3, q4, q5⟩, q6⟩ := B
  have F : cF (fun tg a => tg = 201 ∧ a = x + 19) h (wI h 201 (x + 19) 0 (nI (q + 1))) := cF.wI ⟨rfl, rfl⟩
  have sf : sF h (wI h 201 (x + 19) 0 (nI (q + 1))) x m := sF.of F (fun tg a s c => by have := s.1.1; omega) (fun b w => Or.inl w)
  have ne : ∀ {j}, j ≤ q → nI j ≠ nI (q + 1) := fun hj e => by
    have := (nI_eq (by omega) (by omega)).mp e
    omega
  have i7 : ∀ tg a, tg ≠ 201 → jI (wI h 201 (x + 19) 0 (nI (q + 1))) tg a 0 = jI h tg a 0 := fun tg a c => by rw [jI_wI, if_neg (by omega)]
  have et : ∀ c t, tba (wI h 201 (x + 19) 0 (nI (q + 1))) x c t = tba h x c t := fun _ _ => rfl
  refine ⟨q, q1, q3, ⟨⟨z1, z2, z3, z4⟩, M.cf F z2 (fun tg a c => by right; left; rw [c.1]; decide), W.cf V F z2 z1 (fun tg a c _ => by omega), Po.sf sf (fun _ => rfl), fun c hc => (C c hc).sf sf rfl (fun _ _ y => y), ⟨q + 1, by omega, hn, by rw [jI_wI, if_pos ⟨rfl, rfl, rfl⟩], fun β hβ p hp => ?_, fun c t hc ht => ?_⟩, fun β hβ p hp => ?_⟩, fun hh => mF.of F z3 fun tg a h1 h2 c => by omega, fun G => G.cf F z2 (fun tg a c => by omega), fun β hβ p hp => ?_, fun c t hc ht e => ?_⟩
  · obtain ⟨j, h1, h2⟩ := q4 β hβ p hp
    exact ⟨j, by omega, (i7 _ _ (by decide)).trans h2⟩
  · obtain ⟨j, h1, h2⟩ := q5 c t hc ht
    exact ⟨j, by omega, (i7 _ _ (by decide)).trans h2⟩
  · rw [i7 _ _ (by decide)]; exact q6 β hβ p hp
  · obtain ⟨j, h1, h2⟩ := q4 β hβ p hp
    rw [i7 _ _ (by decide)]
    exact ⟨⟨j, by omega, h2⟩, fun z => absurd z id, fun z => ne h1 (h2.symm.trans z)⟩
  · obtain ⟨j, h1, h2⟩ := q5 c t hc ht
    rw [et, i7 _ _ (by decide)] at e
    exact absurd (h2.symm.trans e) (ne h1)
end JSt
