/-! the class: what stays as it is -/
def Wn (h : jj_H) (x a : Nat) : Prop := ∃ t, t < 3 ∧ isN h (wb x t) a
def Sg (h : jj_H) (x a : Nat) : Prop := x + 42 < a ∧ a ≤ jZ h ∧ ¬ Wn h x a
def Sc (h : jj_H) (x m a : Nat) : Prop := Sg h x a ∧ (a < m ∨ m + 24 < a)
def sF (h h' : jj_H) (x m : Nat) : Prop := jZ h ≤ jZ h' ∧ ∀ a, Sc h x m a → Sc h' x m a ∧ jK h' a = jK h a ∧ jN h' a = jN h a ∧ ∀ tg i, tg ≠ 157 → tg ≠ 158 → tg ≠ 355 → jI h' tg a i = jI h tg a i ∧ jL h' tg a i = jL h tg a i ∧ jR h' tg a i = jR h tg a i
section JS
variable {h h' h1 h2 : jj_H} {x m a : Nat}
theorem sF.rf : sF h h x m := ⟨Nat.le_refl _, fun _ s => ⟨s, rfl, rfl, fun _ _ _ _ _ => ⟨rfl, rfl, rfl⟩⟩⟩
theorem sF.trans (p : sF h h1 x m) (q : sF h1 h2 x m) : sF h h2 x m := ⟨Nat.le_trans p.1 q.1, fun a s => by
  obtain ⟨a1, a2, a3, a4⟩ := p.2 a s
  obtain ⟨b1, b2, b3, b4⟩ := q.2 a a1
  refine ⟨b1, b2.trans a2, b3.trans a3, fun tg i c1 c2 c3 => ?_⟩
  obtain ⟨x1, x2, x3⟩ := a4 tg i c1 c2 c3
  obtain ⟨y1, y2, y3⟩ := b4 tg i c1 c2 c3
  exact ⟨y1.trans x1, y2.trans x2, y3.trans x3⟩⟩
theorem sF.of {P : Nat → Nat → Prop} (F : cF P h h') (hP : ∀ tg a, Sc h x m a → P tg a → tg = 157 ∨ tg = 158 ∨ tg = 355) (hW : ∀ a, Wn h' x a → Wn h x a ∨ jZ h < a) : sF h h' x m := by
  refine ⟨F.1, fun a s => ⟨⟨⟨s.1.1, Nat.le_trans s.1.2.1 F.1, fun z => ?_⟩, s.2⟩, F.ek s.1.2.1, F.en s.1.2.1, fun tg i c1 c2 c3 => ?_⟩⟩
  · rcases hW a z with q | q
    · exact s.1.2.2 q
    · have := s.1.2.1; omega
  · have c : ¬ P tg a := fun z => by have := hP tg a s z; omega
    exact ⟨F.ei s.1.2.1 c, F.el s.1.2.1 c, F.er s.1.2.1 c⟩
theorem Sc.sf (F : sF h h' x m) (s : Sc h x m a) : Sc h' x m a := (F.2 a s).1
theorem sF.k (F : sF h h' x m) (s : Sc h x m a) : jK h' a = jK h a := (F.2 a s).2.1
theorem sF.n (F : sF h h' x m) (s : Sc h x m a) : jN h' a = jN h a := (F.2 a s).2.2.1
theorem sF.ei {tg i : Nat} (F : sF h h' x m) (s : Sc h x m a) (c : tg ≠ 157 ∧ tg ≠ 158 ∧ tg ≠ 355) : jI h' tg a i = jI h tg a i := ((F.2 a s).2.2.2 tg i c.1 c.2.1 c.2.2).1
theorem sF.el {tg i : Nat} (F : sF h h' x m) (s : Sc h x m a) (c : tg ≠ 157 ∧ tg ≠ 158 ∧ tg ≠ 355) : jL h' tg a i = jL h tg a i := ((F.2 a s).2.2.2 tg i c.1 c.2.1 c.2.2).2.1
theorem sF.er {tg i : Nat} (F : sF h h' x m) (s : Sc h x m a) (c : tg ≠ 157 ∧ tg ≠ 158 ∧ tg ≠ 355) : jR h' tg a i = jR h tg a i := ((F.2 a s).2.2.2 tg i c.1 c.2.1 c.2.2).2.2
theorem rwO.sf {r w : Nat} {l : List Row} (R : rwO h r w l) (F : sF h h' x m) (sr : Sc h x m r) (sw : Sc h x m w) : rwO h' r w l := by
  obtain ⟨z1, z2, z3, z4, z5, z6, z7, z8⟩ := R
  exact ⟨(F.k sr).trans z1, (F.er sr (by decide)).trans z2, (F.k sw).trans z3, by rw [F.n sw]; exact z4, by rw [F.n sw]; exact z5, (F.ei sr (by decide)).trans z6, z7, fun i x c hx hc => (F.ei sw (by decide)).trans (z8 i x c hx hc)⟩
/-- a node that stays -/
def kN (h : jj_H) (x m b : Nat) (k : NK) : Prop := Sc h x m b ∧ ∃ r w, Sc h x m r ∧ Sc h x m w ∧ ndO h b r w k (ent k)
theorem ndO.sf {b r w e : Nat} {k : NK} (N : ndO h b r w k e) (F : sF h h' x m) (sb : Sc h x m b) (sr : Sc h x m r) (sw : Sc h x m w) : ndO h' b r w k e :=
  N.fr (fun l R => R.sf F sr sw) (F.k sb) (F.er sb (by decide)) (fun tg p1 p2 => F.ei sb (by omega)) (F.el sb (by decide))
theorem kN.sf {b : Nat} {k : NK} (N : kN h x m b k) (F : sF h h' x m) : kN h' x m b k := by
  obtain ⟨sb, r, w, sr, sw, N⟩ := N
  exact ⟨sb.sf F, r, w, sr.sf F, sw.sf F, N.sf F sb sr sw⟩
theorem rwO.uq {r w w' : Nat} {l l' : List Row} (a : rwO h r w l) (b : rwO h r w' l') : l = l' := by
  have ew : w = w' := a.2.1.symm.trans b.2.1
  subst ew
  have la := a.2.2.2.2.2.2.1
  have lb := b.2.2.2.2.2.2.1
  have e : l.length = l'.length := (nI_eq (by omega) (by omega)).mp (a.2.2.2.2.2.1.symm.trans b.2.2.2.2.2.1)
  apply List.ext_getElem?
  intro j
  by_cases hj : j < l.length
  · have e1 : l[j]? = some l[j] := List.getElem?_eq_getElem hj
    have e2 : l'[j]? = some l'[j] := List.getElem?_eq_getElem (by omega)
    rw [e1, e2]
    congr 1
    exact wd_ext fun c hc => by rw [← a.2.2.2.2.2.2.2 j _ c e1 hc, ← b.2.2.2.2.2.2.2 j _ c e2 hc]
  · rw [List.getElem?_eq_none (by omega), List.getElem?_eq_none (by omega)]
theorem ndO.uq {b r w r' w' e e' : Nat} {k k' : NK} (N : ndO h b r w k e) (N' : ndO h b r' w' k' e') : k = k' := by
  have hl := N.len
  have hl' := N'.len
  obtain ⟨n1, n2, n3, n4, n5, n6, n7, n8, l, f, R, f1, f2, f3, f4⟩ := N
  obtain ⟨n1', n2', n3', n4', n5', n6', n7', n8', l', f', R', f1', f2', f3', f4'⟩ := N'
  have er : r = r' := n2.symm.trans n2'
  subst er
  have el := R.uq R'
  subst el
  have ll := R.2.2.2.2.2.2.1
  have ef : f = f' := (nI_eq (by omega) (by omega)).mp (f1.symm.trans f1')
  have en : k.2.2.length = k'.2.2.length := (nI_eq (by omega) (by omega)).mp (n6.symm.trans n6')
  refine Prod.ext ((nI_eq (by omega) (by omega)).mp (n4.symm.trans n4')) (Prod.ext (n8.symm.trans n8') ?_)
  rw [← f3, ← f3', ef, en]
/-! the pool -/
def bk (k : NK) : Nat := (Int64.toInt32 (k.2.1 ^^^ (Int64.toUInt64 k.2.1 >>> ((Int32.toInt64 32).toUInt64 &&& Int64.toUInt64 63)).toInt64)).toBitVec.toNat % 4096
theorem bk_lt (k : NK) : bk k < 4096 := Nat.mod_lt _ (by decide)
theorem bk_eq (k : NK) : (Int64.toInt32 (k.2.1 ^^^ (Int64.toUInt64 k.2.1 >>> ((Int32.toInt64 32).toUInt64 &&& Int64.toUInt64 63)).toInt64)) &&& 4095 = nI (bk k) := pk_and _ 12 (by decide)
def chn (h : jj_H) (x m : Nat) : Nat → List (Nat × NK) → Prop
  | a, [] => a = 0
  | a, q :: r => a = q.1 ∧ kN h x m q.1 q.2 ∧ chn h x m (jR h 156 q.1 0) r
theorem chn.sf (F : sF h h' x m) : ∀ (r : List (Nat × NK)) (a : Nat), chn h x m a r → chn h' x m a r := by
  intro r
  induction r with
  | nil => intro a c; exact c
  | cons q r ih =>
    intro a c
    obtain ⟨c1, c2, c3⟩ := c
    refine ⟨c1, c2.sf F, ?_⟩
    rw [F.er c2.1 (by decide)]
    exact ih _ c3
theorem chn.mem {r : List (Nat × NK)} : ∀ {a : Nat}, chn h x m a r → ∀ q ∈ r, kN h x m q.1 q.2 := by
  induction r with
  | nil => intro a c q hq; cases hq
  | cons p r ih =>
    intro a c q hq
    rcases List.mem_cons.mp hq with e | e
    · rw [e]; exact c.2.1
    · exact ih c.2.2 q e
abbrev Pl : Type := Nat → List (Nat × NK)
def PO (h : jj_H) (x m : Nat) (P : Pl) : Prop := ∀ β, β < 4096 → chn h x m (jR h 1000 (x + 20) β) (P β) ∧ ((P β).map Prod.snd).Nodup ∧ ∀ q ∈ P β, bk q.2 = β
theorem PO.sf {P : Pl} (R : PO h x m P) (F : sF h h' x m) (e : ∀ β, jR h' 1000 (x + 20) β = jR h 1000 (x + 20) β) : PO h' x m P := fun β hβ => ⟨by rw [e]; exact chn.sf F _ _ (R β hβ).1, (R β hβ).2⟩
theorem PO.kn {P : Pl} {a : Nat} {k : NK} (R : PO h x m P) (hq : (a, k) ∈ P (bk k)) : kN h x m a k := (R (bk k) (bk_lt k)).1.mem _ hq
/-- a table that stays -/
def Sk (h : jj_H) (x m : Nat) (P : Pl) : Nat → Nat → Nat → NK → Prop := fun a r w k => (a, k) ∈ P (bk k) ∧ Sc h x m a ∧ Sc h x m r ∧ Sc h x m w
def kT (h : jj_H) (x m : Nat) (P : Pl) (tb : Nat) (l : List Row) : Prop := Sc h x m tb ∧ ∃ r w na st, Sc h x m r ∧ Sc h x m w ∧ Sc h x m na ∧ Sc h x m st ∧ jR h 350 tb 0 = r ∧ rwO h r w l ∧ jI h 354 tb 0 = 0 ∧ tbX (Sk h x m P) h tb na st l (tree l)
theorem kT.sf {P P' : Pl} {tb : Nat} {l : List Row} (K : kT h x m P tb l) (F : sF h h' x m) (hP : ∀ k a, (a, k) ∈ P (bk k) → (a, k) ∈ P' (bk k)) : kT h' x m P' tb l := by
  obtain ⟨s1, r, w, na, st, s2, s3, s4, s5, e1, R, e2, T⟩ := K
  refine ⟨s1.sf F, r, w, na, st, s2.sf F, s3.sf F, s4.sf F, s5.sf F, (F.er s1 (by decide)).trans e1, R.sf F s2 s3, (F.ei s1 (by decide)).trans e2, ?_⟩
  obtain ⟨t1, t2, t3, t4, t5, t6, t7, t8, t9, t10, t11, t12⟩ := T
  refine ⟨(F.k s1).trans t1, (F.er s1 (by decide)).trans t2, (F.er s1 (by decide)).trans t3, (F.k s4).trans t4, (F.k s5).trans t5, by rw [F.n s5]; exact t6, by rw [F.n s5]; exact t7, by rw [F.n s4]; exact t8, by rw [F.n s4]; exact t9, (F.ei s1 (by decide)).trans t10, fun lv hlv => (F.ei s5 (by decide)).trans (t11 lv hlv), fun i nd hi => ?_⟩
  obtain ⟨r', w', ⟨p1, p2, p3, p4⟩, N⟩ := t12 i nd hi
  rw [F.er s4 (by decide)]
  exact ⟨r', w', ⟨hP _ _ p1, p2.sf F, p3.sf F, p4.sf F⟩, N.sf F p2 p3 p4⟩
/-! commits -/
def cad (h : jj_H) (x c : Nat) : Nat := jR h 1000 (x + 21) c
def tba (h : jj_H) (x c t : Nat) : Nat := jR h 1000 (jR h 3 (cad h x c) 0) t
def kC (h : jj_H) (x m : Nat) (P : Pl) (s : St) (c : Nat) : Prop := Sc h x m (cad h x c) ∧ Sc h x m (jR h 3 (cad h x c) 0) ∧ jK h (cad h x c) = 1 ∧ jI h 0 (cad h x c) 0 = s.fp c ∧ jI h 1 (cad h x c) 0 = s.sp c ∧ jL h 2 (cad h x c) 0 = s.an c ∧ jK h (jR h 3 (cad h x c) 0) = 27 ∧ jN h (jR h 3 (cad h x c) 0) = 3 ∧ ∀ t, t < 3 → kT h x m P (tba h x c t) (s.T c t)
theorem kC.ads {P : Pl} {s : St} {c : Nat} (K : kC h x m P s c) (F : sF h h' x m) (e : jR h' 1000 (x + 21) c = jR h 1000 (x + 21) c) : cad h' x c = cad h x c ∧ jR h' 3 (cad h' x c) 0 = jR h 3 (cad h x c) 0 ∧ ∀ t, tba h' x c t = tba h x c t := by
  have e1 : cad h' x c = cad h x c := e
  have e2 : jR h' 3 (cad h' x c) 0 = jR h 3 (cad h x c) 0 := by rw [e1]; exact F.er K.1 (by decide)
  refine ⟨e1, e2, fun t => ?_⟩
  unfold tba
  rw [e2]
  exact F.er K.2.1 (by decide)
theorem kC.sf {P P' : Pl} {s : St} {c : Nat} (K : kC h x m P s c) (F : sF h h' x m) (e : jR h' 1000 (x + 21) c = jR h 1000 (x + 21) c) (hP : ∀ k a, (a, k) ∈ P (bk k) → (a, k) ∈ P' (bk k)) : kC h' x m P' s c := by
  obtain ⟨e1, e2, e3⟩ := K.ads F e
  obtain ⟨k1, k2, k3, k4, k5, k6, k7, k8, k9⟩ := K
  unfold kC
  rw [e2, e1]
  refine ⟨k1.sf F, k2.sf F, (F.k k1).trans k3, (F.ei k1 (by decide)).trans k4, (F.ei k1 (by decide)).trans k5, (F.el k1 (by decide)).trans k6, (F.k k2).trans k7, (F.n k2).trans k8, fun t ht => ?_⟩
  rw [e3]
  exact (k9 t ht).sf F hP
/-! marks -/
def thS (s : St) (k : NK) : Prop := ∃ c, c < s.made ∧ bt s.thr c = true ∧ k ∈ nk3 (s.T c)
def Mk (h : jj_H) (x : Nat) (P : Pl) (s : St) (n : Nat) : Prop := (∃ q, q ≤ n ∧ n < 1000 ∧ jI h 201 (x + 19) 0 = nI q ∧ (∀ β, β < 4096 → ∀ p ∈ P β, ∃ j, j ≤ q ∧ jI h 157 p.1 0 = nI j) ∧ ∀ c t, c < s.made → t < 3 → ∃ j, j ≤ q ∧ jI h 355 (tba h x c t) 0 = nI j) ∧ ∀ β, β < 4096 → ∀ p ∈ P β, (thS s p.2 → jI h 158 p.1 0 = 1) ∧ (¬ thS s p.2 → jI h 158 p.1 0 = 0)
/-! the other groups -/
def kF (h : jj_H) (x : Nat) (made : Nat) (here : Int64) (g : (Nat → Int32) × Nat) : Prop := jI h 454 x 0 = nI made ∧ jL h 455 x 0 = here ∧ (∀ b, b < 6 → jI h 1000 (x + 22) b = g.1 b) ∧ jI h 457 x 0 = nI g.2
def kD (h : jj_H) (x : Nat) (dl : List (Int32 × Int32)) : Prop := jI h 52 (x + 23) 0 = nI dl.length ∧ ∀ i c, dl[i]? = some c → jI h 1000 (x + 24) i = c.1 ∧ jI h 1000 (x + 25) i = c.2
def kCf (h : jj_H) (x : Nat) (cf : List (Nat × Int32 × Bool)) : Prop := jI h 109 (x + 26) 0 = nI cf.length ∧ jI h 110 (x + 26) 0 = nI (cf.countP (fun c => c.2.2)) ∧ ∀ i c, cf[i]? = some c → jI h 1000 (x + 32) i = nI c.1 ∧ jI h 1000 (x + 33) i = c.2.1 ∧ jI h 1000 (x + 34) i = (if c.2.2 then 1 else 0)
def kM (h : jj_H) (x : Nat) (s : St) : Prop := jI h 100 (x + 26) 0 = (if 0 < s.mg then 1 else 0) ∧ (0 < s.mg → jI h 101 (x + 26) 0 = (if s.mg = 1 then nI s.their else -1) ∧ ∀ k, k < 3 → jR h 1000 (x + 27) k = cad h x (s.vPl k)) ∧ kCf h x s.cf ∧ jI h 301 (x + 30) 0 = 1
noncomputable def kO (h : jj_H) (x : Nat) (s : St) : Prop := jL h 251 (x + 41) 0 = s.thr ∧ jI h 252 (x + 41) 0 = nI (s.D s.thr) ∧ ∀ b, b < 6 → jI h 1000 (x + 42) b = s.th b
def kZ (h : jj_H) (x m : Nat) : Prop := 1 ≤ x ∧ x + 42 ≤ jZ h ∧ m + 24 ≤ jZ h ∧ ∀ a, m ≤ a → a ≤ m + 24 → x + 42 < a → ¬ Wn h x a
/-- tables, commits, pool -/
def RcB (h : jj_H) (x m : Nat) (s : St) (n : Nat) (P : Pl) : Prop := kZ h x m ∧ cM h x ∧ Wk h x (s.T 60) ∧ PO h x m P ∧ (∀ c, c < s.made → kC h x m P s c) ∧ Mk h x P s n
noncomputable def RcG (h : jj_H) (x : Nat) (s : St) : Prop := kF h x s.made s.here s.2.2.1 ∧ kD h x s.dl ∧ kM h x s ∧ kO h x s
/-- the class holds a state -/
noncomputable def Rc (h : jj_H) (x m : Nat) (s : St) (n : Nat) : Prop := (∃ P, RcB h x m s n P) ∧ RcG h x s
end JS
