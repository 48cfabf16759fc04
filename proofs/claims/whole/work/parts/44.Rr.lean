/-! what keeps the reference's state -/
theorem rTb.ag {h h' : jj_H} {m s t : Nat} {l : List Row} (T : rTb h m s t l) (e : ∀ a i, m + 1 ≤ a → a ≤ m + 3 → jI h' 1000 a i = jI h 1000 a i) : rTb h' m s t l := by
  refine ⟨by rw [e _ _ (by omega) (by omega)]; exact T.1, T.2.1, fun j r hj => ?_⟩
  rw [← T.2.2 j r hj]
  unfold rw4
  rw [e _ _ (by omega) (by omega), e _ _ (by omega) (by omega), e _ _ (by omega) (by omega), e _ _ (by omega) (by omega)]
theorem rTr.ag {h h' : jj_H} {m k : Nat} {x : List (List Nd)} (T : rTr h m k x) (e : ∀ a i, m + 4 ≤ a → a ≤ m + 9 → jI h' 1000 a i = jI h 1000 a i) (e2 : ∀ i, jL h' 1000 (m + 10) i = jL h 1000 (m + 10) i) : rTr h' m k x := by
  refine ⟨⟨by rw [e _ _ (by omega) (by omega)]; exact T.1.1, fun i nd hi => ?_⟩, by rw [e _ _ (by omega) (by omega)]; exact T.2⟩
  have := T.1.2 i nd hi
  unfold rNd at *
  rw [e _ _ (by omega) (by omega), e _ _ (by omega) (by omega), e _ _ (by omega) (by omega), e _ _ (by omega) (by omega), e2]
  exact this
def RrT (h : jj_H) (m : Nat) (s : St) : Prop := rM h m ∧ (∀ p, (p < s.made ∨ p = 60) → rT3 h m p (s.T p)) ∧ (∀ p t, p < s.made → t < 3 → rTr h m (3 * p + t) (tree (s.T p t)))
theorem Rr.t {h : jj_H} {m : Nat} {s : St} (R : Rr h m s) : RrT h m s := ⟨R.1, R.2.1, R.2.2.1⟩
theorem RrT.ag {h h' : jj_H} {m : Nat} {s : St} (R : RrT h m s) (e : h'.2.2 = h.2.2) (e1 : ∀ a i, m + 1 ≤ a → a ≤ m + 9 → jI h' 1000 a i = jI h 1000 a i) (e2 : ∀ i, jL h' 1000 (m + 10) i = jL h 1000 (m + 10) i) : RrT h' m s :=
  ⟨R.1.of e, fun p hp t ht => (R.2.1 p hp t ht).ag fun a i p1 p2 => e1 a i (by omega) (by omega), fun p t hp ht => (R.2.2 p t hp ht).ag (fun a i p1 p2 => e1 a i (by omega) (by omega)) e2⟩
theorem RrT.wI {h : jj_H} {m tg a i : Nat} {v : Int32} {s : St} (R : RrT h m s) (ha : a = m ∨ m + 10 < a) : RrT (wI h tg a i v) m s := R.ag rfl (fun a' i' p1 p2 => by rw [jI_wI, if_neg (by omega)]) (fun _ => rfl)
theorem RrT.wL {h : jj_H} {m tg a i : Nat} {v : Int64} {s : St} (R : RrT h m s) (ha : a = m ∨ m + 10 < a) : RrT (wL h tg a i v) m s := R.ag rfl (fun a' i' p1 p2 => rfl) (fun _ => by rw [jL_wL, if_neg (by omega)])
/-! the rest of the state, group by group -/
def gC (h : jj_H) (m : Nat) (x : Nat × Int64 × (Nat → Int32) × (Nat → Int32) × (Nat → Int64)) : Prop := jI h 513 m 0 = nI x.1 ∧ jL h 514 m 0 = x.2.1 ∧ ∀ c, c < x.1 → jI h 1000 (m + 13) c = x.2.2.1 c ∧ jI h 1000 (m + 14) c = x.2.2.2.1 c ∧ jL h 1000 (m + 15) c = x.2.2.2.2 c
def gH (h : jj_H) (m : Nat) (x : (Nat → Int32) × Nat) : Prop := (∀ b, b < 6 → jI h 1000 (m + 16) b = x.1 b) ∧ jI h 519 m 0 = nI x.2
def gM (h : jj_H) (m : Nat) (x : Nat × Nat × Nat × List (Nat × Int32 × Bool)) : Prop := jI h 520 m 0 = nI x.1 ∧ (0 < x.1 → jI h 521 m 0 = nI x.2.1 ∧ jI h 522 m 0 = nI x.2.2.1) ∧ jI h 523 m 0 = nI x.2.2.2.length ∧ ∀ i c, x.2.2.2[i]? = some c → jI h 1000 (m + 17) i = nI c.1 ∧ jI h 1000 (m + 18) i = c.2.1 ∧ jI h 1000 (m + 19) i = (if c.2.2 then 1 else 0)
def gD (h : jj_H) (m : Nat) (x : List (Int32 × Int32)) : Prop := jI h 527 m 0 = nI x.length ∧ ∀ i c, x[i]? = some c → jI h 1000 (m + 20) i = c.1 ∧ jI h 1000 (m + 21) i = c.2
def gO (h : jj_H) (m : Nat) (x : Int64 × (Nat → Int32)) : Prop := jL h 530 m 0 = x.1 ∧ ∀ b, b < 6 → jI h 1000 (m + 22) b = x.2 b
def RrG (h : jj_H) (m : Nat) (s : St) : Prop := gC h m s.2.1 ∧ gH h m s.2.2.1 ∧ gM h m s.2.2.2.1 ∧ gD h m s.2.2.2.2.1 ∧ gO h m s.2.2.2.2.2
theorem Rr.g {h : jj_H} {m : Nat} {s : St} (R : Rr h m s) : RrG h m s := R.2.2.2
theorem Rr.mk {h : jj_H} {m : Nat} {s : St} (a : RrT h m s) (b : RrG h m s) : Rr h m s := ⟨a.1, a.2.1, a.2.2, b⟩
section JAG
variable {h h' : jj_H} {m : Nat}
theorem gC.ag {x} (R : gC h m x) (e1 : jI h' 513 m 0 = jI h 513 m 0) (e2 : jL h' 514 m 0 = jL h 514 m 0) (e3 : ∀ a i, m + 13 ≤ a → a ≤ m + 15 → jI h' 1000 a i = jI h 1000 a i ∧ jL h' 1000 a i = jL h 1000 a i) : gC h' m x :=
  ⟨e1.trans R.1, e2.trans R.2.1, fun c hc => ⟨((e3 _ c (by omega) (by omega)).1).trans (R.2.2 c hc).1, ((e3 _ c (by omega) (by omega)).1).trans (R.2.2 c hc).2.1, ((e3 _ c (by omega) (by omega)).2).trans (R.2.2 c hc).2.2⟩⟩
theorem gH.ag {x} (R : gH h m x) (e1 : jI h' 519 m 0 = jI h 519 m 0) (e3 : ∀ i, jI h' 1000 (m + 16) i = jI h 1000 (m + 16) i) : gH h' m x := ⟨fun b hb => (e3 b).trans (R.1 b hb), e1.trans R.2⟩
theorem gM.ag {x} (R : gM h m x) (e1 : ∀ tg, 520 ≤ tg → tg ≤ 523 → jI h' tg m 0 = jI h tg m 0) (e3 : ∀ a i, m + 17 ≤ a → a ≤ m + 19 → jI h' 1000 a i = jI h 1000 a i) : gM h' m x :=
  ⟨(e1 _ (by decide) (by decide)).trans R.1, fun q => ⟨(e1 _ (by decide) (by decide)).trans (R.2.1 q).1, (e1 _ (by decide) (by decide)).trans (R.2.1 q).2⟩, (e1 _ (by decide) (by decide)).trans R.2.2.1, fun i c hc => ⟨(e3 _ i (by omega) (by omega)).trans (R.2.2.2 i c hc).1, (e3 _ i (by omega) (by omega)).trans (R.2.2.2 i c hc).2.1, (e3 _ i (by omega) (by omega)).trans (R.2.2.2 i c hc).2.2⟩⟩
theorem gD.ag {x} (R : gD h m x) (e1 : jI h' 527 m 0 = jI h 527 m 0) (e3 : ∀ a i, m + 20 ≤ a → a ≤ m + 21 → jI h' 1000 a i = jI h 1000 a i) : gD h' m x := ⟨e1.trans R.1, fun i c hc => ⟨(e3 _ i (by omega) (by omega)).trans (R.2 i c hc).1, (e3 _ i (by omega) (by omega)).trans (R.2 i c hc).2⟩⟩
theorem gO.ag {x} (R : gO h m x) (e1 : jL h' 530 m 0 = jL h 530 m 0) (e3 : ∀ i, jI h' 1000 (m + 22) i = jI h 1000 (m + 22) i) : gO h' m x := ⟨e1.trans R.1, fun b hb => (e3 b).trans (R.2 b hb)⟩
theorem gC.wI {x} {tg a i : Nat} {v : Int32} (R : gC h m x) (hc : ¬ (a = m ∧ tg = 513) ∧ ¬ (tg = 1000 ∧ m + 13 ≤ a ∧ a ≤ m + 15)) : gC (wI h tg a i v) m x := R.ag (by rw [jI_wI, if_neg (by omega)]) rfl (fun a i p1 p2 => ⟨by rw [jI_wI, if_neg (by omega)], rfl⟩)
theorem gH.wI {x} {tg a i : Nat} {v : Int32} (R : gH h m x) (hc : ¬ (a = m ∧ tg = 519) ∧ ¬ (tg = 1000 ∧ a = m + 16)) : gH (wI h tg a i v) m x := R.ag (by rw [jI_wI, if_neg (by omega)]) (fun i => by rw [jI_wI, if_neg (by omega)])
theorem gM.wI {x} {tg a i : Nat} {v : Int32} (R : gM h m x) (hc : ¬ (a = m ∧ 520 ≤ tg ∧ tg ≤ 523) ∧ ¬ (tg = 1000 ∧ m + 17 ≤ a ∧ a ≤ m + 19)) : gM (wI h tg a i v) m x := R.ag (fun tg' _ _ => by rw [jI_wI, if_neg (by omega)]) (fun a i p1 p2 => by rw [jI_wI, if_neg (by omega)])
theorem gD.wI {x} {tg a i : Nat} {v : Int32} (R : gD h m x) (hc : ¬ (a = m ∧ tg = 527) ∧ ¬ (tg = 1000 ∧ m + 20 ≤ a ∧ a ≤ m + 21)) : gD (wI h tg a i v) m x := R.ag (by rw [jI_wI, if_neg (by omega)]) (fun a i p1 p2 => by rw [jI_wI, if_neg (by omega)])
theorem gO.wI {x} {tg a i : Nat} {v : Int32} (R : gO h m x) (hc : ¬ (tg = 1000 ∧ a = m + 22)) : gO (wI h tg a i v) m x := R.ag rfl (fun i => by rw [jI_wI, if_neg (by omega)])
theorem gC.wL {x} {tg a i : Nat} {v : Int64} (R : gC h m x) (hc : ¬ (a = m ∧ tg = 514) ∧ ¬ (tg = 1000 ∧ a = m + 15)) : gC (wL h tg a i v) m x := ⟨R.1, by rw [jL_wL, if_neg (by omega)]; exact R.2.1, fun c hc' => ⟨(R.2.2 c hc').1, (R.2.2 c hc').2.1, by rw [jL_wL, if_neg (by omega)]; exact (R.2.2 c hc').2.2⟩⟩
theorem gH.wL {x} {tg a i : Nat} {v : Int64} (R : gH h m x) : gH (wL h tg a i v) m x := R
theorem gM.wL {x} {tg a i : Nat} {v : Int64} (R : gM h m x) : gM (wL h tg a i v) m x := R
theorem gD.wL {x} {tg a i : Nat} {v : Int64} (R : gD h m x) : gD (wL h tg a i v) m x := R
theorem gO.wL {x} {tg a i : Nat} {v : Int64} (R : gO h m x) (hc : ¬ (a = m ∧ tg = 530)) : gO (wL h tg a i v) m x := ⟨by rw [jL_wL, if_neg (by omega)]; exact R.1, R.2⟩
end JAG
theorem RrG.ag {h h' : jj_H} {m : Nat} {s : St} (R : RrG h m s) (e1 : ∀ tg, 500 < tg → tg < 1000 → jI h' tg m 0 = jI h tg m 0) (e2 : ∀ a i, m + 13 ≤ a → a ≤ m + 22 → jI h' 1000 a i = jI h 1000 a i) (e3 : ∀ tg, tg < 1000 → jL h' tg m 0 = jL h tg m 0) (e4 : ∀ a i, m + 13 ≤ a → a ≤ m + 22 → jL h' 1000 a i = jL h 1000 a i) : RrG h' m s :=
  ⟨R.1.ag (e1 _ (by decide) (by decide)) (e3 _ (by decide)) (fun a i p1 p2 => ⟨e2 _ _ p1 (by omega), e4 _ _ p1 (by omega)⟩), R.2.1.ag (e1 _ (by decide) (by decide)) (fun i => e2 _ _ (by omega) (by omega)), R.2.2.1.ag (fun tg p1 p2 => e1 _ (by omega) (by omega)) (fun a i p1 p2 => e2 _ _ (by omega) (by omega)), R.2.2.2.1.ag (e1 _ (by decide) (by decide)) (fun a i p1 p2 => e2 _ _ (by omega) (by omega)), R.2.2.2.2.ag (e3 _ (by decide)) (fun i => e2 _ _ (by omega) (by omega))⟩
theorem RrG.fr {h h' : jj_H} {m : Nat} {s : St} (R : RrG h m s) (e1 : ∀ tg a i, (a < m + 1 ∨ m + 12 < a) → a ≠ m + 23 → jI h' tg a i = jI h tg a i) (e2 : ∀ tg a i, a ≠ m + 10 → jL h' tg a i = jL h tg a i) : RrG h' m s := R.ag (fun tg _ _ => e1 _ _ _ (by omega) (by omega)) (fun a i _ _ => e1 _ _ _ (by omega) (by omega)) (fun tg _ => e2 _ _ _ (by omega)) (fun a i _ _ => e2 _ _ _ (by omega))
theorem Rr.K {h : jj_H} {m : Nat} {s : St} (R : Rr h m s) : jK h m = 11 := rM_k R.1
theorem r_start {h : jj_H} {m : Nat} {s : St} {P : jj_H → Prop} (R : Rr h m s) (K : ∀ h1, Rr h1 m s → rfr h h1 m → P h1) : jK h m = 11 ∧ ∀ h1, h1 = wI h 500 m 0 0 → P h1 :=
  ⟨R.K, fun h1 e => e ▸ K _ (Rr.mk (R.t.wI (Or.inl rfl)) (R.g.ag (fun tg p1 p2 => by rw [jI_wI, if_neg (by omega)]) (fun a i p1 p2 => by rw [jI_wI, if_neg (by omega)]) (fun _ _ => rfl) (fun _ _ _ _ => rfl))) (rfr.wI (by omega) (by omega))⟩
theorem St.wk3_made (s : St) (ls : Nat → List Row) : (s.wk3 ls).made = s.made := rfl
/-- the work's tables were written -/
theorem Rr.fsm {h h' : jj_H} {m : Nat} {s : St} {ls : Nat → List Row} (R : Rr h m s) (hm : s.made ≤ 60) (F : rFs h h' m 60) (T : rT3 h' m 60 ls) : Rr h' m (s.wk3 ls) := by
  refine Rr.mk ⟨R.1.of (by rw [F.1]), fun p hp t ht => ?_, fun p t hp ht => ?_⟩ ?_
  · by_cases h6 : p = 60
    · subst h6
      have := T t ht
      simpa [St.wk3, St.T, St.set1] using this
    · have := F.2.2 p t _ h6 ht (R.2.1 p hp t ht)
      simpa [St.wk3, St.T, St.set1, h6] using this
  · have h6 : p ≠ 60 := by have : p < s.made := hp; omega
    have := (R.2.2.1 p t hp ht).ag (h' := h') (fun a i p1 p2 => F.2.1 _ _ _ (by omega) (by omega) (by omega)) (fun i => by unfold jL; rw [F.1])
    simpa [St.wk3, St.T, St.set1, h6] using this
  · exact (R.g.fr (fun tg a i p q => F.2.1 _ _ _ (by omega) (by omega) (by omega)) (fun tg a i _ => by unfold jL; rw [F.1]))
theorem Rr.fs {h h' : jj_H} {m : Nat} {s : St} {ls : Nat → List Row} (R : Rr h m s) (hw : s.wf) (F : rFs h h' m 60) (T : rT3 h' m 60 ls) : Rr h' m (s.wk3 ls) := R.fsm hw.1.2 F T
theorem St.wk_wk3 (s : St) (t : Nat) (l : List Row) : s.wk t l = s.wk3 (fun u => if u = t then l else s.T 60 u) := by
  unfold St.wk St.wk3
  congr 1
  funext p u
  by_cases h1 : p = 60
  · subst h1
    by_cases h2 : u = t <;> simp [h2]
  · simp [h1]
theorem Rr.fr1 {h h' : jj_H} {m t : Nat} {s : St} {l : List Row} (R : Rr h m s) (hw : s.wf) (ht : t < 3) (F : rFr h h' m 60 t) (T : rTb h' m 60 t l) : Rr h' m (s.wk t l) := by
  rw [St.wk_wk3]
  refine R.fs hw (F.s ht) fun u hu => ?_
  by_cases e : u = t
  · subst e
    simpa using T
  · simpa [e] using (R.2.1 60 (Or.inr rfl) u hu).other F ht hu (by omega)
theorem Rr.fw {h h' : jj_H} {m : Nat} {s : St} (R : Rr h m s) (hw : s.wf) (F : rFw h h' m) : Rr h' m s := by
  have hm := hw.1.2
  refine Rr.mk ⟨R.1.of F.1, fun p hp t ht => F.tb (R.2.1 p hp t ht), fun p t hp ht => F.2.2.1 _ _ (by omega) (by have := (tree_len _ (R.2.1 p (Or.inl hp) t ht).2.1).1; omega) (R.2.2.1 p t hp ht)⟩ ?_
  exact R.g.fr (fun tg a i p q => F.2.1 _ _ _ (by omega)) (fun tg a i p => F.2.2.2 _ _ _ p)
theorem Rr.df {h h' : jj_H} {m : Nat} {s : St} (R : Rr h m s) (hw : s.wf) (F : dFr h h' m) : Rr h' m s := by
  have hm := hw.1.2
  refine Rr.mk ⟨R.1.of F.1, fun p hp t ht => (R.2.1 p hp t ht).ag fun a i _ _ => F.2.1 _ _ _ (by omega) (by omega), fun p t hp ht => F.2.2.1 _ _ (by omega) (by have := (tree_len _ (R.2.1 p (Or.inl hp) t ht).2.1).1; omega) (R.2.2.1 p t hp ht)⟩ ?_
  exact R.g.fr (fun tg a i p q => F.2.1 _ _ _ (by omega) q) (fun tg a i p => F.2.2.2 _ _ _ p)
/-- a head is set -/
theorem Rr.head {h : jj_H} {m b : Nat} {v : Int32} {s : St} (R : Rr h m s) : Rr (wI h 1000 (m + 16) b v) m (s.sh b v) := by
  refine Rr.mk (R.t.wI (s := s) (by omega)) ⟨R.g.1.wI (by omega), ⟨fun x hx => ?_, ?_⟩, R.g.2.2.1.wI (by omega), R.g.2.2.2.1.wI (by omega), R.g.2.2.2.2.wI (by omega)⟩
  · rw [jI_wI]
    show _ = if x = b then v else s.hd x
    by_cases e : x = b
    · simp [e]
    · simp [e]; exact R.g.2.1.1 x hx
  · rw [jI_wI, if_neg (by omega)]; exact R.g.2.1.2
theorem Rr.hnd {h : jj_H} {m b : Nat} {s : St} (R : Rr h m s) : Rr (wI h 519 m 0 (nI b)) m (s.set3 (s.hd, b)) :=
  Rr.mk (R.t.wI (s := s) (by omega)) ⟨R.g.1.wI (by omega), ⟨fun x hx => by rw [jI_wI, if_neg (by omega)]; exact R.g.2.1.1 x hx, by rw [jI_wI, if_pos ⟨rfl, rfl, rfl⟩]; rfl⟩, R.g.2.2.1.wI (by omega), R.g.2.2.2.1.wI (by omega), R.g.2.2.2.2.wI (by omega)⟩
