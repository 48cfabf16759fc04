/-! rows, and tables as lists of rows -/
abbrev Row : Type := Int32 × Int32 × Int32 × Int32
/-- how many keys at the beginning are less -/
def rk : List Row → Int32 → Nat
  | [], _ => 0
  | r :: l, k => if r.1 < k then rk l k + 1 else 0
theorem rk_le (l : List Row) (k : Int32) : rk l k ≤ l.length := by
  induction l with
  | nil => simp [rk]
  | cons r l ih => simp only [rk]; split <;> simp <;> omega
theorem rk_lt (l : List Row) (k : Int32) : ∀ (j : Nat) (r : Row), j < rk l k → l[j]? = some r → r.1 < k := by
  induction l with
  | nil => intro j r h; simp [rk] at h
  | cons a l ih =>
    intro j r h e
    simp only [rk] at h
    split at h
    · cases j with
      | zero => simp at e; subst e; assumption
      | succ j => exact ih j r (by omega) (by simpa using e)
    · omega
theorem rk_at (l : List Row) (k : Int32) : ∀ r : Row, l[rk l k]? = some r → ¬ r.1 < k := by
  induction l with
  | nil => intro r h; simp [rk] at h
  | cons a l ih =>
    intro r h
    by_cases c : a.1 < k
    · simp only [rk, if_pos c] at h
      exact ih r (by simpa using h)
    · simp only [rk, if_neg c] at h
      simp at h
      subst h
      exact c
theorem rk_uniq {l : List Row} {k : Int32} {p : Nat} (h1 : p ≤ l.length) (h2 : ∀ (j : Nat) (r : Row), j < p → l[j]? = some r → r.1 < k) (h3 : ∀ r : Row, l[p]? = some r → ¬ r.1 < k) : p = rk l k := by
  have q1 := rk_le l k
  rcases Nat.lt_trichotomy p (rk l k) with h | h | h
  · have e : l[p]? = some l[p] := List.getElem?_eq_getElem (by omega)
    exact absurd (rk_lt l k p _ h e) (h3 _ e)
  · exact h
  · have e : l[rk l k]? = some l[rk l k] := List.getElem?_eq_getElem (by omega)
    exact absurd (h2 _ _ h e) (rk_at l k _ e)
/-- the row of a key -/
def lk (l : List Row) (k : Int32) : Option Row := match l[rk l k]? with
  | some r => if r.1 = k then some r else none
  | none => none
theorem lk_some {l : List Row} {k : Int32} {r : Row} (h : lk l k = some r) : l[rk l k]? = some r ∧ r.1 = k := by
  unfold lk at h
  split at h
  · next r' e =>
    split at h
    · next c => cases h; exact ⟨e, c⟩
    · cases h
  · cases h
theorem lk_none {l : List Row} {k : Int32} (h : lk l k = none) : ∀ r, l[rk l k]? = some r → r.1 ≠ k := by
  intro r e
  unfold lk at h
  rw [e] at h
  simp only at h
  split at h
  · cases h
  · assumption
theorem lk_of {l : List Row} {k : Int32} {r : Row} (h : l[rk l k]? = some r) (hk : r.1 = k) : lk l k = some r := by
  unfold lk
  rw [h]
  simp [hk]
theorem lk_no {l : List Row} {k : Int32} (h : ∀ r, l[rk l k]? = some r → r.1 ≠ k) : lk l k = none := by
  cases e : lk l k with
  | none => rfl
  | some r => exact absurd (lk_some e).2 (h r (lk_some e).1)
/-- a row put, a row taken away -/
def insT (l : List Row) (r : Row) : List Row := if (lk l r.1).isSome then l.set (rk l r.1) r else l.take (rk l r.1) ++ r :: l.drop (rk l r.1)
def delT (l : List Row) (k : Int32) : List Row := if (lk l k).isSome then l.eraseIdx (rk l k) else l
def Srt (l : List Row) : Prop := ∀ (i j : Nat) (a b : Row), i < j → l[i]? = some a → l[j]? = some b → a.1 < b.1
/-! the reference's rows -/
def rw4 (h : jj_H) (m g : Nat) : Row := (jI h 1000 (m + 1) g, jI h 1000 (m + 2) (3 * g), jI h 1000 (m + 2) (3 * g + 1), jI h 1000 (m + 2) (3 * g + 2))
def wRow (h : jj_H) (m g : Nat) (r : Row) : jj_H := wI (wI (wI (wI h 1000 (m + 1) g r.1) 1000 (m + 2) (3 * g) r.2.1) 1000 (m + 2) (3 * g + 1) r.2.2.1) 1000 (m + 2) (3 * g + 2) r.2.2.2
theorem rw4_wRow (h : jj_H) (m g : Nat) (r : Row) (g' : Nat) : rw4 (wRow h m g r) m g' = if g' = g then r else rw4 h m g' := by
  unfold rw4 wRow
  simp only [jI_wI]
  by_cases e : g' = g
  · subst e
    simp
  · have e1 : ¬ 3 * g' = 3 * g := by omega
    have e2 : ¬ 3 * g' + 1 = 3 * g + 1 := by omega
    have e3 : ¬ 3 * g' + 2 = 3 * g + 2 := by omega
    have e4 : ¬ 3 * g' = 3 * g + 1 := by omega
    have e5 : ¬ 3 * g' = 3 * g + 2 := by omega
    have e6 : ¬ 3 * g' + 1 = 3 * g := by omega
    have e7 : ¬ 3 * g' + 1 = 3 * g + 2 := by omega
    have e8 : ¬ 3 * g' + 2 = 3 * g := by omega
    have e9 : ¬ 3 * g' + 2 = 3 * g + 1 := by omega
    simp [e, e1, e2, e3, e4, e5, e6, e7, e8, e9]
theorem jI_wRow (h : jj_H) (m g : Nat) (r : Row) {t a i : Nat} (ha : a ≠ m + 1 ∧ a ≠ m + 2) : jI (wRow h m g r) t a i = jI h t a i := by
  unfold wRow
  simp only [jI_wI, ha.1, ha.2, false_and, and_false, if_false]
/-- table t of the reference's place s holds these rows -/
def rTb (h : jj_H) (m s t : Nat) (l : List Row) : Prop := jI h 1000 (m + 3) (3 * s + t) = nI l.length ∧ l.length ≤ 200 ∧ ∀ (j : Nat) (r : Row), l[j]? = some r → rw4 h m (600 * s + 200 * t + j) = r
/-- only rows and size of one table have changed -/
def rFr (h h' : jj_H) (m s t : Nat) : Prop := h'.2 = h.2 ∧ (∀ tg a i, a ≠ m + 1 → a ≠ m + 2 → a ≠ m + 3 → jI h' tg a i = jI h tg a i) ∧ (∀ g, (g < 600 * s + 200 * t ∨ 600 * s + 200 * t + 200 ≤ g) → rw4 h' m g = rw4 h m g) ∧ (∀ k, k ≠ 3 * s + t → jI h' 1000 (m + 3) k = jI h 1000 (m + 3) k)
theorem rFr.rf {h : jj_H} {m s t : Nat} : rFr h h m s t := ⟨rfl, fun _ _ _ _ _ _ => rfl, fun _ _ => rfl, fun _ _ => rfl⟩
theorem rFr.trans {h h1 h2 : jj_H} {m s t : Nat} (a : rFr h h1 m s t) (b : rFr h1 h2 m s t) : rFr h h2 m s t := ⟨b.1.trans a.1, fun tg x i p1 p2 p3 => (b.2.1 tg x i p1 p2 p3).trans (a.2.1 tg x i p1 p2 p3), fun g hg => (b.2.2.1 g hg).trans (a.2.2.1 g hg), fun k hk => (b.2.2.2 k hk).trans (a.2.2.2 k hk)⟩
theorem rFr.row {h : jj_H} {m s t g : Nat} {r : Row} (h1 : 600 * s + 200 * t ≤ g) (h2 : g < 600 * s + 200 * t + 200) : rFr h (wRow h m g r) m s t := ⟨rfl, fun tg x i p1 p2 p3 => jI_wRow h m g r ⟨p1, p2⟩, fun g' hg => by rw [rw4_wRow, if_neg (by omega)], fun k _ => jI_wRow h m g r ⟨by omega, by omega⟩⟩
theorem rw4_wSz (h : jj_H) (m k g : Nat) (v : Int32) : rw4 (wI h 1000 (m + 3) k v) m g = rw4 h m g := by
  unfold rw4
  simp only [jI_wI]
  simp
theorem rFr.size {h : jj_H} {m s t : Nat} {v : Int32} : rFr h (wI h 1000 (m + 3) (3 * s + t) v) m s t := ⟨rfl, fun tg x i p1 p2 p3 => by rw [jI_wI, if_neg (by omega)], fun g _ => rw4_wSz _ _ _ _ _, fun k hk => by rw [jI_wI, if_neg (by omega)]⟩
theorem rTb.other {h h' : jj_H} {m s t s' t' : Nat} {l : List Row} (T : rTb h m s' t' l) (F : rFr h h' m s t) (ht : t < 3) (ht' : t' < 3) (hne : ¬ (s' = s ∧ t' = t)) : rTb h' m s' t' l := by
  obtain ⟨a, b, c⟩ := T
  refine ⟨by rw [F.2.2.2 _ (by omega)]; exact a, b, fun j r hj => ?_⟩
  have hl : j < l.length := (List.getElem?_eq_some_iff.mp hj).1
  rw [F.2.2.1 _ (by omega)]
  exact c j r hj
theorem rTb.uniq {h : jj_H} {m s t : Nat} {l l' : List Row} (a : rTb h m s t l) (b : rTb h m s t l') : l = l' := by
  have e : l.length = l'.length := (nI_eq (by have := a.2.1; omega) (by have := b.2.1; omega)).mp (a.1.symm.trans b.1)
  apply List.ext_getElem?
  intro j
  by_cases hj : j < l.length
  · have e1 : l[j]? = some l[j] := List.getElem?_eq_getElem hj
    have e2 : l'[j]? = some l'[j] := List.getElem?_eq_getElem (by omega)
    rw [e1, e2, ← a.2.2 j _ e1, ← b.2.2 j _ e2]
  · rw [List.getElem?_eq_none (by omega), List.getElem?_eq_none (by omega)]
