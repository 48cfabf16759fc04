/-! rows in order -/
theorem i32_irr (a : Int32) : ¬ a < a := fun h => Int32.lt_irrefl h
theorem Srt.tail {a : Row} {l : List Row} (h : Srt (a :: l)) : Srt l := fun i j x y hij hi hj => h (i + 1) (j + 1) x y (by omega) (by simpa using hi) (by simpa using hj)
theorem Srt.head {a : Row} {l : List Row} (h : Srt (a :: l)) : ∀ x ∈ l, a.1 < x.1 := fun x hx => by
  obtain ⟨j, hj⟩ := List.getElem?_of_mem hx
  exact h 0 (j + 1) a x (by omega) (by simp) (by simpa using hj)
theorem Srt.cons {a : Row} {l : List Row} (h : Srt l) (h2 : ∀ x ∈ l, a.1 < x.1) : Srt (a :: l) := by
  intro i j x y hij hi hj
  cases j with
  | zero => omega
  | succ j =>
    have hj' : l[j]? = some y := by simpa using hj
    cases i with
    | zero =>
      have e : a = x := by simpa using hi
      rw [← e]
      exact h2 y (List.mem_of_getElem? hj')
    | succ i => exact h i j x y (by omega) (by simpa using hi) hj'
theorem Srt.nil : Srt [] := fun i j x y _ hi => by simp at hi
/-- a list in order, entry by entry -/
theorem rk_cons_lt {a : Row} {l : List Row} {k : Int32} (h : a.1 < k) : rk (a :: l) k = rk l k + 1 := by simp only [rk, if_pos h]
theorem rk_cons_ge {a : Row} {l : List Row} {k : Int32} (h : ¬ a.1 < k) : rk (a :: l) k = 0 := by simp only [rk, if_neg h]
theorem lk_cons_lt {a : Row} {l : List Row} {k : Int32} (h : a.1 < k) : lk (a :: l) k = lk l k := by unfold lk; rw [rk_cons_lt h]; simp
theorem lk_cons_ge {a : Row} {l : List Row} {k : Int32} (h : ¬ a.1 < k) : lk (a :: l) k = if a.1 = k then some a else none := by unfold lk; rw [rk_cons_ge h]; simp
theorem lk_nil {k : Int32} : lk [] k = none := by unfold lk; simp
theorem lk_mem {l : List Row} (h : Srt l) {k : Int32} {r : Row} : lk l k = some r ↔ r ∈ l ∧ r.1 = k := by
  induction l with
  | nil => simp [lk_nil]
  | cons a l ih =>
    by_cases c : a.1 < k
    · rw [lk_cons_lt c, ih h.tail, List.mem_cons]
      constructor
      · rintro ⟨p, q⟩; exact ⟨Or.inr p, q⟩
      · rintro ⟨p | p, q⟩
        · rw [← q, p] at c; exact absurd c (i32_irr _)
        · exact ⟨p, q⟩
    · rw [lk_cons_ge c]
      constructor
      · intro e
        split at e
        · next q => cases e; exact ⟨by simp, q⟩
        · cases e
      · rintro ⟨p, q⟩
        rcases List.mem_cons.mp p with p | p
        · subst p; rw [if_pos q]
        · have := h.head r p
          rw [q] at this
          exact absurd this c
theorem lk_none_mem {l : List Row} (h : Srt l) {k : Int32} : lk l k = none ↔ ∀ r ∈ l, r.1 ≠ k := by
  constructor
  · intro e r hr q
    rw [(lk_mem h).mpr ⟨hr, q⟩] at e
    cases e
  · intro e
    cases q : lk l k with
    | none => rfl
    | some r => exact absurd ((lk_mem h).mp q).2 (e r ((lk_mem h).mp q).1)
theorem insT_cons_lt {a r : Row} {l : List Row} (h : a.1 < r.1) : insT (a :: l) r = a :: insT l r := by
  unfold insT
  rw [lk_cons_lt h, rk_cons_lt h]
  split <;> simp
theorem insT_cons_eq {a r : Row} {l : List Row} (h : a.1 = r.1) : insT (a :: l) r = r :: l := by
  have c : ¬ a.1 < r.1 := by rw [h]; exact i32_irr _
  unfold insT
  rw [lk_cons_ge c, rk_cons_ge c, if_pos h]
  simp
theorem insT_cons_gt {a r : Row} {l : List Row} (h : r.1 < a.1) : insT (a :: l) r = r :: a :: l := by
  have c : ¬ a.1 < r.1 := fun q => i32_irr _ (Int32.lt_trans q h)
  have c2 : ¬ a.1 = r.1 := fun q => by rw [q] at h; exact i32_irr _ h
  unfold insT
  rw [lk_cons_ge c, rk_cons_ge c, if_neg c2]
  simp
theorem insT_nil {r : Row} : insT [] r = [r] := by unfold insT; rw [lk_nil]; simp
theorem i32_tri (a b : Int32) : a < b ∨ a = b ∨ b < a := by
  rcases Int32.le_total a b with h | h
  · by_cases e : a = b
    · exact Or.inr (Or.inl e)
    · exact Or.inl (Int32.lt_of_le_of_ne h e)
  · by_cases e : a = b
    · exact Or.inr (Or.inl e)
    · exact Or.inr (Or.inr (Int32.lt_of_le_of_ne h (fun q => e q.symm)))
theorem mem_insT {l : List Row} (h : Srt l) {r x : Row} : x ∈ insT l r ↔ x = r ∨ (x ∈ l ∧ x.1 ≠ r.1) := by
  induction l with
  | nil => simp [insT_nil]
  | cons a l ih =>
    rcases i32_tri a.1 r.1 with c | c | c
    · rw [insT_cons_lt c, List.mem_cons, ih h.tail, List.mem_cons]
      constructor
      · rintro (p | p | ⟨p, q⟩)
        · exact Or.inr ⟨Or.inl p, fun q => by rw [p] at q; rw [q] at c; exact i32_irr _ c⟩
        · exact Or.inl p
        · exact Or.inr ⟨Or.inr p, q⟩
      · rintro (p | ⟨p | p, q⟩)
        · exact Or.inr (Or.inl p)
        · exact Or.inl p
        · exact Or.inr (Or.inr ⟨p, q⟩)
    · rw [insT_cons_eq c, List.mem_cons, List.mem_cons]
      constructor
      · rintro (p | p)
        · exact Or.inl p
        · refine Or.inr ⟨Or.inr p, fun q => ?_⟩
          have := h.head x p
          rw [q, c] at this
          exact i32_irr _ this
      · rintro (p | ⟨p | p, q⟩)
        · exact Or.inl p
        · rw [p] at q; exact absurd c q
        · exact Or.inr p
    · rw [insT_cons_gt c, List.mem_cons, List.mem_cons]
      constructor
      · rintro (p | p | p)
        · exact Or.inl p
        · exact Or.inr ⟨Or.inl p, fun q => by rw [p] at q; rw [q] at c; exact i32_irr _ c⟩
        · refine Or.inr ⟨Or.inr p, fun q => ?_⟩
          have := Int32.lt_trans c (h.head x p)
          rw [q] at this
          exact i32_irr _ this
      · rintro (p | ⟨p, q⟩)
        · exact Or.inl p
        · exact Or.inr p
theorem Srt.ins {l : List Row} (h : Srt l) (r : Row) : Srt (insT l r) := by
  induction l with
  | nil => rw [insT_nil]; exact Srt.nil.cons (fun x hx => by simp at hx)
  | cons a l ih =>
    rcases i32_tri a.1 r.1 with c | c | c
    · rw [insT_cons_lt c]
      refine (ih h.tail).cons fun x hx => ?_
      rcases (mem_insT h.tail).mp hx with p | ⟨p, _⟩
      · rw [p]; exact c
      · exact h.head x p
    · rw [insT_cons_eq c]
      exact h.tail.cons fun x hx => by rw [← c]; exact h.head x hx
    · rw [insT_cons_gt c]
      refine h.cons fun x hx => ?_
      rcases List.mem_cons.mp hx with p | p
      · rw [p]; exact c
      · exact Int32.lt_trans c (h.head x p)
theorem len_ins (l : List Row) (r : Row) : (insT l r).length = l.length + (if (lk l r.1).isSome then 0 else 1) := by
  cases e : lk l r.1 with
  | none => rw [length_insT l r e]; simp
  | some r0 => rw [insT_set l r e]; simp
theorem delT_cons_lt {a : Row} {l : List Row} {k : Int32} (h : a.1 < k) : delT (a :: l) k = a :: delT l k := by
  unfold delT
  rw [lk_cons_lt h, rk_cons_lt h]
  split <;> simp
theorem delT_cons_ge {a : Row} {l : List Row} {k : Int32} (h : ¬ a.1 < k) : delT (a :: l) k = if a.1 = k then l else a :: l := by
  unfold delT
  rw [lk_cons_ge h, rk_cons_ge h]
  by_cases e : a.1 = k <;> simp [e]
theorem delT_sub {l : List Row} {k : Int32} {x : Row} (hx : x ∈ delT l k) : x ∈ l := by
  unfold delT at hx
  split at hx
  · exact List.mem_of_mem_eraseIdx hx
  · exact hx
theorem Srt.del {l : List Row} (h : Srt l) (k : Int32) : Srt (delT l k) := by
  induction l with
  | nil => unfold delT; rw [lk_nil]; exact h
  | cons a l ih =>
    by_cases c : a.1 < k
    · rw [delT_cons_lt c]
      exact (ih h.tail).cons fun x hx => h.head x (delT_sub hx)
    · rw [delT_cons_ge c]
      split
      · exact h.tail
      · exact h
theorem len_del (l : List Row) (k : Int32) : (delT l k).length ≤ l.length := by
  cases e : lk l k with
  | none => unfold delT; rw [e]; exact Nat.le_refl _
  | some r => have := length_delT l k e; omega
/-- one column of a row -/
def updC (r : Row) (c : Nat) (v : Int32) : Row := match c with
  | 0 => (r.1, v, r.2.2.1, r.2.2.2)
  | 1 => (r.1, r.2.1, v, r.2.2.2)
  | _ => (r.1, r.2.1, r.2.2.1, v)
theorem updC_1 (r : Row) (c : Nat) (v : Int32) : (updC r c v).1 = r.1 := by
  unfold updC
  split <;> rfl
def colT (l : List Row) (k : Int32) (c : Nat) (v : Int32) : List Row := match lk l k with
  | some r => insT l (updC r c v)
  | none => l
/-! fill -/
def lcg (w : Int32) : Int32 := w * 1664525 + 1013904223
def fky (f st : Int32) (k : Nat) : Int32 := f + nI k * st
def nov (g : Nat → Int32) (x : Int32) : Nat → Bool
  | 0 => true
  | i + 1 => nov g x i && decide (g i ≠ x)
theorem nov_iff {g : Nat → Int32} {x : Int32} : ∀ {n : Nat}, nov g x n = true ↔ ∀ i, i < n → g i ≠ x := by
  intro n
  induction n with
  | zero => simp [nov]
  | succ n ih =>
    simp only [nov, Bool.and_eq_true, ih, decide_eq_true_eq]
    constructor
    · rintro ⟨a, b⟩ i hi
      by_cases e : i = n
      · rw [e]; exact b
      · exact a i (by omega)
    · intro a
      exact ⟨fun i hi => a i (by omega), a n (by omega)⟩
/-- how many new keys the first k bring -/
def mor (l : List Row) (f st : Int32) : Nat → Nat
  | 0 => 0
  | k + 1 => mor l f st k + (if (lk l (fky f st k)).isNone && nov (fky f st) (fky f st k) k then 1 else 0)
def fls (f st : Int32) : Nat → Nat → Int32 → List Row → List Row
  | 0, _, _, l => l
  | r + 1, k, w, l => fls f st r (k + 1) (lcg (lcg (lcg w))) (insT l (fky f st k, lcg w, lcg (lcg w), lcg (lcg (lcg w))))
theorem mor_le (l : List Row) (f st : Int32) : ∀ k, mor l f st k ≤ k := by
  intro k
  induction k with
  | zero => exact Nat.le_refl _
  | succ k ih => simp only [mor]; split <;> omega
theorem mor_mono (l : List Row) (f st : Int32) : ∀ {k k' : Nat}, k ≤ k' → mor l f st k ≤ mor l f st k' := by
  intro k k' h
  induction k' with
  | zero => rw [show k = 0 by omega]; exact Nat.le_refl _
  | succ k' ih =>
    by_cases e : k = k' + 1
    · rw [e]; exact Nat.le_refl _
    · have := ih (by omega)
      simp only [mor]
      omega
/-- what l has become behind k steps: in order, its keys, its length -/
def fSt (l : List Row) (f st : Int32) (k : Nat) (l' : List Row) : Prop := Srt l' ∧ (∀ x, (∃ r ∈ l', r.1 = x) ↔ ((∃ r ∈ l, r.1 = x) ∨ ∃ i, i < k ∧ fky f st i = x)) ∧ l'.length = l.length + mor l f st k
theorem fSt.zero {l : List Row} {f st : Int32} (h : Srt l) : fSt l f st 0 l := ⟨h, fun x => by simp, by simp [mor]⟩
theorem fSt.new {l l' : List Row} {f st : Int32} {k : Nat} (h0 : Srt l) (h : fSt l f st k l') : (lk l' (fky f st k)).isSome = !((lk l (fky f st k)).isNone && nov (fky f st) (fky f st k) k) := by
  have key := h.2.1 (fky f st k)
  cases e : lk l' (fky f st k) with
  | none =>
    have no := (lk_none_mem h.1).mp e
    have e2 : lk l (fky f st k) = none := (lk_none_mem h0).mpr fun r hr q => by
      obtain ⟨r', p1, p2⟩ := key.mpr (Or.inl ⟨r, hr, q⟩)
      exact no r' p1 p2
    have e3 : nov (fky f st) (fky f st k) k = true := nov_iff.mpr fun i hi q => by
      obtain ⟨r', p1, p2⟩ := key.mpr (Or.inr ⟨i, hi, q⟩)
      exact no r' p1 p2
    rw [e2, e3]
    rfl
  | some r' =>
    obtain ⟨p1, p2⟩ := (lk_mem h.1).mp e
    rcases key.mp ⟨r', p1, p2⟩ with ⟨r, q1, q2⟩ | ⟨i, q1, q2⟩
    · rw [(lk_mem h0).mpr ⟨q1, q2⟩]
      rfl
    · have e3 : nov (fky f st) (fky f st k) k = false := by
        cases e4 : nov (fky f st) (fky f st k) k with
        | false => rfl
        | true => exact absurd q2 (nov_iff.mp e4 i q1)
      rw [e3, Bool.and_false]
      rfl
theorem fSt.next {l l' : List Row} {f st : Int32} {k : Nat} (h0 : Srt l) (h : fSt l f st k l') (a b c : Int32) : fSt l f st (k + 1) (insT l' (fky f st k, a, b, c)) := by
  have hn := h.new h0
  refine ⟨h.1.ins _, fun x => ?_, ?_⟩
  · constructor
    · rintro ⟨r, p1, p2⟩
      rcases (mem_insT h.1).mp p1 with q | ⟨q, _⟩
      · rw [q] at p2; exact Or.inr ⟨k, by omega, p2⟩
      · rcases (h.2.1 x).mp ⟨r, q, p2⟩ with z | ⟨i, z1, z2⟩
        · exact Or.inl z
        · exact Or.inr ⟨i, by omega, z2⟩
    · intro z
      by_cases e : x = fky f st k
      · exact ⟨_, (mem_insT h.1).mpr (Or.inl rfl), e.symm⟩
      · have : (∃ r ∈ l, r.1 = x) ∨ ∃ i, i < k ∧ fky f st i = x := by
          rcases z with z | ⟨i, z1, z2⟩
          · exact Or.inl z
          · refine Or.inr ⟨i, ?_, z2⟩
            by_cases e2 : i = k
            · rw [e2] at z2; exact absurd z2.symm e
            · omega
        obtain ⟨r, q1, q2⟩ := (h.2.1 x).mpr this
        exact ⟨r, (mem_insT h.1).mpr (Or.inr ⟨q1, by rw [q2]; exact e⟩), q2⟩
  · rw [len_ins, h.2.2]
    simp only [mor]
    rw [hn]
    cases ((lk l (fky f st k)).isNone && nov (fky f st) (fky f st k) k) <;> simp <;> omega
