/-! what the cut of a level is like -/
theorem segs_ok (es : List Row) : ∀ (k f i : Nat), f ≤ i → i + k = es.length → ∀ (j : Nat) (q : Nat × Nat), (segs es k f i)[j]? = some q → (j = 0 → q.1 = f) ∧ 1 ≤ q.2 ∧ q.1 + q.2 ≤ es.length ∧ (∀ q', (segs es k f i)[j + 1]? = some q' → q'.1 = q.1 + q.2) := by
  intro k
  induction k with
  | zero => intro f i h1 h2 j q h; simp [segs] at h
  | succ k ih =>
    intro f i h1 h2 j q h
    unfold segs at h ⊢
    by_cases he : ends es f i = true
    · rw [if_pos he] at h ⊢
      cases j with
      | zero =>
        simp at h
        subst h
        refine ⟨fun _ => rfl, by show 1 ≤ i + 1 - f; omega, by show f + (i + 1 - f) ≤ _; omega, fun q' h' => ?_⟩
        simp only [List.getElem?_cons_succ] at h'
        have := (ih (i + 1) (i + 1) (Nat.le_refl _) (by omega) 0 q' h').1 rfl
        rw [this]
        show i + 1 = f + (i + 1 - f)
        omega
      | succ j =>
        simp only [List.getElem?_cons_succ] at h ⊢
        obtain ⟨_, b, c, e⟩ := ih (i + 1) (i + 1) (Nat.le_refl _) (by omega) j q h
        exact ⟨fun hj => by omega, b, c, e⟩
    · rw [if_neg he] at h ⊢
      exact ih f (i + 1) (by omega) (by omega) j q h
/-- the entries of a level: which rows are below them -/
def fbC (fb : Nat → Nat × Nat) (n N : Nat) : Prop := (∀ j, j < n → 1 ≤ (fb j).2 ∧ (fb j).1 + (fb j).2 ≤ N) ∧ ∀ j, j + 1 < n → (fb (j + 1)).1 = (fb j).1 + (fb j).2
theorem sumB_C {fb : Nat → Nat × Nat} {n N f : Nat} (h : fbC fb n N) : ∀ k, f + k < n → (fb f).1 + sumB fb f (k + 1) = (fb (f + k)).1 + (fb (f + k)).2 ∧ k + 1 ≤ sumB fb f (k + 1) := by
  intro k
  induction k with
  | zero => intro hk; simp [sumB]; exact (h.1 f (by omega)).1
  | succ k ih =>
    intro hk
    have h1 := ih (by omega)
    have h2 := h.2 (f + k) (by omega)
    have h3 := (h.1 (f + (k + 1)) (by omega)).1
    rw [show f + k + 1 = f + (k + 1) by omega] at h2
    simp only [sumB] at h1 ⊢
    omega
theorem levN_at {lv : Nat} {es : List Row} {fb : Nat → Nat × Nat} (h0 : es.length ≠ 0) {j : Nat} {nd : Nd} (h : (levN lv es fb)[j]? = some nd) : ∃ q, (segs es es.length 0 0)[j]? = some q ∧ nd = mkN lv es fb q := by
  unfold levN at h
  rw [if_neg h0, List.getElem?_map] at h
  cases e : (segs es es.length 0 0)[j]? with
  | none => rw [e] at h; cases h
  | some q => rw [e] at h; cases h; exact ⟨q, rfl, rfl⟩
theorem fbN_at {ns : List Nd} {j : Nat} {nd : Nd} (h : ns[j]? = some nd) : fbN ns j = (nd.2.2.1, nd.2.2.2.1) := by
  unfold fbN
  rw [List.getD_eq_getElem?_getD, h]
  rfl
theorem fbC_next {lv : Nat} {es : List Row} {fb : Nat → Nat × Nat} {N : Nat} (h : fbC fb es.length N) (h0 : es.length ≠ 0) : fbC (fbN (levN lv es fb)) (levN lv es fb).length N := by
  have key : ∀ j nd, (levN lv es fb)[j]? = some nd → 1 ≤ nd.2.2.2.1 ∧ nd.2.2.1 + nd.2.2.2.1 ≤ N ∧ ∀ nd', (levN lv es fb)[j + 1]? = some nd' → nd'.2.2.1 = nd.2.2.1 + nd.2.2.2.1 := by
    intro j nd hj
    obtain ⟨q, e1, rfl⟩ := levN_at h0 hj
    obtain ⟨_, b, c, d⟩ := segs_ok es es.length 0 0 (Nat.le_refl _) (by omega) j q e1
    obtain ⟨k, hk⟩ : ∃ k, q.2 = k + 1 := ⟨q.2 - 1, by omega⟩
    have hs := sumB_C h (f := q.1) k (by omega)
    have hl := (h.1 (q.1 + k) (by omega)).2
    refine ⟨by show 1 ≤ sumB fb q.1 q.2; rw [hk]; omega, by show (fb q.1).1 + sumB fb q.1 q.2 ≤ N; rw [hk]; omega, fun nd' hn => ?_⟩
    obtain ⟨q', e2, rfl⟩ := levN_at h0 hn
    have hq := d q' e2
    have hq2 := segs_ok es es.length 0 0 (Nat.le_refl _) (by omega) (j + 1) q' e2
    show (fb q'.1).1 = (fb q.1).1 + sumB fb q.1 q.2
    have h2 := h.2 (q.1 + k) (by omega)
    rw [hq, hk, show q.1 + (k + 1) = q.1 + k + 1 by omega, h2]
    omega
  constructor
  · intro j hj
    have e : (levN lv es fb)[j]? = some (levN lv es fb)[j] := List.getElem?_eq_getElem hj
    rw [fbN_at e]
    exact ⟨(key j _ e).1, (key j _ e).2.1⟩
  · intro j hj
    have e : (levN lv es fb)[j]? = some (levN lv es fb)[j] := List.getElem?_eq_getElem (by omega)
    have e2 : (levN lv es fb)[j + 1]? = some (levN lv es fb)[j + 1] := List.getElem?_eq_getElem (by omega)
    rw [fbN_at e, fbN_at e2]
    exact (key j _ e).2.2 _ e2
theorem fbC_0 (n : Nat) : fbC (fun j => (j, 1)) n n := ⟨fun j hj => ⟨Nat.le_refl _, by show j + 1 ≤ n; omega⟩, fun j _ => rfl⟩
theorem sumB_1 (f k : Nat) : sumB (fun j => (j, 1)) f k = k := by
  induction k with
  | zero => rfl
  | succ k ih => simp only [sumB, ih]
theorem eB_at (es : List Row) {j c i : Nat} (hc : c < 4) (hi : i < 4) : eB es (16 * j + 4 * c + i) = bL (Int32.toInt64 (wd (es.getD j (0, 0, 0, 0)) c)) (3 - i) := by
  unfold eB
  rw [show (16 * j + 4 * c + i) / 16 = j by omega, show (16 * j + 4 * c + i) % 16 / 4 = c by omega, show (16 * j + 4 * c + i) % 4 = i by omega]
