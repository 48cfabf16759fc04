/-! a node's entries hang on its level and its rows alone -/
def sub (es : List Row) (e1 e2 : Nat) : List Row := (es.drop e1).take (e2 - e1)
theorem sub_len {es : List Row} {e1 e2 : Nat} (h : e2 ≤ es.length) : (sub es e1 e2).length = e2 - e1 := by unfold sub; rw [List.length_take, List.length_drop]; omega
theorem sub_getD {es : List Row} {e1 e2 j : Nat} (hj : j < e2 - e1) (x : Row) : (sub es e1 e2).getD j x = es.getD (e1 + j) x := by
  unfold sub
  rw [List.getD_eq_getElem?_getD, List.getD_eq_getElem?_getD, List.getElem?_take, if_pos hj, List.getElem?_drop]
theorem eB_sub {es : List Row} {e1 e2 x : Nat} (h : x < 16 * (e2 - e1)) : eB (sub es e1 e2) x = eB es (16 * e1 + x) := by
  unfold eB
  rw [sub_getD (by omega), show (16 * e1 + x) / 16 = e1 + x / 16 by omega, show (16 * e1 + x) % 16 / 4 = x % 16 / 4 by omega, show (16 * e1 + x) % 4 = x % 4 by omega]
theorem rl_sub {es : List Row} {e1 e2 f : Nat} (hf : e1 ≤ f) : ∀ k, 16 * (f - e1) + k ≤ 16 * (e2 - e1) → rl (sub es e1 e2) (f - e1) k = rl es f k := by
  intro k
  induction k with
  | zero => intro _; rfl
  | succ k ih =>
    intro hk
    rw [rl, rl, ih (by omega), eB_sub (by omega), show 16 * e1 + (16 * (f - e1) + k) = 16 * f + k by omega]
    by_cases h : k < 24
    · rw [if_pos h, if_pos h]
    · rw [if_neg h, if_neg h, eB_sub (by omega), show 16 * e1 + (16 * (f - e1) + k - 24) = 16 * f + k - 24 by omega]
theorem hsh_sub {es : List Row} {e1 e2 f lv : Nat} (hf : e1 ≤ f) : ∀ k, 16 * (f - e1) + k ≤ 16 * (e2 - e1) → hsh lv (sub es e1 e2) (f - e1) k = hsh lv es f k := by
  intro k
  induction k with
  | zero => intro _; rfl
  | succ k ih =>
    intro hk
    rw [hsh, hsh, ih (by omega), eB_sub (by omega), show 16 * e1 + (16 * (f - e1) + k) = 16 * f + k by omega]
theorem segs_ge (es : List Row) : ∀ (k f i : Nat), f ≤ i → ∀ q ∈ segs es k f i, i < q.1 + q.2 := by
  intro k
  induction k with
  | zero => intro f i _ q hq; simp [segs] at hq
  | succ k ih =>
    intro f i hf q hq
    rw [segs] at hq
    split at hq
    · rcases List.mem_cons.mp hq with e | e
      · subst e
        show i < f + (i + 1 - f)
        omega
      · have := ih (i + 1) (i + 1) (Nat.le_refl _) q e
        omega
    · have := ih f (i + 1) (by omega) q hq
      omega
theorem segs_sub (es : List Row) (e1 e2 : Nat) (he : e2 ≤ es.length) : ∀ (k f i : Nat) (A B : List (Nat × Nat)), e1 ≤ f → f ≤ i → i + k = e2 → segs es (es.length - i) f i = A ++ B → A ≠ [] → (∀ q, A.getLast? = some q → q.1 + q.2 = e2) → segs (sub es e1 e2) k (f - e1) (i - e1) = A.map (fun q => (q.1 - e1, q.2)) := by
  intro k
  induction k with
  | zero =>
    intro f i A B h1 h2 h3 h4 h5 h6
    exfalso
    obtain ⟨q, hq⟩ : ∃ q, A.getLast? = some q := by cases e : A.getLast? with
      | none => exact absurd (List.getLast?_eq_none_iff.mp e) h5
      | some q => exact ⟨q, rfl⟩
    have m : q ∈ segs es (es.length - i) f i := by rw [h4]; exact List.mem_append_left _ (List.mem_of_getLast? hq)
    have := segs_ge es _ f i h2 q m
    have := h6 q hq
    omega
  | succ k ih =>
    intro f i A B h1 h2 h3 h4 h5 h6
    have hl := sub_len (es := es) (e1 := e1) he
    obtain ⟨K, hK⟩ : ∃ K, es.length - i = K + 1 := ⟨es.length - i - 1, by omega⟩
    have hr := rl_sub (es := es) (e2 := e2) h1 (16 * (i + 1 - f)) (by omega)
    have eS : ends (sub es e1 e2) (f - e1) (i - e1) = (decide (i + 1 = e2) || (decide (i + 1 - f = 10) || (decide (2 ≤ i + 1 - f) && decide (rl es f (16 * (i + 1 - f)) &&& 3 = 0)))) := by
      unfold ends
      rw [hl, show i - e1 + 1 - (f - e1) = i + 1 - f by omega, hr]
      congr 1
      by_cases z : i + 1 = e2
      · rw [decide_eq_true z, decide_eq_true (by omega)]
      · rw [decide_eq_false z, decide_eq_false (by omega)]
    have eE : i + 1 ≠ e2 → ends es f i = ends (sub es e1 e2) (f - e1) (i - e1) := by
      intro z
      rw [eS, decide_eq_false z]
      unfold ends
      rw [decide_eq_false (show ¬ i + 1 = es.length by omega)]
    rw [hK, segs] at h4
    have hK2 : K = es.length - (i + 1) := by omega
    by_cases c : ends es f i = true
    · rw [if_pos c] at h4
      cases A with
      | nil => exact absurd rfl h5
      | cons a A' =>
        rw [List.cons_append] at h4
        injection h4 with h7 h8
        by_cases hA : A' = []
        · subst hA
          have := h6 a rfl
          rw [← h7] at this
          have hi : i + 1 = e2 := by
            have t : f + (i + 1 - f) = e2 := this
            omega
          have hk : k = 0 := by omega
          subst hk
          rw [segs, if_pos (by rw [eS, decide_eq_true hi]; rfl), segs_nil, ← h7]
          show [(f - e1, i - e1 + 1 - (f - e1))] = [(f - e1, i + 1 - f)]
          rw [show i - e1 + 1 - (f - e1) = i + 1 - f by omega]
        · have h9 : ∀ q, A'.getLast? = some q → q.1 + q.2 = e2 := fun q hq => h6 q (by rw [List.getLast?_cons]; simp [hq])
          have hi : i + 1 ≠ e2 := by
            intro z
            obtain ⟨q, hq⟩ : ∃ q, A'.getLast? = some q := by cases e : A'.getLast? with
              | none => exact absurd (List.getLast?_eq_none_iff.mp e) hA
              | some q => exact ⟨q, rfl⟩
            have m : q ∈ segs es K (i + 1) (i + 1) := by rw [h8]; exact List.mem_append_left _ (List.mem_of_getLast? hq)
            have := segs_ge es _ _ _ (Nat.le_refl _) q m
            have := h9 q hq
            omega
          have := ih (i + 1) (i + 1) A' B (by omega) (Nat.le_refl _) (by omega) (by rw [← hK2]; exact h8) hA h9
          rw [segs, if_pos (by rw [← eE hi]; exact c), ← h7, List.map_cons]
          congr 1
          · rw [show i - e1 + 1 - (f - e1) = i + 1 - f by omega]
          · rw [show i - e1 + 1 = i + 1 - e1 by omega]; exact this
    · rw [if_neg c] at h4
      have hi : i + 1 ≠ e2 := by
        intro z
        obtain ⟨q, hq⟩ : ∃ q, A.getLast? = some q := by cases e : A.getLast? with
          | none => exact absurd (List.getLast?_eq_none_iff.mp e) h5
          | some q => exact ⟨q, rfl⟩
        have m : q ∈ segs es K f (i + 1) := by rw [h4]; exact List.mem_append_left _ (List.mem_of_getLast? hq)
        have := segs_ge es _ _ _ (by omega) q m
        have := h6 q hq
        omega
      have := ih f (i + 1) A B h1 (by omega) (by omega) (by rw [← hK2]; exact h4) h5 h6
      rw [segs, if_neg (by rw [← eE hi]; exact c), show i - e1 + 1 = i + 1 - e1 by omega]
      exact this
theorem segs_drop (es : List Row) : ∀ (k f i : Nat), f ≤ i → i + k = es.length → ∀ j q, (segs es k f i)[j]? = some q → (j = 0 ∧ q.1 = f) ∨ (segs es k f i).drop j = segs es (es.length - q.1) q.1 q.1 := by
  intro k
  induction k with
  | zero => intro f i _ _ j q h; simp [segs] at h
  | succ k ih =>
    intro f i hf hi j q h
    rw [segs] at h ⊢
    by_cases c : ends es f i = true
    · rw [if_pos c] at h ⊢
      cases j with
      | zero => simp at h; left; exact ⟨rfl, by rw [← h]⟩
      | succ j =>
        rw [List.getElem?_cons_succ] at h
        right
        rw [List.drop_succ_cons]
        rcases ih (i + 1) (i + 1) (Nat.le_refl _) (by omega) j q h with ⟨h1, h2⟩ | h1
        · rw [h1, h2, List.drop_zero, show es.length - (i + 1) = k by omega]
        · exact h1
    · rw [if_neg c] at h ⊢
      exact ih f (i + 1) (by omega) (by omega) j q h
/-- the entries of a level, whether or not the tree has it -/
def lev (l : List Row) : Nat → List Row × (Nat → Nat × Nat)
  | 0 => (l, fun j => (j, 1))
  | n + 1 => ((levN n (lev l n).1 (lev l n).2).map (entN l), fbN (levN n (lev l n).1 (lev l n).2))
theorem lev_C (l : List Row) (hl : l.length ≠ 0) : ∀ n, fbC (lev l n).2 (lev l n).1.length l.length ∧ (lev l n).1.length ≠ 0 := by
  intro n
  induction n with
  | zero => exact ⟨fbC_0 _, hl⟩
  | succ n ih =>
    have := levN_len n (lev l n).1 (lev l n).2
    refine ⟨?_, ?_⟩
    · show fbC _ (List.length (List.map _ _)) _
      rw [List.length_map]
      exact fbC_next ih.1 ih.2
    · show List.length (List.map _ _) ≠ 0
      rw [List.length_map]
      omega
theorem lvs_lev (l : List Row) : ∀ (k lv j : Nat) (ns : List Nd), (lvs l k lv (lev l lv).1 (lev l lv).2)[j]? = some ns → ns = levN (lv + j) (lev l (lv + j)).1 (lev l (lv + j)).2 := by
  intro k
  induction k with
  | zero => intro lv j ns h; simp [lvs] at h
  | succ k ih =>
    intro lv j ns h
    rw [lvs] at h
    split at h
    · cases j with
      | zero => simp at h; exact h.symm
      | succ j =>
        rw [List.getElem?_cons_succ] at h
        have := ih (lv + 1) j ns h
        rw [show lv + (j + 1) = lv + 1 + j by omega]
        exact this
    · cases j with
      | zero => simp at h; exact h.symm
      | succ j => simp at h
theorem fb_mono {fb : Nat → Nat × Nat} {n N : Nat} (C : fbC fb n N) : ∀ d i, i + d < n → (fb i).1 ≤ (fb (i + d)).1 ∧ (fb i).1 + (fb i).2 ≤ (fb (i + d)).1 + (fb (i + d)).2 := by
  intro d
  induction d with
  | zero => intro i _; exact ⟨Nat.le_refl _, Nat.le_refl _⟩
  | succ d ih =>
    intro i h
    have h1 := ih i (by omega)
    have h2 := C.2 (i + d) (by omega)
    rw [show i + d + 1 = i + (d + 1) by omega] at h2
    have h3 := (C.1 (i + (d + 1)) (by omega)).1
    omega
