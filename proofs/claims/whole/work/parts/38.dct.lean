/-! counting without repeats -/
noncomputable def dct : (NK → Prop) → List NK → Nat
  | _, [] => 0
  | S, x :: l => @ite Nat (S x) (Classical.propDecidable (S x)) (dct S l) (dct (fun y => y = x ∨ S y) l + 1)
theorem dct_in {S : NK → Prop} {x : NK} {l : List NK} (h : S x) : dct S (x :: l) = dct S l := if_pos h
theorem dct_new {S : NK → Prop} {x : NK} {l : List NK} (h : ¬ S x) : dct S (x :: l) = dct (fun y => y = x ∨ S y) l + 1 := if_neg h
theorem set_ext {S S' : NK → Prop} (h : ∀ x, S x ↔ S' x) : S = S' := funext fun x => propext (h x)
theorem dct_app (r : List NK) (l : List NK) : ∀ S, dct S (l ++ r) = dct S l + dct (fun y => y ∈ l ∨ S y) r := by
  induction l with
  | nil =>
    intro S
    rw [List.nil_append, show dct S [] = 0 from rfl, Nat.zero_add]
    congr 1
    exact set_ext fun x => by simp
  | cons x l ih =>
    intro S
    rw [List.cons_append]
    by_cases h : S x
    · rw [dct_in h, dct_in h, ih]
      congr 2
      exact set_ext fun y => by
        simp only [List.mem_cons]
        constructor
        · rintro (a | a)
          · exact Or.inl (Or.inr a)
          · exact Or.inr a
        · rintro ((a | a) | a)
          · rw [a]; exact Or.inr h
          · exact Or.inl a
          · exact Or.inr a
    · rw [dct_new h, dct_new h, ih]
      have e : (fun y => y ∈ l ∨ y = x ∨ S y) = (fun y => y ∈ x :: l ∨ S y) := set_ext fun y => by
        simp only [List.mem_cons]
        constructor
        · rintro (a | a | a)
          · exact Or.inl (Or.inr a)
          · exact Or.inl (Or.inl a)
          · exact Or.inr a
        · rintro ((a | a) | a)
          · exact Or.inr (Or.inl a)
          · exact Or.inl a
          · exact Or.inr (Or.inr a)
      rw [e]
      omega
theorem dct_all {l : List NK} : ∀ {S : NK → Prop}, (∀ x ∈ l, S x) → dct S l = 0 := by
  induction l with
  | nil => intro S _; rfl
  | cons x l ih =>
    intro S h
    rw [dct_in (h x (by simp))]
    exact ih fun y hy => h y (by simp [hy])
theorem dct_u (l : List NK) : ∀ S : NK → Prop, ∃ u : List NK, u.Nodup ∧ (∀ x, x ∈ u ↔ (x ∈ l ∧ ¬ S x)) ∧ dct S l = u.length := by
  induction l with
  | nil => intro S; exact ⟨[], List.nodup_nil, fun x => by simp, rfl⟩
  | cons a l ih =>
    intro S
    by_cases h : S a
    · obtain ⟨u, u1, u2, u3⟩ := ih S
      refine ⟨u, u1, fun x => ?_, by rw [dct_in h, u3]⟩
      rw [u2]
      constructor
      · rintro ⟨p, q⟩
        exact ⟨List.mem_cons_of_mem _ p, q⟩
      · rintro ⟨p, q⟩
        rcases List.mem_cons.mp p with p | p
        · rw [p] at q; exact absurd h q
        · exact ⟨p, q⟩
    · obtain ⟨u, u1, u2, u3⟩ := ih (fun y => y = a ∨ S y)
      refine ⟨a :: u, List.nodup_cons.mpr ⟨fun q => ((u2 a).mp q).2 (Or.inl rfl), u1⟩, fun x => ?_, by rw [dct_new h, u3]; rfl⟩
      rw [List.mem_cons, u2, List.mem_cons]
      constructor
      · rintro (p | ⟨p, q⟩)
        · rw [p]; exact ⟨Or.inl rfl, h⟩
        · exact ⟨Or.inr p, fun z => q (Or.inr z)⟩
      · rintro ⟨p | p, q⟩
        · exact Or.inl p
        · by_cases e : x = a
          · exact Or.inl e
          · exact Or.inr ⟨p, fun z => z.elim e q⟩
theorem nodup_le {u : List NK} : ∀ {v : List NK}, u.Nodup → (∀ x ∈ u, x ∈ v) → u.length ≤ v.length := by
  induction u with
  | nil => intro v _ _; exact Nat.zero_le _
  | cons a u ih =>
    intro v h1 h2
    obtain ⟨h3, h4⟩ := List.nodup_cons.mp h1
    have ha := h2 a (by simp)
    have := ih (v := v.erase a) h4 fun x hx => (List.mem_erase_of_ne (fun e => h3 (by rw [← e]; exact hx))).mpr (h2 x (by simp [hx]))
    rw [List.length_erase_of_mem ha] at this
    have hp : 0 < v.length := List.length_pos_of_mem ha
    simp only [List.length_cons]
    omega
/-- the count hangs on the members alone -/
theorem dct_set {l l' : List NK} {S : NK → Prop} (h : ∀ x, x ∈ l ↔ x ∈ l') : dct S l = dct S l' := by
  obtain ⟨u, u1, u2, u3⟩ := dct_u l S
  obtain ⟨v, v1, v2, v3⟩ := dct_u l' S
  rw [u3, v3]
  refine Nat.le_antisymm (nodup_le u1 fun x hx => ?_) (nodup_le v1 fun x hx => ?_)
  · rw [v2, ← h]; exact (u2 x).mp hx
  · rw [u2, h]; exact (v2 x).mp hx
/-! some of the lists with numbers s, s + 1 .., k of them -/
def sq (c : Nat → Bool) (f : Nat → List NK) : Nat → Nat → List NK
  | 0, _ => []
  | k + 1, s => (if c s then f s else []) ++ sq c f k (s + 1)
theorem mem_sq {c : Nat → Bool} {f : Nat → List NK} {x : NK} : ∀ {k s : Nat}, x ∈ sq c f k s ↔ ∃ i, s ≤ i ∧ i < s + k ∧ c i = true ∧ x ∈ f i := by
  intro k
  induction k with
  | zero => intro s; simp [sq]; intro i h1 h2; omega
  | succ k ih =>
    intro s
    rw [sq, List.mem_append, ih]
    constructor
    · rintro (h | ⟨i, h1, h2, h3, h4⟩)
      · by_cases hc : c s = true
        · rw [if_pos hc] at h; exact ⟨s, Nat.le_refl _, by omega, hc, h⟩
        · rw [if_neg hc] at h; cases h
      · exact ⟨i, by omega, by omega, h3, h4⟩
    · rintro ⟨i, h1, h2, h3, h4⟩
      by_cases e : i = s
      · subst e; exact Or.inl (by rw [if_pos h3]; exact h4)
      · exact Or.inr ⟨i, by omega, by omega, h3, h4⟩
/-- what the trees of a table, and of three, are known by -/
def nks (l : List Row) : List NK := (flat (tree l)).map (nk l)
def nk3 (ls : Nat → List Row) : List NK := nks (ls 0) ++ (nks (ls 1) ++ nks (ls 2))
theorem mem_nk3 {ls : Nat → List Row} {x : NK} : x ∈ nk3 ls ↔ ∃ t, t < 3 ∧ x ∈ nks (ls t) := by
  unfold nk3
  rw [List.mem_append, List.mem_append]
  constructor
  · rintro (h | h | h)
    · exact ⟨0, by omega, h⟩
    · exact ⟨1, by omega, h⟩
    · exact ⟨2, by omega, h⟩
  · rintro ⟨t, ht, h⟩
    rcases (show t = 0 ∨ t = 1 ∨ t = 2 by omega) with e | e | e <;> subst e
    · exact Or.inl h
    · exact Or.inr (Or.inl h)
    · exact Or.inr (Or.inr h)
/-! bits of longs -/
def bt (x : Int64) (c : Nat) : Bool := x.toBitVec.getLsbD c
