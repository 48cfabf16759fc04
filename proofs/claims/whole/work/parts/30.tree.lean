/-! trees of rows, as values -/
/-- byte k (0 the lowest) of a long -/
def bL (v : Int64) (k : Nat) : Int32 := Int64.toInt32 ((v >>> (Int32.toInt64 (8 * nI k) &&& 63)) &&& 255)
def hiW (v : Int64) : Int32 := Int64.toInt32 (Int64.toUInt64 v >>> ((Int32.toInt64 32).toUInt64 &&& Int64.toUInt64 63)).toInt64
def loW (v : Int64) : Int32 := Int64.toInt32 v
def wd (r : Row) (c : Nat) : Int32 := match c with
  | 0 => r.1
  | 1 => r.2.1
  | 2 => r.2.2.1
  | _ => r.2.2.2
/-- the b-th byte of entries of four words -/
def eB (es : List Row) (b : Nat) : Int32 := bL (Int32.toInt64 (wd (es.getD (b / 16) (0, 0, 0, 0)) (b % 16 / 4))) (3 - b % 4)
def tnd (x by_ : Int32) : Int32 := (x <<< (by_ &&& 31)) ||| (Int32.toUInt32 x >>> (Int32.toUInt32 (32 - by_) &&& Int32.toUInt32 31)).toInt32
def tll (b : Int32) : Int32 := (b + 1) * (-1640531535)
/-- the roll behind k bytes of a node that begins with entry f -/
def rl (es : List Row) (f : Nat) : Nat → Int32
  | 0 => 0
  | k + 1 => (tnd (rl es f k) 1 ^^^ tll (eB es (16 * f + k))) ^^^ (if k < 24 then 0 else tnd (tll (eB es (16 * f + k - 24))) 24)
def hstep (h : Int64) (b : Int32) : Int64 := (((h ^^^ (Int32.toInt64 b)) <<< (Int32.toInt64 29 &&& 63)) ||| (Int64.toUInt64 (h ^^^ (Int32.toInt64 b)) >>> ((Int32.toInt64 35).toUInt64 &&& Int64.toUInt64 63)).toInt64) * (-2960836687051489901)
/-- the hash behind k bytes from entry f on, on level lv -/
def hsh (lv : Nat) (es : List Row) (f : Nat) : Nat → Int64
  | 0 => Int32.toInt64 (nI lv) + 1
  | k + 1 => hstep (hsh lv es f k) (eB es (16 * f + k))
def ends (es : List Row) (f i : Nat) : Bool := decide (i + 1 = es.length) || (decide (i + 1 - f = 10) || (decide (2 ≤ i + 1 - f) && decide (rl es f (16 * (i + 1 - f)) &&& 3 = 0)))
/-- where the nodes of a level begin, and how many entries they have: k entries from i on are left, the node at hand began at f -/
def segs (es : List Row) : Nat → Nat → Nat → List (Nat × Nat)
  | 0, _, _ => []
  | k + 1, f, i => if ends es f i then (f, i + 1 - f) :: segs es k (i + 1) (i + 1) else segs es k f (i + 1)
/-- a node: level, entries, first row, rows below, hash -/
abbrev Nd : Type := Nat × Nat × Nat × Nat × Int64
def sumB (fb : Nat → Nat × Nat) (f : Nat) : Nat → Nat
  | 0 => 0
  | k + 1 => sumB fb f k + (fb (f + k)).2
def mkN (lv : Nat) (es : List Row) (fb : Nat → Nat × Nat) (q : Nat × Nat) : Nd := (lv, q.2, (fb q.1).1, sumB fb q.1 q.2, hsh lv es q.1 (16 * q.2))
/-- the nodes of a level -/
def levN (lv : Nat) (es : List Row) (fb : Nat → Nat × Nat) : List Nd := if es.length = 0 then [(lv, 0, 0, 0, hsh lv es 0 0)] else (segs es es.length 0 0).map (mkN lv es fb)
def fbN (ns : List Nd) (j : Nat) : Nat × Nat := ((ns.getD j (0, 0, 0, 0, 0)).2.2.1, (ns.getD j (0, 0, 0, 0, 0)).2.2.2.1)
/-- the entries that the nodes make on the next level; l: the rows -/
def entN (l : List Row) (nd : Nd) : Row := ((l.getD (nd.2.2.1 + nd.2.2.2.1 - 1) (0, 0, 0, 0)).1, hiW nd.2.2.2.2, loW nd.2.2.2.2, nI nd.2.2.2.1)
/-- the levels of a tree, from one level on -/
def lvs (l : List Row) : Nat → Nat → List Row → (Nat → Nat × Nat) → List (List Nd)
  | 0, _, _, _ => []
  | k + 1, lv, es, fb => if 1 < (levN lv es fb).length then levN lv es fb :: lvs l k (lv + 1) ((levN lv es fb).map (entN l)) (fbN (levN lv es fb)) else [levN lv es fb]
def tree (l : List Row) : List (List Nd) := lvs l (l.length + 1) 0 l (fun j => (j, 1))
theorem segs_len (es : List Row) : ∀ (k f i : Nat), f ≤ i → i + k = es.length → 2 * (segs es k f i).length ≤ es.length - f + 1 := by
  intro k
  induction k with
  | zero => intro f i h1 h2; simp [segs]
  | succ k ih =>
    intro f i h1 h2
    unfold segs
    by_cases he : ends es f i = true
    · rw [if_pos he]
      by_cases hlast : i + 1 = es.length
      · have : k = 0 := by omega
        subst this
        simp [segs]
        omega
      · have := ih (i + 1) (i + 1) (Nat.le_refl _) (by omega)
        have h3 : 2 ≤ i + 1 - f := by
          unfold ends at he
          simp [hlast] at he
          omega
        simp only [List.length_cons]
        omega
    · rw [if_neg he]
      exact ih f (i + 1) (by omega) (by omega)
theorem segs_pos (es : List Row) : ∀ (k f i : Nat), f ≤ i → i + (k + 1) = es.length → 0 < (segs es (k + 1) f i).length := by
  intro k
  induction k with
  | zero =>
    intro f i h1 h2
    unfold segs
    rw [if_pos (by unfold ends; simp; omega)]
    simp
  | succ k ih =>
    intro f i h1 h2
    unfold segs
    by_cases he : ends es f i = true
    · rw [if_pos he]; simp
    · rw [if_neg he]; exact ih f (i + 1) (by omega) (by omega)
theorem levN_len (lv : Nat) (es : List Row) (fb : Nat → Nat × Nat) : 1 ≤ (levN lv es fb).length ∧ 2 * (levN lv es fb).length ≤ max 2 (es.length + 1) := by
  unfold levN
  by_cases h : es.length = 0
  · rw [if_pos h]; simp; omega
  · rw [if_neg h, List.length_map]
    have h1 := segs_len es es.length 0 0 (Nat.le_refl _) (by omega)
    obtain ⟨k, hk⟩ : ∃ k, es.length = k + 1 := ⟨es.length - 1, by omega⟩
    have h2 := segs_pos es k 0 0 (Nat.le_refl _) (by omega)
    rw [hk]
    rw [hk] at h1
    omega
/-- more fuel than entries changes nothing -/
theorem lvs_fuel (l : List Row) : ∀ (k k' lv : Nat) (es : List Row) (fb : Nat → Nat × Nat), es.length < k → es.length < k' → lvs l k lv es fb = lvs l k' lv es fb := by
  intro k
  induction k with
  | zero => intro k' lv es fb h; omega
  | succ k ih =>
    intro k' lv es fb h h'
    obtain ⟨k2, rfl⟩ : ∃ k2, k' = k2 + 1 := ⟨k' - 1, by omega⟩
    have hl := levN_len lv es fb
    unfold lvs
    by_cases h1 : 1 < (levN lv es fb).length
    · rw [if_pos h1, if_pos h1, ih k2 (lv + 1) _ _ (by rw [List.length_map]; omega) (by rw [List.length_map]; omega)]
    · rw [if_neg h1, if_neg h1]
def flat (x : List (List Nd)) : List Nd := x.flatten
/-- how many nodes and levels there can be -/
def lvsB (N T D : Nat) : Prop := ∀ (l : List Row) (k lv : Nat) (es : List Row) (fb : Nat → Nat × Nat), es.length ≤ N → (flat (lvs l k lv es fb)).length ≤ T ∧ (lvs l k lv es fb).length ≤ D
theorem lvsB_0 : lvsB 2 1 1 := by
  intro l k lv es fb h
  have hl := levN_len lv es fb
  cases k with
  | zero => simp [lvs, flat]
  | succ k =>
    unfold lvs
    rw [if_neg (by omega)]
    simp [flat]
    omega
theorem lvsB_s {N T D c : Nat} (h : lvsB c T D) (h1 : 1 ≤ T ∧ 1 ≤ D) (hc : (N + 1) / 2 ≤ c) (h2 : 1 ≤ c) : lvsB N (T + c) (D + 1) := by
  intro l k lv es fb hN
  have hl := levN_len lv es fb
  cases k with
  | zero => simp [lvs, flat]
  | succ k =>
    unfold lvs
    by_cases hh : 1 < (levN lv es fb).length
    · rw [if_pos hh]
      have := h l k (lv + 1) ((levN lv es fb).map (entN l)) (fbN (levN lv es fb)) (by rw [List.length_map]; omega)
      simp only [flat, List.flatten_cons, List.length_append, List.length_cons] at this ⊢
      omega
    · rw [if_neg hh]
      simp [flat]
      omega
theorem lvsB_200 : lvsB 200 202 8 := lvsB_s (c := 100) (T := 102) (D := 7) (lvsB_s (c := 50) (T := 52) (D := 6) (lvsB_s (c := 25) (T := 27) (D := 5) (lvsB_s (c := 13) (T := 14) (D := 4) (lvsB_s (c := 7) (T := 7) (D := 3) (lvsB_s (c := 4) (T := 3) (D := 2) (lvsB_s (c := 2) (T := 1) (D := 1) lvsB_0 (by decide) (by decide) (by decide)) (by decide) (by decide) (by decide)) (by decide) (by decide) (by decide)) (by decide) (by decide) (by decide)) (by decide) (by decide) (by decide)) (by decide) (by decide) (by decide)) (by decide) (by decide) (by decide)
theorem tree_len (l : List Row) (h : l.length ≤ 200) : (flat (tree l)).length ≤ 202 ∧ (tree l).length ≤ 8 := lvsB_200 l _ 0 l _ h
