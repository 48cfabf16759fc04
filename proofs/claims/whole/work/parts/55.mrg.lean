/-! merging three lists of rows -/
def mx1 (a b c : Int32) : Int32 := if b = c then b else if a = b then c else b
def mixR (k : Int32) (a b c : Row) : Row := (k, mx1 a.2.1 b.2.1 c.2.1, mx1 a.2.2.1 b.2.2.1 c.2.2.1, mx1 a.2.2.2 b.2.2.2 c.2.2.2)
def wl1 (a b c : Int32) : Bool := decide (b = c) || (decide (a = b) || decide (a = c))
def wel (a b c : Row) : Bool := wl1 a.2.1 b.2.1 c.2.1 && (wl1 a.2.2.1 b.2.2.1 c.2.2.1 && wl1 a.2.2.2 b.2.2.2 c.2.2.2)
/-- the row that comes, and whether it is a conflict -/
def dec (k : Int32) (o u h : Option Row) : Option Row × Bool := if u = h ∨ o = h then (u, false) else if o = u then (h, false) else match o, u, h with
  | some a, some b, some c => if wel a b c then (some (mixR k a b c), false) else (u, true)
  | _, _, _ => (u, true)
def mn2 : Option Int32 → Option Int32 → Option Int32
  | none, y => y
  | x, none => x
  | some a, some b => some (if b < a then b else a)
def hk (l : List Row) : Option Int32 := match l with
  | [] => none
  | r :: _ => some r.1
def nx (o u h : List Row) : Option Int32 := mn2 (hk o) (mn2 (hk u) (hk h))
def pop (k : Int32) (l : List Row) : Option Row × List Row := match l with
  | [] => (none, [])
  | r :: l' => if r.1 = k then (some r, l') else (none, r :: l')
abbrev Cf : Type := Nat × Int32 × Bool
def mg3 (t : Nat) : Nat → List Row → List Row → List Row → List Row → List Cf → Option (List Row × List Cf)
  | 0, _, _, _, d, cf => some (d, cf)
  | n + 1, o, u, h, d, cf => match nx o u h with
    | none => some (d, cf)
    | some k => match (dec k (pop k o).1 (pop k u).1 (pop k h).1).1 with
      | none => mg3 t n (pop k o).2 (pop k u).2 (pop k h).2 d (if (dec k (pop k o).1 (pop k u).1 (pop k h).1).2 then cf ++ [(t, k, true)] else cf)
      | some r => if d.length = 200 then none else mg3 t n (pop k o).2 (pop k u).2 (pop k h).2 (d ++ [r]) (if (dec k (pop k o).1 (pop k u).1 (pop k h).1).2 then cf ++ [(t, k, true)] else cf)
def mgA (o u h : Nat → List Row) : Nat → Nat → (Nat → List Row) → List Cf → Option ((Nat → List Row) × List Cf)
  | 0, _, res, cf => some (res, cf)
  | r + 1, t, res, cf => match mg3 t ((o t).length + (u t).length + (h t).length) (o t) (u t) (h t) [] cf with
    | none => none
    | some q => mgA o u h r (t + 1) (fun x => if x = t then q.1 else res x) q.2
/-- the least key of lists in order -/
theorem hk_le {l : List Row} (hs : Srt l) : (hk l = none → l = []) ∧ ∀ k, hk l = some k → (∃ r ∈ l, r.1 = k) ∧ ∀ r ∈ l, k ≤ r.1 := by
  cases l with
  | nil => exact ⟨fun _ => rfl, fun k h => by cases h⟩
  | cons r l =>
    refine ⟨fun h => (by cases h), fun k h => ?_⟩
    cases h
    refine ⟨⟨r, by simp, rfl⟩, fun x hx => ?_⟩
    rcases List.mem_cons.mp hx with e | e
    · rw [e]; exact Int32.le_refl _
    · exact Int32.le_of_lt (hs.head x e)
theorem mn2_ok {x y : Option Int32} {P P' : Int32 → Prop} (hx : (x = none → ∀ v, ¬ P v) ∧ ∀ k, x = some k → P k ∧ ∀ v, P v → k ≤ v) (hy : (y = none → ∀ v, ¬ P' v) ∧ ∀ k, y = some k → P' k ∧ ∀ v, P' v → k ≤ v) : (mn2 x y = none → ∀ v, ¬ (P v ∨ P' v)) ∧ ∀ k, mn2 x y = some k → (P k ∨ P' k) ∧ ∀ v, (P v ∨ P' v) → k ≤ v := by
  cases x with
  | none =>
    refine ⟨fun h v q => q.elim (hx.1 rfl v) (hy.1 h v), fun k h => ⟨Or.inr (hy.2 k h).1, fun v q => q.elim (fun z => absurd z (hx.1 rfl v)) ((hy.2 k h).2 v)⟩⟩
  | some a =>
    cases y with
    | none => refine ⟨fun h => (by cases h), fun k h => ?_⟩; cases h; exact ⟨Or.inl (hx.2 _ rfl).1, fun v q => q.elim ((hx.2 _ rfl).2 v) (fun z => absurd z (hy.1 rfl v))⟩
    | some b =>
      refine ⟨fun h => (by cases h), fun k h => ?_⟩
      have ha := hx.2 a rfl
      have hb := hy.2 b rfl
      have e : k = if b < a then b else a := (Option.some.inj h).symm
      by_cases c : b < a
      · rw [if_pos c] at e; subst e
        exact ⟨Or.inr hb.1, fun v q => q.elim (fun z => Int32.le_trans (Int32.le_of_lt c) (ha.2 v z)) (hb.2 v)⟩
      · rw [if_neg c] at e; subst e
        exact ⟨Or.inl ha.1, fun v q => q.elim (ha.2 v) (fun z => Int32.le_trans (Int32.not_lt.mp c) (hb.2 v z))⟩
def kin (l : List Row) (k : Int32) : Prop := ∃ r ∈ l, r.1 = k
theorem hk_ok {l : List Row} (hs : Srt l) : (hk l = none → ∀ v, ¬ kin l v) ∧ ∀ k, hk l = some k → kin l k ∧ ∀ v, kin l v → k ≤ v := by
  obtain ⟨a, b⟩ := hk_le hs
  refine ⟨fun h v ⟨r, hr, _⟩ => ?_, fun k h => ⟨(b k h).1, fun v ⟨r, hr, e⟩ => e ▸ (b k h).2 r hr⟩⟩
  rw [a h] at hr
  simp at hr
theorem nx_ok {o u h : List Row} (ho : Srt o) (hu : Srt u) (hh : Srt h) : (nx o u h = none → ∀ v, ¬ (kin o v ∨ kin u v ∨ kin h v)) ∧ ∀ k, nx o u h = some k → (kin o k ∨ kin u k ∨ kin h k) ∧ ∀ v, (kin o v ∨ kin u v ∨ kin h v) → k ≤ v := mn2_ok (hk_ok ho) (mn2_ok (hk_ok hu) (hk_ok hh))
/-- what a key takes from a list in order, where no lesser key is left -/
theorem pop_ok {l : List Row} {k : Int32} (hs : Srt l) (hk : ∀ r ∈ l, k ≤ r.1) : (pop k l).1 = lk l k ∧ Srt (pop k l).2 ∧ (∀ r ∈ (pop k l).2, k < r.1) ∧ (pop k l).2.length + (if (pop k l).1.isSome then 1 else 0) = l.length ∧ (∀ r, (pop k l).1 = some r → r.1 = k ∧ l = r :: (pop k l).2) ∧ ((pop k l).1 = none → (pop k l).2 = l) := by
  cases l with
  | nil => exact ⟨lk_nil.symm, hs, fun r hr => (by simp [pop] at hr), rfl, fun r h => absurd h (by simp [pop]), fun _ => rfl⟩
  | cons r l =>
    have hr := hk r (by simp)
    have c : ¬ r.1 < k := Int32.not_lt.mpr hr
    rw [lk_cons_ge c]
    by_cases e : r.1 = k
    · rw [if_pos e, show pop k (r :: l) = (some r, l) from if_pos e]
      refine ⟨rfl, hs.tail, fun x hx => by rw [← e]; exact hs.head x hx, rfl, fun x h => ?_, fun h => by cases h⟩
      cases h
      exact ⟨e, rfl⟩
    · rw [if_neg e, show pop k (r :: l) = (none, r :: l) from if_neg e]
      refine ⟨rfl, hs, fun x hx => ?_, rfl, fun x h => (by cases h), fun _ => rfl⟩
      have hlt : k < r.1 := Int32.lt_of_le_of_ne hr (fun q => e q.symm)
      rcases List.mem_cons.mp hx with q | q
      · rw [q]; exact hlt
      · exact Int32.lt_trans hlt (hs.head x q)
/-- the row that comes has the key -/
theorem dec_key {k : Int32} {o u h : Option Row} {r : Row} (hu : ∀ r, u = some r → r.1 = k) (hh : ∀ r, h = some r → r.1 = k) (e : (dec k o u h).1 = some r) : r.1 = k := by
  unfold dec at e
  split at e
  · exact hu r e
  · split at e
    · exact hh r e
    · split at e
      · split at e
        · cases e; rfl
        · exact hu r e
      · exact hu r e
/-- a conflict's key has two rows at least -/
theorem dec_two {k : Int32} {o u h : Option Row} (e : (dec k o u h).2 = true) : 2 ≤ (if o.isSome then 1 else 0) + (if u.isSome then 1 else 0) + (if h.isSome then 1 else 0) := by
  unfold dec at e
  split at e
  · cases e
  · next c =>
    split at e
    · cases e
    · next c2 =>
      cases o <;> cases u <;> cases h <;> simp_all
/-- all that a merge leaves -/
theorem mg3_ok (t : Nat) : ∀ (n : Nat) (o u h d : List Row) (cf : List Cf) (K : Int32 → Prop), Srt o → Srt u → Srt h → Srt d → d.length ≤ 200 → (∀ r ∈ d, ∀ x, (kin o x ∨ kin u x ∨ kin h x) → r.1 < x) → ∀ q, mg3 t n o u h d cf = some q → Srt q.1 ∧ q.1.length ≤ 200 ∧ (∃ e, q.2 = cf ++ e ∧ (∀ c ∈ e, c.1 = t) ∧ 2 * e.length ≤ o.length + u.length + h.length) := by
  intro n
  induction n with
  | zero =>
    intro o u h d cf K ho hu hh hd hl hlt q e
    cases e
    exact ⟨hd, hl, [], by simp, fun c hc => by simp at hc, by simp⟩
  | succ n ih =>
    intro o u h d cf K ho hu hh hd hl hlt q e
    rw [mg3] at e
    obtain ⟨n1, n2⟩ := nx_ok ho hu hh
    cases hx : nx o u h with
    | none =>
      rw [hx] at e
      cases e
      exact ⟨hd, hl, [], by simp, fun c hc => by simp at hc, by simp⟩
    | some k =>
      rw [hx] at e
      simp only at e
      obtain ⟨k1, k2⟩ := n2 k hx
      have po := pop_ok ho (k := k) fun r hr => k2 r.1 (Or.inl ⟨r, hr, rfl⟩)
      have pu := pop_ok hu (k := k) fun r hr => k2 r.1 (Or.inr (Or.inl ⟨r, hr, rfl⟩))
      have ph := pop_ok hh (k := k) fun r hr => k2 r.1 (Or.inr (Or.inr ⟨r, hr, rfl⟩))
      have later : ∀ x, (kin (pop k o).2 x ∨ kin (pop k u).2 x ∨ kin (pop k h).2 x) → k < x := by
        rintro x (⟨r, hr, e⟩ | ⟨r, hr, e⟩ | ⟨r, hr, e⟩)
        · rw [← e]; exact po.2.2.1 r hr
        · rw [← e]; exact pu.2.2.1 r hr
        · rw [← e]; exact ph.2.2.1 r hr
      have two : (dec k (pop k o).1 (pop k u).1 (pop k h).1).2 = true → _ := dec_two
      have key : ∀ r, (dec k (pop k o).1 (pop k u).1 (pop k h).1).1 = some r → r.1 = k := fun r hr => dec_key (fun x hx => (pu.2.2.2.2.1 x hx).1) (fun x hx => (ph.2.2.2.2.1 x hx).1) hr
      have fin : ∀ d', Srt d' → d'.length ≤ 200 → (∀ r ∈ d', r.1 ≤ k) → mg3 t n (pop k o).2 (pop k u).2 (pop k h).2 d' (if (dec k (pop k o).1 (pop k u).1 (pop k h).1).2 then cf ++ [(t, k, true)] else cf) = some q → Srt q.1 ∧ q.1.length ≤ 200 ∧ (∃ e, q.2 = cf ++ e ∧ (∀ c ∈ e, c.1 = t) ∧ 2 * e.length ≤ o.length + u.length + h.length) := by
        intro d' hd' hl' hle e2
        obtain ⟨a1, a2, e3, a3, a4, a5⟩ := ih _ _ _ d' _ K po.2.1 pu.2.1 ph.2.1 hd' hl' (fun r hr x hx => Int32.lt_of_le_of_lt (hle r hr) (later x hx)) q e2
        have l1 := po.2.2.2.1
        have l2 := pu.2.2.2.1
        have l3 := ph.2.2.2.1
        cases hb : (dec k (pop k o).1 (pop k u).1 (pop k h).1).2 with
        | false =>
          rw [hb] at a3
          refine ⟨a1, a2, e3, a3, a4, ?_⟩
          omega
        | true =>
          rw [hb] at a3
          have := two hb
          refine ⟨a1, a2, (t, k, true) :: e3, by rw [a3]; simp, fun c hc => ?_, ?_⟩
          · rcases List.mem_cons.mp hc with z | z
            · rw [z]
            · exact a4 c z
          · simp only [List.length_cons]
            omega
      have hdk : ∀ r ∈ d, r.1 < k := fun r hr => hlt r hr k k1
      cases hr : (dec k (pop k o).1 (pop k u).1 (pop k h).1).1 with
      | none =>
        rw [hr] at e
        exact fin d hd hl (fun r hr => Int32.le_of_lt (hdk r hr)) e
      | some r =>
        rw [hr] at e
        simp only at e
        split at e
        · cases e
        · next c =>
          have hk' := key r hr
          refine fin (d ++ [r]) ?_ (by rw [List.length_append]; simp; omega) (fun x hx => ?_) e
          · intro i j x y hij hi hj
            by_cases hjl : j < d.length
            · rw [List.getElem?_append_left hjl] at hj
              rw [List.getElem?_append_left (by omega)] at hi
              exact hd i j x y hij hi hj
            · rw [List.getElem?_append_right (by omega)] at hj
              have hz : j - d.length < 1 := (List.getElem?_eq_some_iff.mp hj).1
              rw [show j - d.length = 0 by omega] at hj
              cases hj
              rw [List.getElem?_append_left (by omega)] at hi
              rw [hk']
              exact hdk x (List.mem_of_getElem? hi)
          · rcases List.mem_append.mp hx with z | z
            · exact Int32.le_of_lt (hdk x z)
            · simp at z; rw [z, hk']; exact Int32.le_refl _
/-- laid behind the last -/
theorem insT_last {d : List Row} {r : Row} (h : ∀ x ∈ d, x.1 < r.1) : insT d r = d ++ [r] ∧ lk d r.1 = none := by
  induction d with
  | nil => exact ⟨insT_nil, lk_nil⟩
  | cons a d ih =>
    have ha := h a (by simp)
    obtain ⟨i1, i2⟩ := ih fun x hx => h x (by simp [hx])
    rw [insT_cons_lt ha, lk_cons_lt ha, i1]
    exact ⟨rfl, i2⟩
/-! the least key from L on, among the rows of a list -/
def nkey (L : Int64) : Int64 → List Row → Int64
  | b, [] => b
  | b, r :: l => nkey L (if Int32.toInt64 r.1 < L then b else if b ≤ Int32.toInt64 r.1 then b else Int32.toInt64 r.1) l
theorem nkey_app (L b : Int64) (l l' : List Row) : nkey L b (l ++ l') = nkey L (nkey L b l) l' := by
  induction l generalizing b with
  | nil => rfl
  | cons r l ih => rw [List.cons_append, nkey, nkey, ih]
theorem nkey_ok (L : Int64) (l : List Row) : ∀ b, nkey L b l ≤ b ∧ (nkey L b l = b ∨ ∃ r ∈ l, nkey L b l = Int32.toInt64 r.1 ∧ ¬ Int32.toInt64 r.1 < L) ∧ ∀ r ∈ l, ¬ Int32.toInt64 r.1 < L → nkey L b l ≤ Int32.toInt64 r.1 := by
  induction l with
  | nil => intro b; exact ⟨Int64.le_refl _, Or.inl rfl, fun r hr => by simp at hr⟩
  | cons a l ih =>
    intro b
    rw [nkey]
    by_cases c : Int32.toInt64 a.1 < L
    · rw [if_pos c]
      obtain ⟨h1, h2, h3⟩ := ih b
      refine ⟨h1, h2.imp id (fun ⟨r, hr, e⟩ => ⟨r, by simp [hr], e⟩), fun r hr q => ?_⟩
      rcases List.mem_cons.mp hr with e | e
      · rw [e] at q; exact absurd c q
      · exact h3 r e q
    · rw [if_neg c]
      by_cases c2 : b ≤ Int32.toInt64 a.1
      · rw [if_pos c2]
        obtain ⟨h1, h2, h3⟩ := ih b
        refine ⟨h1, h2.imp id (fun ⟨r, hr, e⟩ => ⟨r, by simp [hr], e⟩), fun r hr q => ?_⟩
        rcases List.mem_cons.mp hr with e | e
        · rw [e]; exact Int64.le_trans h1 c2
        · exact h3 r e q
      · rw [if_neg c2]
        obtain ⟨h1, h2, h3⟩ := ih (Int32.toInt64 a.1)
        refine ⟨Int64.le_trans h1 (Int64.le_of_lt (Int64.not_le.mp c2)), ?_, fun r hr q => ?_⟩
        · rcases h2 with h2 | ⟨r, hr, e⟩
          · exact Or.inr ⟨a, by simp, h2, c⟩
          · exact Or.inr ⟨r, by simp [hr], e⟩
        · rcases List.mem_cons.mp hr with e | e
          · rw [e]; exact h1
          · exact h3 r e q
def kL (k : Option Int32) : Int64 := match k with
  | none => nth
  | some k => Int32.toInt64 k
theorem lt_nth (x : Int32) : Int32.toInt64 x < nth := by
  rw [Int64.lt_iff_toInt_lt, Int32.toInt_toInt64]
  have h1 := Int32.toInt_lt x
  have : nth.toInt = 4294967296 := by decide +kernel
  rw [this]
  omega
theorem i64_lt_irrefl (x : Int64) : ¬ x < x := fun h => Int64.lt_irrefl h
/-- the reference's next key is the least of what is left -/
theorem nkey_nx {L : Int64} {A B C o u h : List Row} (ho : Srt o) (hu : Srt u) (hh : Srt h) (hL : ∀ r, r ∈ A ++ (B ++ C) → (¬ Int32.toInt64 r.1 < L ↔ (kin o r.1 ∨ kin u r.1 ∨ kin h r.1))) (hin : ∀ v, (kin o v ∨ kin u v ∨ kin h v) → ∃ r ∈ A ++ (B ++ C), r.1 = v) : nkey L nth (A ++ (B ++ C)) = kL (nx o u h) := by
  obtain ⟨n1, n2⟩ := nx_ok ho hu hh
  obtain ⟨h1, h2, h3⟩ := nkey_ok L (A ++ (B ++ C)) nth
  cases hx : nx o u h with
  | none =>
    rcases h2 with h2 | ⟨r, hr, e, q⟩
    · exact h2
    · exact absurd ((hL r hr).mp q) (n1 hx r.1)
  | some k =>
    obtain ⟨k1, k2⟩ := n2 k hx
    obtain ⟨r0, hr0, e0⟩ := hin k k1
    have a1 := h3 r0 hr0 ((hL r0 hr0).mpr (e0 ▸ k1))
    rw [e0] at a1
    show _ = Int32.toInt64 k
    rcases h2 with h2 | ⟨r, hr, e, q⟩
    · rw [h2] at a1
      exact absurd (Int64.lt_of_le_of_lt a1 (lt_nth k)) (i64_lt_irrefl _)
    · have a2 := k2 r.1 ((hL r hr).mp q)
      rw [e] at a1 ⊢
      refine Int64.le_antisymm a1 ?_
      rw [Int64.le_iff_toInt_le, Int32.toInt_toInt64, Int32.toInt_toInt64]
      exact Int32.le_iff_toInt_le.mp a2
