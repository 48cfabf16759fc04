/-! the tree of a node's rows -/
theorem lev_sub : ∀ (lv : Nat) (l : List Row) (f b j1 j2 : Nat), l.length ≠ 0 → j1 < j2 → j2 ≤ (lev l lv).1.length → f = ((lev l lv).2 j1).1 → f + b = ((lev l lv).2 (j2 - 1)).1 + ((lev l lv).2 (j2 - 1)).2 → (lev ((l.drop f).take b) lv).1 = sub (lev l lv).1 j1 j2 ∧ ∀ j, j < j2 - j1 → (lev ((l.drop f).take b) lv).2 j = (((lev l lv).2 (j1 + j)).1 - f, ((lev l lv).2 (j1 + j)).2) := by
  intro lv
  induction lv with
  | zero =>
    intro l f b j1 j2 hl h1 h2 hf hb
    have hf' : f = j1 := hf
    have hb' : f + b = (j2 - 1) + 1 := hb
    refine ⟨?_, fun j hj => ?_⟩
    · show (l.drop f).take b = (l.drop j1).take (j2 - j1)
      rw [hf', show b = j2 - j1 by omega]
    · show (j, 1) = (j1 + j - f, 1)
      rw [show j1 + j - f = j by omega]
  | succ n ih =>
    intro l f b j1 j2 hl h1 h2 hf hb
    obtain ⟨C, he0⟩ := lev_C l hl n
    generalize hes : (lev l n).1 = es at *
    generalize hfb : (lev l n).2 = fb at *
    have e1' : (lev l (n + 1)).1 = (levN n es fb).map (entN l) := by rw [lev, hes, hfb]
    have e2' : (lev l (n + 1)).2 = fbN (levN n es fb) := by rw [lev, hes, hfb]
    have eN : levN n es fb = (segs es es.length 0 0).map (mkN n es fb) := by unfold levN; rw [if_neg he0]
    rw [e1', List.length_map, eN, List.length_map] at h2
    rw [e2'] at hf hb
    generalize hsg : segs es es.length 0 0 = sg at *
    obtain ⟨q1, hq1⟩ : ∃ q, sg[j1]? = some q := ⟨_, List.getElem?_eq_getElem (by omega)⟩
    obtain ⟨q2, hq2⟩ : ∃ q, sg[j2 - 1]? = some q := ⟨_, List.getElem?_eq_getElem (by omega)⟩
    have fbq : ∀ (j : Nat) (q : Nat × Nat), sg[j]? = some q → fbN (levN n es fb) j = ((fb q.1).1, sumB fb q.1 q.2) := by
      intro j q hq
      have : (levN n es fb)[j]? = some (mkN n es fb q) := by rw [eN, List.getElem?_map, hq]; rfl
      rw [fbN_at this]
      rfl
    have ok : ∀ (j : Nat) (q : Nat × Nat), sg[j]? = some q → 1 ≤ q.2 ∧ q.1 + q.2 ≤ es.length ∧ ∀ q', sg[j + 1]? = some q' → q'.1 = q.1 + q.2 := by
      intro j q hq
      rw [← hsg] at hq ⊢
      exact (segs_ok es es.length 0 0 (Nat.le_refl _) (by omega) j q hq).2
    have sum : ∀ (j : Nat) (q : Nat × Nat), sg[j]? = some q → (fb q.1).1 + sumB fb q.1 q.2 = (fb (q.1 + q.2 - 1)).1 + (fb (q.1 + q.2 - 1)).2 := by
      intro j q hq
      obtain ⟨o1, o2, _⟩ := ok j q hq
      have := (sumB_C C (f := q.1) (q.2 - 1) (by omega)).1
      rw [show q.2 - 1 + 1 = q.2 by omega, show q.1 + (q.2 - 1) = q.1 + q.2 - 1 by omega] at this
      exact this
    have mono : ∀ (d j : Nat) (q q' : Nat × Nat), sg[j]? = some q → sg[j + d]? = some q' → q.1 ≤ q'.1 ∧ q.1 + q.2 ≤ q'.1 + q'.2 := by
      intro d
      induction d with
      | zero => intro j q q' a1 a2; rw [Nat.add_zero, a1] at a2; cases a2; exact ⟨Nat.le_refl _, Nat.le_refl _⟩
      | succ d ihd =>
        intro j q q' a1 a2
        have hlt := (List.getElem?_eq_some_iff.mp a2).1
        obtain ⟨qm, hm⟩ : ∃ q, sg[j + d]? = some q := ⟨_, List.getElem?_eq_getElem (by omega)⟩
        have m1 := ihd j q qm a1 hm
        have m2 := (ok (j + d) qm hm).2.2 q' (by rw [show j + d + 1 = j + (d + 1) by omega]; exact a2)
        have m3 := (ok _ q' a2).1
        omega
    rw [fbq j1 q1 hq1] at hf
    rw [fbq (j2 - 1) q2 hq2] at hb
    simp only at hf hb
    rw [sum _ q2 hq2] at hb
    obtain ⟨p1, p2, _⟩ := ok _ q1 hq1
    obtain ⟨p3, p4, _⟩ := ok _ q2 hq2
    have m12 := mono (j2 - 1 - j1) j1 q1 q2 hq1 (by rw [show j1 + (j2 - 1 - j1) = j2 - 1 by omega]; exact hq2)
    obtain ⟨i1, i2⟩ := ih l f b q1.1 (q2.1 + q2.2) hl (by omega) (by rw [hes]; omega) (by rw [hfb]; exact hf) (by rw [hfb]; exact hb)
    rw [hes] at i1
    rw [hfb] at i2
    generalize hR : (l.drop f).take b = R at *
    have sgd : sg.drop j1 = segs es (es.length - q1.1) q1.1 q1.1 := by
      rw [← hsg] at hq1 ⊢
      rcases segs_drop es es.length 0 0 (Nat.le_refl _) (by omega) j1 q1 hq1 with ⟨z1, z2⟩ | z
      · rw [z1, z2, List.drop_zero, Nat.sub_zero]
      · exact z
    have hA : (sg.drop j1).take (j2 - j1) ≠ [] := by
      intro z
      have := congrArg List.length z
      rw [List.length_take, List.length_drop, List.length_nil] at this
      omega
    have hlast : ∀ q, ((sg.drop j1).take (j2 - j1)).getLast? = some q → q.1 + q.2 = q2.1 + q2.2 := by
      intro q hq
      rw [List.getLast?_eq_getElem?, List.length_take, List.length_drop, Nat.min_eq_left (by omega), List.getElem?_take, if_pos (by omega), List.getElem?_drop, show j1 + (j2 - j1 - 1) = j2 - 1 by omega, hq2] at hq
      cases hq
      rfl
    have ss := segs_sub es q1.1 (q2.1 + q2.2) p4 (q2.1 + q2.2 - q1.1) q1.1 q1.1 ((sg.drop j1).take (j2 - j1)) ((sg.drop j1).drop (j2 - j1)) (Nat.le_refl _) (Nat.le_refl _) (by omega) (by rw [List.take_append_drop, sgd]) hA hlast
    rw [Nat.sub_self] at ss
    have sl := sub_len (es := es) (e1 := q1.1) p4
    have mem : ∀ q ∈ (sg.drop j1).take (j2 - j1), ∃ j, j1 ≤ j ∧ j < j2 ∧ sg[j]? = some q := by
      intro q hq
      obtain ⟨j, hj⟩ := List.getElem?_of_mem hq
      have hjl := (List.getElem?_eq_some_iff.mp hj).1
      rw [List.length_take, List.length_drop] at hjl
      rw [List.getElem?_take, if_pos (by omega), List.getElem?_drop] at hj
      exact ⟨j1 + j, by omega, by omega, hj⟩
    have rng : ∀ (j : Nat) (q : Nat × Nat), j1 ≤ j → j < j2 → sg[j]? = some q → q1.1 ≤ q.1 ∧ q.1 + q.2 ≤ q2.1 + q2.2 := by
      intro j q a1 a2 a3
      have x := mono (j - j1) j1 q1 q hq1 (by rw [show j1 + (j - j1) = j by omega]; exact a3)
      have y := mono (j2 - 1 - j) j q q2 a3 (by rw [show j + (j2 - 1 - j) = j2 - 1 by omega]; exact hq2)
      omega
    have sB : ∀ k q, q1.1 ≤ q → q + k ≤ q2.1 + q2.2 → sumB (lev R n).2 (q - q1.1) k = sumB fb q k := by
      intro k
      induction k with
      | zero => intro q _ _; rfl
      | succ k ihk =>
        intro q a1 a2
        rw [sumB, sumB, ihk q a1 (by omega), i2 (q - q1.1 + k) (by omega), show q1.1 + (q - q1.1 + k) = q + k by omega]
    have mk : ∀ (j : Nat) (q : Nat × Nat), j1 ≤ j → j < j2 → sg[j]? = some q → mkN n (sub es q1.1 (q2.1 + q2.2)) (lev R n).2 (q.1 - q1.1, q.2) = (n, q.2, (fb q.1).1 - f, sumB fb q.1 q.2, hsh n es q.1 (16 * q.2)) := by
      intro j q a1 a2 a3
      obtain ⟨r1, r2⟩ := rng j q a1 a2 a3
      obtain ⟨o1, _⟩ := ok j q a3
      unfold mkN
      simp only
      rw [sB q.2 q.1 r1 (by omega), hsh_sub r1 (16 * q.2) (by omega), i2 (q.1 - q1.1) (by omega), show q1.1 + (q.1 - q1.1) = q.1 by omega]
    have lN : levN n (lev R n).1 (lev R n).2 = ((sg.drop j1).take (j2 - j1)).map (fun q => (n, q.2, (fb q.1).1 - f, sumB fb q.1 q.2, hsh n es q.1 (16 * q.2))) := by
      unfold levN
      rw [i1, sl, if_neg (by omega), ss, List.map_map]
      apply List.map_congr_left
      intro q hq
      obtain ⟨j, a1, a2, a3⟩ := mem q hq
      exact mk j q a1 a2 a3
    refine ⟨?_, fun j hj => ?_⟩
    · rw [lev, e1', lN, List.map_map]
      unfold sub
      rw [eN, List.map_map, ← List.map_drop, ← List.map_take]
      apply List.map_congr_left
      intro q hq
      obtain ⟨j, a1, a2, a3⟩ := mem q hq
      obtain ⟨r1, r2⟩ := rng j q a1 a2 a3
      obtain ⟨o1, _⟩ := ok j q a3
      have s1 := sum j q a3
      have s2 := (sumB_C C (f := q.1) (q.2 - 1) (by omega)).2
      rw [show q.2 - 1 + 1 = q.2 by omega] at s2
      have f1 := (fb_mono C (q.1 - q1.1) q1.1 (by omega)).1
      rw [show q1.1 + (q.1 - q1.1) = q.1 by omega] at f1
      have f2 := (fb_mono C (q2.1 + q2.2 - 1 - (q.1 + q.2 - 1)) (q.1 + q.2 - 1) (by omega)).2
      rw [show q.1 + q.2 - 1 + (q2.1 + q2.2 - 1 - (q.1 + q.2 - 1)) = q2.1 + q2.2 - 1 by omega] at f2
      show entN R (n, q.2, (fb q.1).1 - f, sumB fb q.1 q.2, hsh n es q.1 (16 * q.2)) = entN l (mkN n es fb q)
      have gd : R.getD ((fb q.1).1 - f + sumB fb q.1 q.2 - 1) (0, 0, 0, 0) = l.getD ((fb q.1).1 + sumB fb q.1 q.2 - 1) (0, 0, 0, 0) := by
        rw [← hR, List.getD_eq_getElem?_getD, List.getD_eq_getElem?_getD, List.getElem?_take, if_pos (by omega), List.getElem?_drop]
        congr 2
        omega
      unfold entN mkN
      simp only
      rw [gd]
    · obtain ⟨q, hq⟩ : ∃ q, sg[j1 + j]? = some q := ⟨_, List.getElem?_eq_getElem (by omega)⟩
      rw [lev, e2', fbq _ q hq]
      have : (levN n (lev R n).1 (lev R n).2)[j]? = some (n, q.2, (fb q.1).1 - f, sumB fb q.1 q.2, hsh n es q.1 (16 * q.2)) := by
        rw [lN, List.getElem?_map, List.getElem?_take, if_pos hj, List.getElem?_drop, hq]
        rfl
      simp only
      rw [fbN_at this]
/-- how many entries a node has -/
def ent (k : NK) : Nat := (lev k.2.2 k.1).1.length
theorem ent_nk {l : List Row} {nd : Nd} (h : nd ∈ flat (tree l)) : nd.2.1 = ent (nk l nd) := by
  obtain ⟨ns, h1, h2⟩ := List.mem_flatten.mp h
  obtain ⟨lv, hlv⟩ := List.getElem?_of_mem h1
  obtain ⟨j, hj⟩ := List.getElem?_of_mem h2
  have e := lvs_lev l _ 0 lv ns hlv
  rw [Nat.zero_add] at e
  have hlv1 : nd.1 = lv := ((tree_at l hlv).1 nd h2).1
  by_cases hl : l.length = 0
  · have hn := (tree_at l hlv).2.2.2 hl
    have he : l = [] := List.length_eq_zero_iff.mp hl
    subst he
    have t0 : tree [] = [levN 0 [] (fun j => (j, 1))] := by unfold tree; rw [lvs]; rfl
    rw [t0] at hlv
    cases lv with
    | zero =>
      simp at hlv
      rw [← hlv] at h2
      unfold levN at h2
      simp at h2
      subst h2
      rfl
    | succ lv => simp at hlv
  · obtain ⟨C, he0⟩ := lev_C l hl lv
    rw [e] at hj
    obtain ⟨q, hq, hnd⟩ := levN_at he0 hj
    obtain ⟨_, o1, o2, _⟩ := segs_ok _ _ 0 0 (Nat.le_refl _) (by omega) j q hq
    have hs := (sumB_C C (f := q.1) (q.2 - 1) (by omega)).1
    rw [show q.2 - 1 + 1 = q.2 by omega, show q.1 + (q.2 - 1) = q.1 + q.2 - 1 by omega] at hs
    have := (lev_sub lv l nd.2.2.1 nd.2.2.2.1 q.1 (q.1 + q.2) hl (by omega) o2 (by rw [hnd]; rfl) (by rw [hnd]; exact hs)).1
    unfold ent nk
    simp only
    rw [hlv1, this, sub_len o2, hnd]
    show q.2 = _
    omega
theorem flat_of {X : List (List Nd)} {p : Nat} {nd : Nd} (h : (flat X)[p]? = some nd) : ∃ lv ns i, X[lv]? = some ns ∧ ns[i]? = some nd ∧ p = off X lv + i := by
  induction X generalizing p with
  | nil => simp [flat] at h
  | cons a X ih =>
    unfold flat at h
    rw [List.flatten_cons] at h
    by_cases c : p < a.length
    · rw [List.getElem?_append_left c] at h
      exact ⟨0, a, p, rfl, h, by rw [off_0]; omega⟩
    · rw [List.getElem?_append_right (by omega)] at h
      obtain ⟨lv, ns, i, h1, h2, h3⟩ := ih h
      refine ⟨lv + 1, ns, i, h1, h2, ?_⟩
      unfold off flat at h3 ⊢
      rw [List.take_succ_cons, List.flatten_cons, List.length_append]
      omega
theorem nk_inj {l : List Row} (hs : Srt l) {i j : Nat} {nd nd' : Nd} (h1 : (flat (tree l))[i]? = some nd) (h2 : (flat (tree l))[j]? = some nd') (hne : i ≠ j) : nk l nd ≠ nk l nd' := by
  intro e
  obtain ⟨lv, ns, a, g1, g2, g3⟩ := flat_of h1
  obtain ⟨lv', ns', a', g1', g2', g3'⟩ := flat_of h2
  obtain ⟨x1, x2, x3, x4⟩ := tree_at l g1
  obtain ⟨y1, y2, y3, y4⟩ := tree_at l g1'
  have z1 := x1 nd (List.mem_of_getElem? g2)
  have z2 := y1 nd' (List.mem_of_getElem? g2')
  have e1 : nd.1 = nd'.1 := congrArg (fun x : NK => x.1) e
  have hll : lv = lv' := by omega
  subst hll
  rw [g1] at g1'
  cases g1'
  have haa : a ≠ a' := by omega
  by_cases hl : l.length = 0
  · have := x4 hl
    have := (List.getElem?_eq_some_iff.mp g2).1
    have := (List.getElem?_eq_some_iff.mp g2').1
    omega
  · have chain : ∀ d a nd nd', ns[a]? = some nd → ns[a + d + 1]? = some nd' → nd.2.2.1 < nd'.2.2.1 := by
      intro d
      induction d with
      | zero =>
        intro a nd nd' k1 k2
        have := x2 hl a nd nd' k1 k2
        have := (x1 nd (List.mem_of_getElem? k1)).2.2 hl
        omega
      | succ d ih =>
        intro a nd nd' k1 k2
        have hlt := (List.getElem?_eq_some_iff.mp k2).1
        obtain ⟨nm, hm⟩ : ∃ n, ns[a + d + 1]? = some n := ⟨_, List.getElem?_eq_getElem (by omega)⟩
        have := ih a nd nm k1 hm
        have := x2 hl (a + d + 1) nm nd' hm (by rw [show a + d + 1 + 1 = a + (d + 1) + 1 by omega]; exact k2)
        omega
    have key : ∀ (n n' : Nd), n.2.2.1 < n'.2.2.1 → n.2.2.1 + n.2.2.2.1 ≤ l.length → 1 ≤ n.2.2.2.1 → n'.2.2.1 + n'.2.2.2.1 ≤ l.length → 1 ≤ n'.2.2.2.1 → nk l n ≠ nk l n' := by
      intro n n' k1 k2 k3 k4 k5 k6
      have k7 : (l.drop n.2.2.1).take n.2.2.2.1 = (l.drop n'.2.2.1).take n'.2.2.2.1 := congrArg (fun x : NK => x.2.2) k6
      have k8 := congrArg (fun x : List Row => x[0]?) k7
      simp only [List.getElem?_take, List.getElem?_drop, Nat.add_zero] at k8
      rw [if_pos (by omega), if_pos (by omega)] at k8
      obtain ⟨x, hx⟩ : ∃ x, l[n.2.2.1]? = some x := ⟨_, List.getElem?_eq_getElem (by omega)⟩
      rw [hx] at k8
      exact Int32.lt_irrefl (hs _ _ _ _ k1 hx k8.symm)
    rcases Nat.lt_or_gt_of_ne haa with q | q
    · exact key nd nd' (chain (a' - a - 1) a nd nd' g2 (by rw [show a + (a' - a - 1) + 1 = a' by omega]; exact g2')) z1.2.1 (z1.2.2 hl) z2.2.1 (z2.2.2 hl) e
    · exact key nd' nd (chain (a - a' - 1) a' nd' nd g2' (by rw [show a' + (a - a' - 1) + 1 = a by omega]; exact g2)) z2.2.1 (z2.2.2 hl) z1.2.1 (z1.2.2 hl) e.symm
