/-! the class: calls on trees -/
theorem lvs_top (l : List Row) : ∀ (k lv : Nat) (es : List Row) (fb : Nat → Nat × Nat), es.length < k → ∃ Y nd, lvs l k lv es fb = Y ++ [[nd]] := by
  intro k
  induction k with
  | zero => intro lv es fb h; omega
  | succ k ih =>
    intro lv es fb h
    have hl := levN_len lv es fb
    rw [lvs]
    by_cases c : 1 < (levN lv es fb).length
    · rw [if_pos c]
      obtain ⟨Y, nd, e⟩ := ih (lv + 1) ((levN lv es fb).map (entN l)) (fbN (levN lv es fb)) (by rw [List.length_map]; omega)
      exact ⟨levN lv es fb :: Y, nd, by rw [e]; rfl⟩
    · rw [if_neg c]
      have : (levN lv es fb).length = 1 := by omega
      obtain ⟨nd, e⟩ := List.length_eq_one_iff.mp this
      exact ⟨[], nd, by rw [e]; rfl⟩
theorem tree_top (l : List Row) : (tree l)[(tree l).length - 1]? = some [topN l] := by
  obtain ⟨Y, nd, e⟩ := lvs_top l (l.length + 1) 0 l (fun j => (j, 1)) (by omega)
  have e2 : tree l = Y ++ [[nd]] := e
  have e3 : topN l = nd := by
    unfold topN
    rw [e2, flat_last, List.getD_eq_getElem?_getD, List.length_append, List.getElem?_append_right (by simp)]
    simp
  rw [e3, e2]
  simp
theorem trN {s : St} {y z : Int32} (e : pAt s y = none ∨ lim 3 z = none) : trAt s y z = none := by
  unfold trAt
  rcases e with e | e
  · rw [e]
  · rw [e]
    cases pAt s y <;> rfl
section JX5
variable {h h' h1 : jj_H} {x m n t : Nat} {s : St} {l : List Row} {Q : Value → jj_H → Prop}
theorem x_root {y z : Int32} (R : Rc h x m s n) (hw : s.wf) (H : ∀ h', Rc h' x m s n → xF h h' x m → Q (.long (a_root s y z)) h') : jj_C mX9_root 1616 14544 [.ref x, .int y, .int z] h Q := by
  refine EX9_root _ _ _ fun d => ⟨cM_k R.M, by omega, by omega, x_treeOf R hw (fun p t hp ht h2 R2 F2 st _ _ => ?_) (fun e => ⟨fun c => absurd rfl c, fun _ => ?_⟩)⟩
  · obtain ⟨_, ht3⟩ := lim_some (by decide) ht
    have hl := (hw.2.1 p t (pAt_lt hw hp).1 ht3).2
    obtain ⟨S, na, st2, T, nz⟩ := R2.tv (pAt_lt hw hp).1 hw.1.2 ht3 st
    have HH := H h2 R2 F2
    unfold a_root at HH
    rw [trAt_some hp ht] at HH
    have tp := tree_top (s.T p t)
    have hp0 := tree_pos0 (s.T p t)
    have htl := tree_len _ hl
    refine ⟨fun _ => ⟨T.1, ?_⟩, fun c => absurd c nz⟩
    rw [T.2.2.2.2.2.2.2.2.2.1, qs_1 (by omega)]
    refine jV_C (by decide +kernel) fun V2 => ?_
    refine c_nodeAt T (fun lv ns i nd g1 g2 g3 g4 => ?_) (fun g => ?_)
    · rw [lim_nI (by omega) (by omega)] at g1
      cases g1
      rw [tp] at g2
      cases g2
      have g3' : lim 1 (nI 0) = some i := g3
      rw [lim_nI (by decide) (by decide)] at g3'
      cases g3'
      simp at g4
      subst g4
      obtain ⟨r, w, _, N⟩ := T.2.2.2.2.2.2.2.2.2.2.2 _ (topN (s.T p t)) (flat_at (i := 0) tp rfl)
      have nz2 := (jV_le V2 (a := jR h2 1000 na (off (tree (s.T p t)) ((tree (s.T p t)).length - 1) + 0)) (by rw [N.1]; decide)).1
      generalize jR h2 1000 na _ = a at N nz2 ⊢
      refine ⟨fun _ => ⟨N.1, ?_⟩, fun c => by omega⟩
      rw [N.2.2.2.2.2.2.2.1]; exact HH
    · exfalso
      rcases g with (g | ⟨lv, ns, g1, g2, g3⟩) | g
      · rw [lim_nI (by omega) (by omega)] at g; cases g
      · rw [lim_nI (by omega) (by omega)] at g1
        cases g1
        rw [tp] at g2
        cases g2
        have g3' : lim 1 (nI 0) = none := g3
        rw [lim_nI (by decide) (by decide)] at g3'
        cases g3'
      · exact absurd g (by decide)
  · have HH := H h R xF.rf
    unfold a_root at HH
    rw [trN e] at HH
    exact HH
theorem x_height {y z : Int32} (R : Rc h x m s n) (hw : s.wf) (H : ∀ h', Rc h' x m s n → xF h h' x m → Q (.int (a_height s y z)) h') : jj_C mX9_height 1616 14544 [.ref x, .int y, .int z] h Q := by
  refine EX9_height _ _ _ fun d => ⟨cM_k R.M, by omega, by omega, x_treeOf R hw (fun p t hp ht h2 R2 F2 st _ _ => ?_) (fun e => ⟨fun c => absurd rfl c, fun _ => ?_⟩)⟩
  · obtain ⟨_, ht3⟩ := lim_some (by decide) ht
    obtain ⟨S, na, st2, T, nz⟩ := R2.tv (pAt_lt hw hp).1 hw.1.2 ht3 st
    have HH := H h2 R2 F2
    unfold a_height at HH
    rw [trAt_some hp ht] at HH
    refine ⟨fun _ => ⟨T.1, ?_⟩, fun c => absurd c nz⟩
    rw [T.2.2.2.2.2.2.2.2.2.1]
    exact HH
  · have HH := H h R xF.rf
    unfold a_height at HH
    rw [trN e] at HH
    exact HH
theorem x_nodes {y z lv : Int32} (R : Rc h x m s n) (hw : s.wf) (H : ∀ h', Rc h' x m s n → xF h h' x m → Q (.int (a_nodes s y z lv)) h') : jj_C mX9_nodes 1616 14544 [.ref x, .int y, .int z, .int lv] h Q := by
  refine EX9_nodes _ _ _ _ fun d => ⟨cM_k R.M, by omega, by omega, x_treeOf R hw (fun p t hp ht h2 R2 F2 st _ _ => ?_) (fun e => ⟨fun _ => ?_, fun c => absurd rfl c⟩)⟩
  · obtain ⟨_, ht3⟩ := lim_some (by decide) ht
    obtain ⟨S, na, st2, T, nz⟩ := R2.tv (pAt_lt hw hp).1 hw.1.2 ht3 st
    have HH := H h2 R2 F2
    unfold a_nodes at HH
    rw [trAt_some hp ht] at HH
    refine ⟨fun c => absurd c nz, fun _ => ⟨T.1, c_hasLevel T (fun j hj => ⟨fun _ => ⟨T.1, c_nodesOn T (fun j2 ns g1 g2 => ?_) (fun g1 => by rw [hj] at g1; cases g1)⟩, fun c => absurd c (by decide)⟩) (fun hj => ⟨fun c => absurd rfl c, fun _ => ?_⟩)⟩⟩
    · rw [hj] at g1
      cases g1
      simp only at HH
      rw [hj] at HH
      simp only at HH
      rw [List.getD_eq_getElem?_getD, g2] at HH
      exact HH
    · simp only at HH
      rw [hj] at HH
      exact HH
  · have HH := H h R xF.rf
    unfold a_nodes at HH
    rw [trN e] at HH
    exact HH
theorem x_node {y z lv i v : Int32} (R : Rc h x m s n) (hw : s.wf) (H : ∀ h', Rc h' x m s n → xF h h' x m → Q (.long (a_node s y z lv i v)) h') : jj_C mX9_node 1616 14544 [.ref x, .int y, .int z, .int lv, .int i, .int v] h Q := by
  refine EX9_node _ _ _ _ _ _ fun d => ⟨cM_k R.M, by omega, by omega, x_treeOf R hw (fun p t hp ht h2 R2 F2 st _ _ => ?_) (fun e => ⟨fun c => absurd rfl c, fun _ => ?_⟩)⟩
  · obtain ⟨_, ht3⟩ := lim_some (by decide) ht
    have hl := (hw.2.1 p t (pAt_lt hw hp).1 ht3).2
    obtain ⟨S, na, st2, T, nz⟩ := R2.tv (pAt_lt hw hp).1 hw.1.2 ht3 st
    have htl := tree_len _ hl
    have HH := H h2 R2 F2
    unfold a_node at HH
    rw [trAt_some hp ht] at HH
    simp only at HH
    refine ⟨fun _ => ⟨T.1, jV_C (by decide +kernel) fun V2 => c_nodeAt T (fun j ns q nd g1 g2 g3 g4 => ?_) (fun g => ?_)⟩, fun c => absurd c nz⟩
    · obtain ⟨f1, f2⟩ := lim_some (by omega) g1
      have hfl := List.mem_of_getElem? (flat_at g2 g4)
      have o := off_succ g2
      have o2 := off_le (tree (s.T p t)) (j + 1)
      obtain ⟨f3, f4⟩ := lim_some (by omega) g3
      have eA : ndA (s.T p t) lv i = some nd := by
        unfold ndA
        rw [f1, f3, if_pos ⟨by rw [qL_0 (by omega)]; omega, by rw [qL_0 (by omega)]; omega⟩, q_clamp (by omega), q_clamp (by omega), List.getD_eq_getElem?_getD, g2]
        exact g4
      rw [eA] at HH
      simp only at HH
      obtain ⟨r, w, _, N⟩ := T.2.2.2.2.2.2.2.2.2.2.2 _ nd (flat_at g2 g4)
      have nz2 := (jV_le V2 (a := jR h2 1000 na (off (tree (s.T p t)) j + q)) (by rw [N.1]; decide)).1
      obtain ⟨o3, o4, o5⟩ := tree_nd hl hfl
      have hlen : (nk (s.T p t) nd).2.2.length = nd.2.2.2.1 := by simp [nk]; omega
      generalize jR h2 1000 na _ = a at N nz2 ⊢
      have n1 := N.1
      have n6 := N.2.2.2.2.2.1
      have n7 := N.2.2.2.2.2.2.1
      have n8 := N.2.2.2.2.2.2.2.1
      rw [hlen] at n6
      refine VX9_node_25 _ _ ⟨fun _ => ?_, fun c => by omega⟩
      unfold whatN at HH
      cases hv : lim 4 v with
      | none =>
        rw [hv] at HH
        have lo := lim_none hv
        have hi : v.toInt < 0 ∨ 3 < v.toInt := by
          rcases Int.lt_or_le v.toInt 0 with z | z
          · exact Or.inl z
          · right
            rcases Int.lt_or_le 3 v.toInt with z2 | z2
            · exact z2
            · exfalso
              exact lo ⟨Int32.le_iff_toInt_le.mpr z, Int32.lt_iff_toInt_lt.mpr (by have : (nI 4).toInt = 4 := rfl; omega)⟩
        exact ⟨⟨fun c => by omega, fun c => by omega, fun c => by omega, fun c => by omega, trivial⟩, fun _ => HH⟩
      | some k =>
        rw [hv] at HH
        obtain ⟨e, hk⟩ := lim_some (by decide) hv
        subst e
        rcases (show k = 0 ∨ k = 1 ∨ k = 2 ∨ k = 3 by omega) with e | e | e | e <;> subst e
        · refine ⟨⟨fun _ => ⟨n1, ?_⟩, fun c => absurd c (by decide), fun c => absurd c (by decide), fun c => absurd c (by decide), trivial⟩, fun c => absurd c (by decide)⟩
          rw [n7]; exact HH
        · refine ⟨⟨fun c => absurd c (by decide), fun _ => ⟨n1, ?_⟩, fun c => absurd c (by decide), fun c => absurd c (by decide), trivial⟩, fun c => absurd c (by decide)⟩
          rw [n6]; exact HH
        · refine ⟨⟨fun c => absurd c (by decide), fun c => absurd c (by decide), fun _ => ⟨n1, ?_⟩, fun c => absurd c (by decide), trivial⟩, fun c => absurd c (by decide)⟩
          rw [n8]; exact HH
        · refine ⟨⟨fun c => absurd c (by decide), fun c => absurd c (by decide), fun c => absurd c (by decide), fun _ => ⟨n1, c_lastKey N ?_⟩, trivial⟩, fun c => absurd c (by decide)⟩
          have HH2 : Q (.long (if nd.2.2.2.1 = 0 then nth else Int32.toInt64 ((s.T p t).getD (nd.2.2.1 + nd.2.2.2.1 - 1) (0, 0, 0, 0)).1)) h2 := HH
          by_cases h0 : nd.2.2.2.1 = 0
          · rw [if_pos h0] at HH2
            have : lastK (nk (s.T p t) nd) = nth := by
              unfold lastK
              have e0 : (nk (s.T p t) nd).2.2 = [] := List.length_eq_zero_iff.mp (by rw [hlen]; exact h0)
              rw [e0]
              rfl
            show Q (.long _) h2
            rw [this]
            exact HH2
          · rw [if_neg h0] at HH2
            show Q (.long _) h2
            rw [lastK_nk (by omega) o4]
            exact HH2
    · refine VX9_node_25 _ _ ⟨fun c => absurd rfl c, fun _ => ?_⟩
      have eA : ndA (s.T p t) lv i = none := by
        unfold ndA
        by_cases c : 0 ≤ lv ∧ 0 ≤ i
        · rw [if_pos c]
          obtain ⟨e1, b1⟩ := pos_nI c.1
          obtain ⟨e2, b2⟩ := pos_nI c.2
          rcases g with (g | ⟨j, ns, g1, g2, g3⟩) | g
          · have : (tree (s.T p t)).length ≤ Int32.toNatClampNeg lv := by
              rcases Nat.lt_or_ge (Int32.toNatClampNeg lv) (tree (s.T p t)).length with z | z
              · rw [e1, lim_nI (by omega) z] at g; cases g
              · exact z
            rw [List.getD_eq_getElem?_getD, List.getElem?_eq_none this]
            rfl
          · obtain ⟨f1, f2⟩ := lim_some (by omega) g1
            have o := off_succ g2
            have o2 := off_le (tree (s.T p t)) (j + 1)
            have ej : Int32.toNatClampNeg lv = j := by rw [f1, q_clamp (by omega)]
            rw [ej, List.getD_eq_getElem?_getD, g2]
            have : ns.length ≤ Int32.toNatClampNeg i := by
              rcases Nat.lt_or_ge (Int32.toNatClampNeg i) ns.length with z | z
              · rw [e2, lim_nI (by omega) z] at g3; cases g3
              · exact z
            exact List.getElem?_eq_none this
          · exact absurd g (Int32.not_lt.mpr c.2)
        · rw [if_neg c]
      rw [eA] at HH
      exact HH
  · have HH := H h R xF.rf
    unfold a_node at HH
    rw [trN e] at HH
    exact VX9_node_25 _ _ ⟨fun c => absurd rfl c, fun _ => HH⟩
theorem x_shared {y z u : Int32} (R : Rc h x m s n) (hw : s.wf) (H : ∀ h', Rc h' x m s n → xF h h' x m → Q (.int (a_shared s y z u)) h') : jj_C mX9_shared 3232 29088 [.ref x, .int y, .int z, .int u] h Q := by
  refine EX9_shared _ _ _ _ fun d => ⟨cM_k R.M, by omega, by omega, x_treeOf R hw (fun p t hp ht h2 R2 F2 st _ _ => ⟨cM_k R2.M, by omega, by omega, x_treeOf R2 hw (fun p' t' hp' ht' h3 R3 F3 st' id3 ad3 => ?_) (fun e => ?_)⟩) (fun e => ⟨cM_k R.M, by omega, by omega, x_treeOf R hw (fun p' t' hp' ht' h3 R3 F3 st' id3 _ => ⟨fun _ => ?_, fun c => absurd rfl c⟩) (fun e5 => ⟨fun _ => ?_, fun c => absurd rfl c⟩)⟩)⟩
  · obtain ⟨_, ht3⟩ := lim_some (by decide) ht
    rw [ht] at ht'
    cases ht'
    have hm := hw.1.2
    have hl := (hw.2.1 p t (pAt_lt hw hp).1 ht3).2
    have ead : tad h3 x p t = tad h2 x p t ∧ jI h3 354 (tad h3 x p t) 0 = 0 := by
      rcases pAt_some hw hp with ⟨_, e6⟩ | ⟨e1, hk, _⟩
      · subst e6
        have e0 : ∀ h, tad h x 60 t = wb x t := fun h => by unfold tad; rw [if_pos rfl]
        rw [e0] at st
        have e3 := id3 (Or.inr st)
        rw [e3, e0]
        exact ⟨rfl, st⟩
      · have e0 : ∀ h, tad h x p t = tba h x p t := fun h => by unfold tad; rw [if_neg (by omega)]
        rw [e0, e0]
        refine ⟨ad3 p t hk, ?_⟩
        obtain ⟨P, K⟩ := R3.C hk
        obtain ⟨s1, r, w, na, st, s2, s3, s4, s5, e1, R', e2, T⟩ := K.2.2.2.2.2.2.2.2 t ht3
        exact e2
    obtain ⟨S, na, st2, T, nz⟩ := R3.tv (pAt_lt hw hp).1 hw.1.2 ht3 ead.2
    obtain ⟨S', na', st2', T', nz'⟩ := R3.tv (pAt_lt hw hp').1 hw.1.2 ht3 st'
    rw [ead.1] at T nz
    have HH := H h3 R3 (F2.trans F3)
    unfold a_shared at HH
    rw [trAt_some hp ht, trAt_some hp' ht] at HH
    simp only at HH
    have hfl := (tree_len _ hl).1
    generalize s.T p t = l at *
    generalize s.T p' t = l' at *
    refine ⟨fun c => absurd c nz, fun _ => ⟨fun _ => ?_, fun c => absurd c nz'⟩⟩
    have loop : ∀ q i bc bs, i + q = (flat (tree l)).length → jj_WP d mX9_shared bc bs 35 [(4, .ref (tad h2 x p t)), (5, .ref (tad h3 x p' t)), (6, .int (nI (((nks l).take i).countP (fun k => decide (k ∈ nks l'))))), (7, .int (nI i))] [] h3 Q := by
      intro q
      induction q with
      | zero =>
        intro i bc bs hi
        refine VX9_shared_35 _ _ _ _ ⟨T.1, c_nodesInAll T ?_⟩
        simp only [jj_vi]
        rw [nI_leI (by omega) (by omega)]
        refine ⟨fun _ => ?_, fun c => by omega⟩
        rw [List.take_of_length_le (by unfold nks; rw [List.length_map]; omega)]
        exact HH
      | succ q ih =>
        intro i bc bs hi
        refine VX9_shared_35 _ _ _ _ ⟨T.1, c_nodesInAll T ?_⟩
        simp only [jj_vi]
        rw [nI_leI (by omega) (by omega)]
        refine ⟨fun c => by omega, fun _ => ?_⟩
        obtain ⟨nd, hnd⟩ : ∃ nd, (flat (tree l))[i]? = some nd := ⟨_, List.getElem?_eq_getElem (by omega)⟩
        obtain ⟨r, w, _, N⟩ := T.2.2.2.2.2.2.2.2.2.2.2 i nd hnd
        have nx := ih (i + 1) bc bs (by omega)
        have etk : (nks l).take (i + 1) = (nks l).take i ++ [nk l nd] := by
          rw [List.take_succ]
          have : (nks l)[i]? = some (nk l nd) := by unfold nks; rw [List.getElem?_map, hnd]; rfl
          rw [this]
          rfl
        rw [etk, List.countP_append, ← qa_1] at nx
        have tn := T.2.2.2.2.2.2.2.1
        have tn2 := T.2.2.2.2.2.2.2.2.1
        refine ⟨T.1, by rw [T.2.1]; exact T.2.2.2.1, ?_⟩
        rw [T.2.1, q_clamp (by omega)]
        refine ⟨vp_in_nI (by omega) (by omega), T'.1, c_hasSame T' (fun lv ns hlv nd' hnd' => ((tree_at l' hlv).1 nd' hnd').1) N (fun hy => ?_) (fun hy => ?_)⟩
        · refine ⟨fun c => absurd c (by decide), fun _ => ?_⟩
          have : nk l nd ∈ nks l' := by obtain ⟨nd', q1, q2⟩ := hy; rw [← q2]; exact List.mem_map_of_mem q1
          simp only [List.countP_cons, List.countP_nil, decide_eq_true this] at nx
          rw [qa_1, qa_1]
          rw [qa_1] at nx
          exact nx
        · refine ⟨fun _ => ?_, fun c => absurd rfl c⟩
          have : nk l nd ∉ nks l' := fun z => by
            obtain ⟨nd', q1, q2⟩ := List.mem_map.mp z
            exact hy ⟨nd', q1, q2⟩
          simp only [List.countP_cons, List.countP_nil, decide_eq_false this] at nx
          exact nx
    exact loop (flat (tree l)).length 0 _ _ (by omega)
  · have HH := H h2 R2 F2
    unfold a_shared at HH
    rw [trN e] at HH
    refine ⟨fun _ => ?_, fun _ => ⟨fun c => absurd rfl c, fun _ => ?_⟩⟩
    all_goals
      cases e2 : trAt s y u with
      | none => rw [e2] at HH; exact HH
      | some l => rw [e2] at HH; exact HH
  · have HH := H h3 R3 F3
    unfold a_shared at HH
    rw [trN e] at HH
    exact HH
  · have HH := H h R xF.rf
    unfold a_shared at HH
    rw [trN e] at HH
    exact HH
end JX5
