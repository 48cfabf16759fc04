/-! commits, places, trees: what calls answer -/
def cAt (s : St) (x : Int32) : Option Nat := match lim 60 x with
  | some k => if bt s.here k then some k else none
  | none => none
def pAt (s : St) (x : Int32) : Option Nat := if x = -1 then some 60 else cAt s x
def trAt (s : St) (x y : Int32) : Option (List Row) := match pAt s x, lim 3 y with
  | some p, some t => some (s.T p t)
  | _, _ => none
theorem cAt_some {s : St} {x : Int32} {k : Nat} (hw : s.wf) (h : cAt s x = some k) : x = nI k ∧ k < s.made ∧ bt s.here k = true ∧ lim 60 x = some k := by
  unfold cAt at h
  split at h
  · next j e =>
    split at h
    · next c =>
      cases h
      obtain ⟨a, b⟩ := lim_some (by decide) e
      exact ⟨a, hw.2.2.1 _ (by omega) c, c, e⟩
    · cases h
  · cases h
theorem pAt_some {s : St} {x : Int32} {k : Nat} (hw : s.wf) (h : pAt s x = some k) : (x = -1 ∧ k = 60) ∨ (x = nI k ∧ k < s.made ∧ cAt s x = some k ∧ x ≠ -1) := by
  unfold pAt at h
  split at h
  · next e => cases h; exact Or.inl ⟨e, rfl⟩
  · next e => obtain ⟨a, b, c, d⟩ := cAt_some hw h; exact Or.inr ⟨a, b, h, e⟩
theorem pAt_lt {s : St} {x : Int32} {k : Nat} (hw : s.wf) (h : pAt s x = some k) : (k < s.made ∨ k = 60) ∧ k < 61 := by
  have hm := hw.1.2
  rcases pAt_some hw h with ⟨_, e⟩ | ⟨_, e, _⟩
  · exact ⟨Or.inr e, by omega⟩
  · exact ⟨Or.inl e, by omega⟩
/-! nodes found by level and number -/
theorem fnd_skip (ns r : List Nd) {lv i p b : Nat} (h : ∀ nd ∈ ns, nd.1 = b) (hb : lv ≠ b) : fnd (ns ++ r) lv i p = fnd r lv i (p + ns.length) := by
  induction ns generalizing p with
  | nil => rfl
  | cons nd ns ih =>
    have e := h nd (by simp)
    rw [List.cons_append, fnd, if_neg (by omega), ih (fun x hx => h x (by simp [hx]))]
    congr 1
    simp only [List.length_cons]
    omega
theorem fnd_here (ns r : List Nd) {lv i p : Nat} (h : ∀ nd ∈ ns, nd.1 = lv) : fnd (ns ++ r) lv i p = if i < ns.length then some (p + i) else fnd r lv (i - ns.length) (p + ns.length) := by
  induction ns generalizing p i with
  | nil => simp
  | cons nd ns ih =>
    have e := h nd (by simp)
    rw [List.cons_append, fnd, if_pos e]
    by_cases h0 : i = 0
    · subst h0; simp
    · rw [if_neg h0, ih (fun x hx => h x (by simp [hx]))]
      simp only [List.length_cons]
      by_cases h1 : i - 1 < ns.length
      · rw [if_pos h1, if_pos (by omega)]; congr 1; omega
      · rw [if_neg h1, if_neg (by omega)]; congr 1 <;> omega
theorem fnd_none {r : List (List Nd)} {b : Nat} : ∀ {lv i p : Nat}, (∀ j ns, r[j]? = some ns → ∀ nd ∈ ns, nd.1 = b + j) → lv < b → fnd (flat r) lv i p = none := by
  induction r generalizing b with
  | nil => intro lv i p _ _; rfl
  | cons ns r ih =>
    intro lv i p h hb
    show fnd (ns ++ flat r) lv i p = none
    rw [fnd_skip ns (flat r) (b := b) (fun nd hnd => h 0 ns rfl nd hnd) (by omega)]
    exact ih (b := b + 1) (fun j ns' hj nd hnd => by rw [h (j + 1) ns' (by simpa using hj) nd hnd]; omega) (by omega)
theorem fnd_x {x : List (List Nd)} : ∀ {b lv i p : Nat}, (∀ j ns, x[j]? = some ns → ∀ nd ∈ ns, nd.1 = b + j) → b ≤ lv → (∀ q, fnd (flat x) lv i p = some q → ∃ nd, (x.getD (lv - b) [])[i]? = some nd ∧ p ≤ q ∧ (flat x)[q - p]? = some nd) ∧ (fnd (flat x) lv i p = none → (x.getD (lv - b) [])[i]? = none) := by
  induction x with
  | nil => intro b lv i p _ _; exact ⟨fun q h => by simp [flat, fnd] at h, fun _ => by simp⟩
  | cons ns r ih =>
    intro b lv i p h hb
    have hn : ∀ nd ∈ ns, nd.1 = b := fun nd hnd => h 0 ns rfl nd hnd
    have hr : ∀ j ns', r[j]? = some ns' → ∀ nd ∈ ns', nd.1 = (b + 1) + j := fun j ns' hj nd hnd => by rw [h (j + 1) ns' (by simpa using hj) nd hnd]; omega
    by_cases e : lv = b
    · subst e
      have e2 := fnd_here ns (flat r) (i := i) (p := p) hn
      have e3 : fnd (flat (ns :: r)) lv i p = fnd (ns ++ flat r) lv i p := rfl
      rw [e3, e2, Nat.sub_self]
      by_cases hi : i < ns.length
      · rw [if_pos hi]
        refine ⟨fun q hq => ?_, fun q => by cases q⟩
        cases hq
        refine ⟨ns[i], by simp [hi], by omega, ?_⟩
        show (ns ++ flat r)[p + i - p]? = _
        rw [Nat.add_sub_cancel_left, List.getElem?_append_left hi]
        simp [hi]
      · rw [if_neg hi, fnd_none (b := lv + 1) hr (by omega)]
        exact ⟨fun q hq => (by cases hq), fun _ => by simp; omega⟩
    · have e2 := fnd_skip ns (flat r) (i := i) (p := p) hn e
      have e3 : fnd (flat (ns :: r)) lv i p = fnd (ns ++ flat r) lv i p := rfl
      have e4 : (ns :: r).getD (lv - b) [] = r.getD (lv - (b + 1)) [] := by
        rw [show lv - b = (lv - (b + 1)) + 1 by omega]
        rfl
      obtain ⟨i1, i2⟩ := ih (b := b + 1) (lv := lv) (i := i) (p := p + ns.length) hr (by omega)
      rw [e3, e2, e4]
      refine ⟨fun q hq => ?_, i2⟩
      obtain ⟨nd, n1, n2, n3⟩ := i1 q hq
      refine ⟨nd, n1, by omega, ?_⟩
      show (ns ++ flat r)[q - p]? = _
      rw [List.getElem?_append_right (by omega), show q - p - ns.length = q - (p + ns.length) by omega]
      exact n3
def ndA (l : List Row) (lv i : Int32) : Option Nd := if 0 ≤ lv ∧ 0 ≤ i then ((tree l).getD (Int32.toNatClampNeg lv) [])[Int32.toNatClampNeg i]? else none
def topN (l : List Row) : Nd := (flat (tree l)).getD ((flat (tree l)).length - 1) (0, 0, 0, 0, 0)
def a_root (s : St) (x y : Int32) : Int64 := match trAt s x y with
  | none => 0
  | some l => (topN l).2.2.2.2
def a_height (s : St) (x y : Int32) : Int32 := match trAt s x y with
  | none => -5
  | some l => nI (tree l).length
def a_nodes (s : St) (x y lv : Int32) : Int32 := match trAt s x y with
  | none => -5
  | some l => match lim (tree l).length lv with
    | none => -5
    | some j => nI ((tree l).getD j []).length
def whatN (l : List Row) (nd : Nd) (w : Int32) : Int64 := match lim 4 w with
  | some 0 => Int32.toInt64 (nI nd.2.1)
  | some 1 => Int32.toInt64 (nI nd.2.2.2.1)
  | some 2 => nd.2.2.2.2
  | some _ => if nd.2.2.2.1 = 0 then nth else Int32.toInt64 (l.getD (nd.2.2.1 + nd.2.2.2.1 - 1) (0, 0, 0, 0)).1
  | none => 0
def a_node (s : St) (x y lv i w : Int32) : Int64 := match trAt s x y with
  | none => 0
  | some l => match ndA l lv i with
    | none => 0
    | some nd => whatN l nd w
def a_shared (s : St) (x y z : Int32) : Int32 := match trAt s x z, trAt s y z with
  | some l, some l' => nI ((nks l).countP (fun k => decide (k ∈ nks l')))
  | _, _ => -5
noncomputable def a_stored (s : St) : Int32 := nI (dct (fun _ => False) (sq (cS s.here true) (fun p => nk3 (s.T p)) 61 0))
section JP2
variable {m : Nat} {s : St} {h : jj_H} {Q : Value → jj_H → Prop}
theorem s_isCommit {x : Int32} (R : Rr h m s) (H1 : ∀ k, cAt s x = some k → Q (.int 1) h) (H0 : cAt s x = none → Q (.int 0) h) : jj_C mX10_isCommit 0 0 [.ref m, .int x] h Q := by
  refine EX10_isCommit _ _ fun d => ⟨fun c => H0 (by unfold cAt; rw [lim_no1 c]), fun c => ⟨fun c2 => H0 (by unfold cAt; rw [lim_no2 c2]), fun c2 => ⟨R.K, ?_⟩⟩⟩
  obtain ⟨k, hk⟩ := lim_of (n := 60) (by decide) c c2
  obtain ⟨e, hk2⟩ := lim_some (by decide) hk
  have hh : jL h 514 m 0 = s.here := R.g.1.2.1
  rw [hh, e, bt_sar (by omega)]
  rw [e] at hk H0 H1
  exact ⟨fun q => H0 (by unfold cAt; rw [hk]; simp [q]), fun q => H1 k (by unfold cAt; rw [hk]; simp; simpa using q)⟩
theorem s_placeOf {x : Int32} (R : Rr h m s) (hw : s.wf) (H1 : ∀ p, pAt s x = some p → Q (.int (nI p)) h) (H0 : pAt s x = none → Q (.int (-5)) h) : jj_C mX10_placeOf 0 0 [.ref m, .int x] h Q := by
  refine EX10_placeOf _ _ fun d => ⟨fun c => ⟨R.K, s_isCommit R (fun k hk => ?_) (fun hk => ?_)⟩, fun c => H1 60 (by unfold pAt; rw [if_pos c])⟩
  · refine ⟨fun c => absurd c (by decide), fun _ => ?_⟩
    have := H1 k (by unfold pAt; rw [if_neg c]; exact hk)
    rw [(cAt_some hw hk).1]
    exact this
  · exact ⟨fun _ => H0 (by unfold pAt; rw [if_neg c]; exact hk), fun c => absurd rfl c⟩
theorem neg_nI {k : Nat} (hk : k < 2147483648) : ¬ nI k < 0 := by rw [qt_0 hk]; exact Nat.not_lt_zero _
theorem nI_neg {k : Nat} (hk : k < 2147483648) {v : Int32} (hv : v < 0) : ¬ nI k = v := fun e => neg_nI hk (e ▸ hv)
theorem s_treeOf {x y : Int32} (R : Rr h m s) (hw : s.wf) (H1 : ∀ p t, pAt s x = some p → lim 3 y = some t → ∀ h', Rr h' m s → rfr h h' m → rTr h' m (3 * p + t) (tree (s.T p t)) → (p ≠ 60 → h' = h) → Q (.int (nI p)) h') (H0 : trAt s x y = none → Q (.int (-1)) h) : jj_C mX10_treeOf 0 0 [.ref m, .int x, .int y] h Q := by
  refine EX10_treeOf _ _ _ fun d => ⟨R.K, s_placeOf R hw (fun p hp => ?_) (fun hp => ?_)⟩
  · obtain ⟨hpl, hp6⟩ := pAt_lt hw hp
    refine ⟨fun c => absurd c (nI_neg (by omega) (by decide)), fun _ => s_isTable (fun t ht => ?_) (fun ht => ?_)⟩
    · obtain ⟨e0, ht3⟩ := lim_some (by decide) ht
      refine ⟨fun _ => ?_, fun c => absurd c (by decide)⟩
      simp (disch := omega) only [q_clamp, q_in, nI_leI, nI_ltI, nI_eq, ql_0, qL_0, qt_0, qT_0, qe_0, qc_0, qi_0, ql_1, qL_1, qt_1, qT_1, qe_1, qc_1, qi_1, ql_2, qL_2, qt_2, qT_2, qe_2, qc_2, qi_2, ql_3, qL_3, qt_3, qT_3, qe_3, qc_3, qi_3, ql_4, qL_4, qt_4, qT_4, qe_4, qc_4, qi_4, ql_6, qL_6, qt_6, qT_6, qe_6, qc_6, qi_6, ql_8, qL_8, qt_8, qT_8, qe_8, qc_8, qi_8, ql_10, qL_10, qt_10, qT_10, qe_10, qc_10, qi_10, ql_24, qL_24, qt_24, qT_24, qe_24, qc_24, qi_24, ql_60, qL_60, qt_60, qT_60, qe_60, qc_60, qi_60, ql_100, qL_100, qt_100, qT_100, qe_100, qc_100, qi_100, ql_200, qL_200, qt_200, qT_200, qe_200, qc_200, qi_200, ql_400, qL_400, qt_400, qT_400, qe_400, qc_400, qi_400, ql_600, qL_600, qt_600, qT_600, qe_600, qc_600, qi_600, ql_900, qL_900, qt_900, qT_900, qe_900, qc_900, qi_900, ql_1200, qL_1200, qt_1200, qT_1200, qe_1200, qc_1200, qi_1200, ql_65536, qL_65536, qt_65536, qT_65536, qe_65536, qc_65536, qi_65536]
      refine ⟨fun c => ?_, fun c => ⟨R.K, ?_⟩⟩
      · have hp' : p < s.made := by omega
        exact H1 p t hp ht h R rfr.rf (R.2.2.1 p t hp' ht3) (fun _ => rfl)
      · subst c
        rw [e0]
        refine s_cut (s := 60) R.1 (by omega) ht3 (R.2.1 60 (Or.inr rfl) t ht3) fun h2 T2 F2 => ?_
        exact H1 60 t hp ht h2 (R.fw hw (F2.w (by omega))) F2.fr T2 (fun q => absurd rfl q)
    · exact ⟨fun c => absurd rfl c, fun _ => H0 (by unfold trAt; rw [hp, ht])⟩
  · exact ⟨fun _ => H0 (by unfold trAt; rw [hp]), fun c => absurd rfl c⟩
end JP2
