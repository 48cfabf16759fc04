/-! every call keeps what holds of a state -/
theorem wf_put {s : St} (hw : s.wf) (x k c0 c1 c2 : Int32) : (a_put s x k c0 c1 c2).2.wf := by
  unfold a_put
  split
  · exact hw
  · next t ht =>
    have ht3 := (lim_some (by decide) ht).2
    have hT := hw.2.1 60 t (Or.inr rfl) ht3
    split
    · exact hw
    · split
      · exact hw
      · next c =>
        refine wk_wf hw (hT.1.ins _) ?_
        rw [len_ins]
        have h2 := hT.2
        cases e : lk (s.T 60 t) k with
        | none =>
          have : (s.T 60 t).length ≠ 200 := fun q => c ⟨q, by rw [e]; rfl⟩
          simp
          omega
        | some r => simp; exact h2
theorem wf_cell {s : St} (hw : s.wf) (x k c v : Int32) : (a_cell s x k c v).2.wf := by
  unfold a_cell
  split
  · next t j ht hj =>
    have ht3 := (lim_some (by decide) ht).2
    have hT := hw.2.1 60 t (Or.inr rfl) ht3
    split
    · exact hw
    · split
      · exact hw
      · refine wk_wf hw ?_ ?_
        · unfold colT
          split
          · exact hT.1.ins _
          · exact hT.1
        · unfold colT
          split
          · next r e =>
            rw [len_ins, updC_1, (lk_some e).2, e]
            exact hT.2
          · exact hT.2
  · exact hw
theorem wf_drop {s : St} (hw : s.wf) (x k : Int32) : (a_drop s x k).2.wf := by
  unfold a_drop
  split
  · exact hw
  · next t ht =>
    have ht3 := (lim_some (by decide) ht).2
    have hT := hw.2.1 60 t (Or.inr rfl) ht3
    split
    · exact hw
    · exact wk_wf hw (hT.1.del _) (Nat.le_trans (len_del _ _) hT.2)
theorem fls_ok {l : List Row} {f st : Int32} (h0 : Srt l) : ∀ (r k : Nat) (w : Int32) (l' : List Row), fSt l f st k l' → fSt l f st (k + r) (fls f st r k w l') := by
  intro r
  induction r with
  | zero => intro k w l' h; exact h
  | succ r ih =>
    intro k w l' h
    have := ih (k + 1) (lcg (lcg (lcg w))) _ (h.next h0 (lcg w) (lcg (lcg w)) (lcg (lcg (lcg w))))
    rw [show k + (r + 1) = k + 1 + r by omega]
    exact this
theorem wf_fill {s : St} (hw : s.wf) (x f st n w : Int32) : (a_fill s x f st n w).2.wf := by
  unfold a_fill
  split
  · next t r ht hr =>
    have ht3 := (lim_some (by decide) ht).2
    have hT := hw.2.1 60 t (Or.inr rfl) ht3
    split
    · exact hw
    · split
      · exact hw
      · split
        · exact hw
        · next c =>
          have := fls_ok (f := f) (st := st) hT.1 r 0 w _ (fSt.zero hT.1)
          rw [Nat.zero_add] at this
          refine wk_wf hw this.1 ?_
          rw [this.2.2]
          omega
  · exact hw
theorem sh_wf {s : St} (hw : s.wf) {b : Nat} {v : Int32} (hv : aCom v s.made) (hb : b = s.hand → v ≠ -1) (hl : v ≠ -1 → bt s.here (Int32.toNatClampNeg v) = true) : (s.sh b v).wf := by
  refine ⟨hw.1, hw.2.1, hw.2.2.1, hw.2.2.2.1, hw.2.2.2.2.1, fun x hx => ?_, ⟨hw.2.2.2.2.2.2.1.1, ?_, fun x hx hne => ?_, hw.2.2.2.2.2.2.1.2.2.2⟩, hw.2.2.2.2.2.2.2⟩
  · show aCom (if x = b then v else s.hd x) s.made
    split
    · exact hv
    · exact hw.2.2.2.2.2.1 x hx
  · show (if s.hand = b then v else s.hd s.hand) ≠ -1
    split
    · next e => exact hb e.symm
    · exact hw.2.2.2.2.2.2.1.2.1
  · have hne' : (if x = b then v else s.hd x) ≠ -1 := hne
    show bt s.here (Int32.toNatClampNeg (if x = b then v else s.hd x)) = true
    by_cases q : x = b
    · rw [if_pos q] at hne' ⊢; exact hl hne'
    · rw [if_neg q] at hne' ⊢; exact hw.2.2.2.2.2.2.1.2.2.1 x hx hne'
theorem wf_open {s : St} (hw : s.wf) (x : Int32) : (a_open s x).2.wf := by
  unfold a_open
  have hh := hand_ok hw
  split
  · exact hw
  · split
    · exact hw
    · split
      · exact sh_wf hw (Or.inr ⟨_, hh.1, hh.2.1⟩) (fun _ => hw.2.2.2.2.2.2.1.2.1) (head_here hw hh.2.2)
      · exact hw
theorem hand_wf {s : St} (hw : s.wf) {b : Nat} (hb : b < 6) (hne : s.hd b ≠ -1) : (s.set3 (s.hd, b)).wf := ⟨hw.1, hw.2.1, hw.2.2.1, hw.2.2.2.1, hw.2.2.2.2.1, hw.2.2.2.2.2.1, ⟨hb, hne, hw.2.2.2.2.2.2.1.2.2⟩, hw.2.2.2.2.2.2.2⟩
theorem wf_go {s : St} (hw : s.wf) (x : Int32) : (a_go s x).2.wf := by
  unfold a_go
  split
  · exact hw
  · next b hb =>
    obtain ⟨e, hb6, hne, hd1, hd2, _⟩ := bAt_some hw hb
    split
    · exact hw
    · split
      · exact wk3_wf (s := s.set3 (s.hd, b)) (p := s.hN b) (hand_wf hw hb6 hne) (Or.inl hd2)
      · exact hw
theorem wf_close {s : St} (hw : s.wf) (x : Int32) : (a_close s x).2.wf := by
  unfold a_close
  split
  · exact hw
  · split
    · exact hw
    · next c => exact sh_wf hw (Or.inl rfl) (fun e => absurd e c) (fun e => absurd rfl e)
theorem over_wf {s : St} (hw : s.wf) : s.over.wf := ⟨hw.1, hw.2.1, hw.2.2.1, hw.2.2.2.1, hw.2.2.2.2.1, hw.2.2.2.2.2.1, hw.2.2.2.2.2.2.1, ⟨Nat.zero_le _, fun q => absurd q (Nat.lt_irrefl _), fun _ => rfl, Nat.zero_le _, fun c hc => by simp [St.over, St.set4, St.cf] at hc⟩, hw.2.2.2.2.2.2.2.2⟩
theorem aCom.up {c : Int32} {n k : Nat} (h : aCom c n) (hk : n ≤ k) : aCom c k := h.imp id fun ⟨j, e, hj⟩ => ⟨j, e, by omega⟩
theorem more_wf {s : St} (hw : s.wf) (h60 : s.made ≠ 60) : (s.more.sh s.hand (nI s.made)).over.wf := by
  have hm := hw.1.2
  have hh := hand_ok hw
  refine over_wf ?_
  have hthr := hw.2.2.2.2.2.2.2.1.2.1
  have eA : ∀ i, i < s.made → s.more.an i = s.an i := fun i hi => by show (if i = s.made then _ else s.an i) = _; rw [if_neg (by omega)]
  have eM : s.more.an s.made = (shl s.made ||| s.an (s.hN s.hand)) ||| (if s.mg = 1 then s.an s.their else 0) := by show (if s.made = s.made then _ else _) = _; rw [if_pos rfl]
  have bM : ∀ i, i < 64 → bt (s.more.an s.made) i = true → i = s.made ∨ (∃ p, p < s.made ∧ bt (s.an p) i = true ∧ ∀ j, j < 64 → bt (s.an p) j = true → bt (s.more.an s.made) j = true) := by
    intro i hi hb
    rw [eM, bt_or, bt_or, Bool.or_eq_true, Bool.or_eq_true] at hb
    rcases hb with (hb | hb) | hb
    · unfold shl at hb
      rw [bt_shl (by omega) i hi] at hb
      exact Or.inl (by simpa using hb)
    · exact Or.inr ⟨_, hh.2.1, hb, fun j _ q => by rw [eM, bt_or, bt_or, q]; simp⟩
    · by_cases h1 : s.mg = 1
      · rw [if_pos h1] at hb
        exact Or.inr ⟨_, (hthr (by omega)).1, hb, fun j _ q => by rw [eM, if_pos h1, bt_or, q]; simp⟩
      · rw [if_neg h1, bt_0] at hb
        cases hb
  have hereM : ∀ k, bt s.here k = true → bt s.more.here k = true := fun k q => by
    show bt (s.here ||| shl s.made) k = true
    rw [bt_or, q, Bool.true_or]
  have hereN : bt s.more.here (Int32.toNatClampNeg (nI s.made)) = true := by
    show bt (s.here ||| shl s.made) (Int32.toNatClampNeg (nI s.made)) = true
    rw [q_clamp (by omega), bt_or]
    unfold shl
    rw [bt_shl (by omega) _ (by omega)]
    simp
  refine sh_wf (s := s.more) ⟨⟨by show 1 ≤ s.made + 1; omega, by show s.made + 1 ≤ 60; omega⟩, fun p t hp ht => ?_, fun c hc hb => ?_, fun c hc => ?_, fun c hc => ?_, fun b hb => ?_, ⟨hw.2.2.2.2.2.2.1.1, hw.2.2.2.2.2.2.1.2.1, fun b hb hne => hereM _ (hw.2.2.2.2.2.2.1.2.2.1 b hb hne), fun c i hc hi h1 h2 => ?_, fun c hc hne => ?_⟩, ⟨hw.2.2.2.2.2.2.2.1.1, fun q => ?_, hw.2.2.2.2.2.2.2.1.2.2⟩, hw.2.2.2.2.2.2.2.2.1, fun c hc hb => ?_, fun b hb => ?_⟩ (Or.inr ⟨_, rfl, by show s.made < s.made + 1; omega⟩) (fun _ => nI_m1 (by omega)) (fun _ => hereN)
  · show Srt (if p = s.made then s.T 60 t else s.T p t) ∧ (if p = s.made then s.T 60 t else s.T p t).length ≤ 200
    have hp' : p < s.made + 1 ∨ p = 60 := hp
    split
    · exact hw.2.1 60 t (Or.inr rfl) ht
    · exact hw.2.1 p t (by omega) ht
  · have hb' : bt (s.here ||| shl s.made) c = true := hb
    show c < s.made + 1
    rw [bt_or, Bool.or_eq_true] at hb'
    rcases hb' with q | q
    · have := hw.2.2.1 c hc q; omega
    · unfold shl at q
      rw [bt_shl (by omega) c hc] at q
      have : c = s.made := by simpa using q
      omega
  · have hc' : c < s.made + 1 := hc
    by_cases e : c = s.made
    · subst e
      refine ⟨?_, ?_, fun i hi hb => ?_, fun i j hi hj hb hb2 => ?_⟩
      · rw [eM, bt_or, bt_or]
        unfold shl
        rw [bt_shl (by omega) _ (by omega)]
        simp
      · rw [eM, bt_or, bt_or, (wf_an hw hh.2.1).2.1]; simp
      · rcases bM i hi hb with q | ⟨p, q1, q2, _⟩
        · omega
        · have := (wf_an hw q1).2.2.1 i hi q2; omega
      · rcases bM i hi hb with q | ⟨p, q1, q2, q3⟩
        · subst q; exact hb2
        · have hip := (wf_an hw q1).2.2.1 i hi q2
          rw [eA i (by omega)] at hb2
          exact q3 j hj ((wf_an hw q1).2.2.2 i j hi hj q2 hb2)
    · rw [eA c (by omega)]
      have w := wf_an hw (c := c) (by omega)
      refine ⟨w.1, w.2.1, w.2.2.1, fun i j hi hj hb hb2 => ?_⟩
      have hic := w.2.2.1 i hi hb
      rw [eA i (by omega)] at hb2
      exact w.2.2.2 i j hi hj hb hb2
  · have hc' : c < s.made + 1 := hc
    constructor
    · show aCom (if c = s.made then s.hd s.hand else s.fp c) c
      split
      · next e => rw [e]; exact Or.inr ⟨_, hh.1, hh.2.1⟩
      · exact (hw.2.2.2.2.1 c (by omega)).1
    · show aCom (if c = s.made then (if s.mg = 1 then nI s.their else -1) else s.sp c) c
      split
      · next e =>
        split
        · next e2 => rw [e]; exact Or.inr ⟨_, rfl, (hthr (by omega)).1⟩
        · exact Or.inl rfl
      · exact (hw.2.2.2.2.1 c (by omega)).2
  · exact (hw.2.2.2.2.2.1 b hb).up (by show s.made ≤ s.made + 1; omega)
  · have h1' : bt (s.here ||| shl s.made) c = true := h1
    have e1 : bt (s.more.an c) i = true := h2
    have hh2 := hh.2.1
    rw [bt_or, Bool.or_eq_true] at h1'
    rcases h1' with q | q
    · rw [eA c (hw.2.2.1 c hc q)] at e1
      exact hereM _ (an_here hw hc hi q e1)
    · unfold shl at q
      rw [bt_shl (by omega) c hc] at q
      have ec : c = s.made := by simpa using q
      rw [ec, eM, bt_or, bt_or, Bool.or_eq_true, Bool.or_eq_true] at e1
      rcases e1 with (z | z) | z
      · unfold shl at z
        rw [bt_shl (by omega) i hi] at z
        have ei : i = s.made := by simpa using z
        have hN := hereN
        rw [q_clamp (by omega)] at hN
        rw [ei]
        exact hN
      · exact hereM _ (an_here hw (by omega) hi (head_here hw hh.2.2 hw.2.2.2.2.2.2.1.2.1) z)
      · by_cases m1 : s.mg = 1
        · rw [if_pos m1] at z
          have t := hthr (by omega)
          exact hereM _ (an_here hw (by omega) hi t.2.2 z)
        · rw [if_neg m1, bt_0] at z
          cases z
  · have hc' : c < s.made + 1 := hc
    have hne' : (if c = s.made then s.hd s.hand else s.fp c) ≠ -1 := hne
    show bt (s.more.an c) (Int32.toNatClampNeg (if c = s.made then s.hd s.hand else s.fp c)) = true
    by_cases e : c = s.made
    · rw [if_pos e, e, eM, bt_or, bt_or]
      have : bt (s.an (s.hN s.hand)) (Int32.toNatClampNeg (s.hd s.hand)) = true := (wf_an hw hh.2.1).1
      rw [this]
      simp
    · rw [if_neg e] at hne' ⊢
      rw [eA c (by omega)]
      exact fp_an hw (by omega) hne'
  · have := hthr q
    exact ⟨by show s.their < s.made + 1; omega, by show s.old < s.made + 1; omega, hereM _ this.2.2⟩
  · have := hw.2.2.2.2.2.2.2.2.2.1 c hc hb
    show c < s.made + 1
    omega
  · exact (hw.2.2.2.2.2.2.2.2.2.2 b hb).up (by show s.made ≤ s.made + 1; omega)
theorem wf_commit {s : St} (hw : s.wf) : (a_commit s).2.wf := by
  unfold a_commit
  split
  · exact hw
  · split
    · exact hw
    · split
      · exact hw
      · next c => exact more_wf hw c
theorem wf_reset {s : St} (hw : s.wf) : (a_reset s).2.wf := over_wf (wk3_wf hw (Or.inl (hand_ok hw).2.1))
theorem sty_has {s : St} (hw : s.wf) {b : Nat} (hne : s.hd b ≠ -1) : ∀ k, b < k → k ≤ 6 → bt (s.sty k) (s.hN b) = true := by
  intro k
  induction k with
  | zero => intro hk; omega
  | succ k ih =>
    intro hk h6
    have e : s.sty (k + 1) = s.sty k ||| (if s.hd k = -1 then 0 else s.an (s.hN k)) := rfl
    rw [e, bt_or]
    by_cases q : b = k
    · subst q
      rw [if_neg hne, (wf_an hw (hN_ok hw (by omega) hne).2).1, Bool.or_true]
    · rw [ih (by omega) (by omega), Bool.true_or]
theorem sty_cl {s : St} (hw : s.wf) {c i : Nat} (hc : c < 64) (hi : i < 64) (h : bt (s.an c) i = true) : ∀ k, k ≤ 6 → bt (s.sty k) c = true → bt (s.sty k) i = true := by
  intro k
  induction k with
  | zero =>
    intro _ q
    have e : s.sty 0 = 0 := rfl
    rw [e, bt_0] at q
    cases q
  | succ k ih =>
    intro h6 q
    have e : s.sty (k + 1) = s.sty k ||| (if s.hd k = -1 then 0 else s.an (s.hN k)) := rfl
    rw [e, bt_or, Bool.or_eq_true] at q ⊢
    rcases q with q | q
    · exact Or.inl (ih (by omega) q)
    · by_cases z : s.hd k = -1
      · rw [if_pos z, bt_0] at q
        cases q
      · rw [if_neg z] at q ⊢
        exact Or.inr ((wf_an hw (hN_ok hw (by omega) z).2).2.2.2 c i hc hi q h)
theorem wf_sweep {s : St} (hw : s.wf) : (a_sweep s).2.wf := by
  unfold a_sweep
  split
  · exact hw
  · next hg =>
    refine ⟨hw.1, hw.2.1, fun c hc hb => ?_, hw.2.2.2.1, hw.2.2.2.2.1, hw.2.2.2.2.2.1, ⟨hw.2.2.2.2.2.2.1.1, hw.2.2.2.2.2.2.1.2.1, fun b hb hne => ?_, fun c i hc hi h1 h2 => ?_, hw.2.2.2.2.2.2.1.2.2.2.2⟩, ⟨hw.2.2.2.2.2.2.2.1.1, fun q => absurd q hg, hw.2.2.2.2.2.2.2.1.2.2⟩, hw.2.2.2.2.2.2.2.2⟩
    · have hb' : bt (s.here &&& s.sty 6) c = true := hb
      rw [bt_and, Bool.and_eq_true] at hb'
      exact hw.2.2.1 c hc hb'.1
    · show bt (s.here &&& s.sty 6) (s.hN b) = true
      rw [bt_and, head_here hw hb hne, sty_has hw hne 6 hb (Nat.le_refl _)]
      rfl
    · have h1' : bt (s.here &&& s.sty 6) c = true := h1
      have h2' : bt (s.an c) i = true := h2
      show bt (s.here &&& s.sty 6) i = true
      rw [bt_and, Bool.and_eq_true] at h1' ⊢
      exact ⟨an_here hw hc hi h1'.1 h2', sty_cl hw hc hi h2' 6 (Nat.le_refl _) h1'.2⟩
theorem trAt_len {s : St} (hw : s.wf) {x y : Int32} {l : List Row} (h : trAt s x y = some l) : l.length ≤ 200 ∧ Srt l := by
  unfold trAt at h
  split at h
  · next p t hp ht =>
    cases h
    have := hw.2.1 p t (pAt_lt hw hp).1 (lim_some (by decide) ht).2
    exact ⟨this.2, this.1⟩
  · cases h
theorem wf_diff {s : St} (hw : s.wf) (x y z : Int32) : (a_diff s x y z).2.wf := by
  unfold a_diff
  split
  · next a b ha hb =>
    have h1 := (trAt_len hw ha).1
    have h2 := (trAt_len hw hb).1
    have h3 := dif_len (a.length + b.length) a b
    exact ⟨hw.1, hw.2.1, hw.2.2.1, hw.2.2.2.1, hw.2.2.2.2.1, hw.2.2.2.2.2.1, hw.2.2.2.2.2.2.1, hw.2.2.2.2.2.2.2.1, by show (difT a b).length ≤ 400; unfold difT; omega, hw.2.2.2.2.2.2.2.2.2⟩
  · exact hw
theorem mgA_ok {o u h : Nat → List Row} (ho : ∀ t, t < 3 → Srt (o t) ∧ (o t).length ≤ 200) (hu : ∀ t, t < 3 → Srt (u t) ∧ (u t).length ≤ 200) (hh : ∀ t, t < 3 → Srt (h t) ∧ (h t).length ≤ 200) : ∀ (r t : Nat) (res : Nat → List Row) (cf : List Cf), t + r = 3 → (∀ x, x < t → Srt (res x) ∧ (res x).length ≤ 200) → 2 * cf.length ≤ 600 * t → (∀ c ∈ cf, c.1 < 3) → ∀ q, mgA o u h r t res cf = some q → (∀ x, x < 3 → Srt (q.1 x) ∧ (q.1 x).length ≤ 200) ∧ q.2.length ≤ 900 ∧ ∀ c ∈ q.2, c.1 < 3 := by
  intro r
  induction r with
  | zero =>
    intro t res cf ht hres hcf hc q e
    cases e
    exact ⟨fun x hx => hres x (by omega), by show cf.length ≤ 900; omega, hc⟩
  | succ r ih =>
    intro t res cf ht hres hcf hc q e
    rw [mgA] at e
    cases e1 : mg3 t ((o t).length + (u t).length + (h t).length) (o t) (u t) (h t) [] cf with
    | none => rw [e1] at e; cases e
    | some p =>
      rw [e1] at e
      simp only at e
      have a := ho t (by omega)
      have b := hu t (by omega)
      have c := hh t (by omega)
      obtain ⟨m1, m2, e2, m3, m4, m5⟩ := mg3_ok t _ _ _ _ [] cf (fun _ => True) a.1 b.1 c.1 Srt.nil (by simp) (fun r hr => by simp at hr) p e1
      refine ih (t + 1) _ p.2 (by omega) (fun x hx => ?_) ?_ (fun y hy => ?_) q e
      · show Srt (if x = t then p.1 else res x) ∧ (if x = t then p.1 else res x).length ≤ 200
        split
        · exact ⟨m1, m2⟩
        · exact hres x (by omega)
      · rw [m3, List.length_append]
        omega
      · rw [m3] at hy
        rcases List.mem_append.mp hy with z | z
        · exact hc y z
        · rw [m4 y z]; omega
theorem wf_tog {s : St} (hw : s.wf) {po ph kd : Nat} (hpo : po < s.made) (hph : ph < s.made) (hhe : bt s.here ph = true) (hkd : kd = 1 ∨ kd = 2) : (a_tog s po ph kd).2.wf := by
  unfold a_tog
  split
  · exact hw
  · next q e =>
    have hT := fun p (hp : p < s.made) t (ht : t < 3) => hw.2.1 p t (Or.inl hp) ht
    obtain ⟨q1, q2, q3⟩ := mgA_ok (hT po hpo) (hT _ (hand_ok hw).2.1) (hT ph hph) 3 0 _ _ (by omega) (fun x hx => by omega) (by simp) (fun c hc => by simp at hc) q e
    refine ⟨hw.1, fun p t hp ht => ?_, hw.2.2.1, hw.2.2.2.1, hw.2.2.2.2.1, hw.2.2.2.2.2.1, hw.2.2.2.2.2.2.1, ⟨by show kd ≤ 2; omega, fun _ => ⟨hph, hpo, hhe⟩, fun z => (by have : kd = 0 := z; omega), q2, q3⟩, hw.2.2.2.2.2.2.2.2⟩
    show Srt (if p = 60 then q.1 t else s.T p t) ∧ (if p = 60 then q.1 t else s.T p t).length ≤ 200
    split
    · exact q1 t ht
    · exact hw.2.1 p t hp ht
theorem wf_merge {s : St} (hw : s.wf) (x : Int32) : (a_merge s x).2.wf := by
  unfold a_merge
  split
  · exact hw
  · next b hb =>
    obtain ⟨e, hb6, hne, hd1, hd2, _⟩ := bAt_some hw hb
    have hh := hand_ok hw
    have hbs := bas_ok hw hh.2.1 hd2
    split
    · exact hw
    · split
      · exact hw
      · split
        · exact hw
        · split
          · exact wk3_wf (s := s.sh s.hand (s.hd b)) (p := s.hN b) (sh_wf hw (Or.inr ⟨_, hd1, hd2⟩) (fun _ => hne) (head_here hw hb6)) (Or.inl hd2)
          · exact wf_tog hw (by omega) hd2 (head_here hw hb6 hne) (Or.inl rfl)
theorem wf_change {s : St} (hw : s.wf) (x : Int32) (back : Bool) : (a_change s x back).2.wf := by
  unfold a_change
  split
  · exact hw
  · next c hc =>
    obtain ⟨e, hc2, hc3, _⟩ := cAt_some hw hc
    split
    · exact hw
    · next nb =>
      have f := fN_ok hw hc2 (fun q => nb (Or.inl q))
      split
      · exact hw
      · split
        · exact hw
        · split
          · exact wf_tog hw hc2 f.2 (fN_here hw hc2 hc3 (fun q => nb (Or.inl q))) (Or.inr rfl)
          · exact wf_tog hw f.2 hc2 hc3 (Or.inr rfl)
theorem cls_wf {s : St} (hw : s.wf) {j : Nat} (hj : j < s.cf.length) : (s.cls j).wf := by
  have hc := hw.2.2.2.2.2.2.2.1
  have hmg := mg_of_cf hw hj
  refine ⟨hw.1, hw.2.1, hw.2.2.1, hw.2.2.2.1, hw.2.2.2.2.1, hw.2.2.2.2.2.1, hw.2.2.2.2.2.2.1, ⟨hc.1, hc.2.1, fun z => (by have : s.mg = 0 := z; omega), ?_, fun c hc' => ?_⟩, hw.2.2.2.2.2.2.2.2⟩
  · show (s.cf.set j _).length ≤ 900
    rw [List.length_set]
    exact hc.2.2.2.1
  · have hc2 : c ∈ s.cf.set j (s.cft j, s.cfk j, false) := hc'
    rcases List.mem_or_eq_of_mem_set hc2 with z | z
    · exact hc.2.2.2.2 c z
    · rw [z]; exact hc.2.2.2.2 (s.cft j, s.cfk j, s.cfo j) (List.mem_of_getElem? (cf_at hj))
theorem wf_settle {s : St} (hw : s.wf) (i w : Int32) : (a_settle s i w).2.wf := by
  unfold a_settle
  split
  · next j k hj hk =>
    have hl : s.cf.length ≤ 900 := hw.2.2.2.2.2.2.2.1.2.2.2.1
    obtain ⟨e1, hj2⟩ := lim_some (by omega) hj
    have ht3 : s.cft j < 3 := hw.2.2.2.2.2.2.2.1.2.2.2.2 _ (List.mem_of_getElem? (cf_at hj2))
    have hT := hw.2.1 60 (s.cft j) (Or.inr rfl) ht3
    split
    · exact cls_wf (s := s.wk (s.cft j) _) (wk_wf hw (hT.1.del _) (Nat.le_trans (len_del _ _) hT.2)) hj2
    · next r hr =>
      have hrk : r.1 = s.cfk j := (lk_some hr).2
      split
      · exact hw
      · next c =>
        refine cls_wf (s := s.wk (s.cft j) _) (wk_wf hw (hT.1.ins _) ?_) hj2
        rw [len_ins, hrk]
        cases e : lk (s.T 60 (s.cft j)) (s.cfk j) with
        | none =>
          have : (s.T 60 (s.cft j)).length ≠ 200 := fun q => c ⟨q, by rw [e]; rfl⟩
          have h2 := hT.2
          simp
          omega
        | some r => simp; exact hT.2
  · exact hw
theorem wf_send {s : St} (hw : s.wf) (x : Int32) : (a_send s x).2.wf := by
  unfold a_send
  split
  · exact hw
  · next b hb =>
    obtain ⟨e, hb6, hne, hd1, hd2, _⟩ := bAt_some hw hb
    split
    · exact hw
    · refine set6_wf hw (thr_or hw hd2) fun y hy => ?_
      show aCom (if y = b then s.hd b else s.th y) s.made
      split
      · exact Or.inr ⟨_, hd1, hd2⟩
      · exact hw.2.2.2.2.2.2.2.2.2.2 y hy
theorem wf_fetch {s : St} (hw : s.wf) (x : Int32) : (a_fetch s x).2.wf := by
  unfold a_fetch
  split
  · exact hw
  · next b hb =>
    have hb6 := (lim_some (by decide) hb).2
    split
    · exact hw
    · next q =>
      have t2 := (tN_ok hw hb6 q).2
      split
      · exact hw
      · split
        · exact hw
        · show (if b = s.hand then (s.ftc b).wk3 (s.T (s.tN b)) else s.ftc b).wf
          split
          · exact wk3_wf (s := s.ftc b) (p := s.tN b) (ftc_wf hw hb6 q) (Or.inl t2)
          · exact ftc_wf hw hb6 q
