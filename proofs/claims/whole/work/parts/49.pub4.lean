/-! branches and commits: what calls answer and leave -/
def bAt (s : St) (x : Int32) : Option Nat := match lim 6 x with
  | some b => if s.hd b = -1 then none else some b
  | none => none
def St.hN (s : St) (b : Nat) : Nat := Int32.toNatClampNeg (s.hd b)
def St.cln (s : St) : Bool := decide (s.T 60 0 = s.T (s.hN s.hand) 0 ∧ s.T 60 1 = s.T (s.hN s.hand) 1 ∧ s.T 60 2 = s.T (s.hN s.hand) 2)
theorem cln_iff (s : St) : s.cln = true ↔ ∀ t, t < 3 → s.T 60 t = s.T (s.hN s.hand) t := by
  unfold St.cln
  rw [decide_eq_true_eq]
  constructor
  · rintro ⟨a, b, c⟩ t ht
    rcases (show t = 0 ∨ t = 1 ∨ t = 2 by omega) with e | e | e <;> subst e <;> assumption
  · intro a
    exact ⟨a 0 (by omega), a 1 (by omega), a 2 (by omega)⟩
theorem hN_ok {s : St} (hw : s.wf) {b : Nat} (hb : b < 6) (h : s.hd b ≠ -1) : s.hd b = nI (s.hN b) ∧ s.hN b < s.made := by
  rcases hw.2.2.2.2.2.1 b hb with e | ⟨k, e, hk⟩
  · exact absurd e h
  · have hm := hw.1.2
    have : s.hN b = k := by unfold St.hN; rw [e, q_clamp (by omega)]
    rw [this]
    exact ⟨e, hk⟩
theorem bAt_some {s : St} (hw : s.wf) {x : Int32} {b : Nat} (h : bAt s x = some b) : x = nI b ∧ b < 6 ∧ s.hd b ≠ -1 ∧ s.hd b = nI (s.hN b) ∧ s.hN b < s.made ∧ lim 6 x = some b := by
  unfold bAt at h
  split at h
  · next e =>
    split at h
    · cases h
    · next c =>
      cases h
      obtain ⟨a, b⟩ := lim_some (by decide) e
      exact ⟨a, b, c, (hN_ok hw b c).1, (hN_ok hw b c).2, e⟩
  · cases h
theorem hand_ok {s : St} (hw : s.wf) : s.hd s.hand = nI (s.hN s.hand) ∧ s.hN s.hand < s.made ∧ s.hand < 6 := ⟨(hN_ok hw hw.2.2.2.2.2.2.1.1 hw.2.2.2.2.2.2.1.2.1).1, (hN_ok hw hw.2.2.2.2.2.2.1.1 hw.2.2.2.2.2.2.1.2.1).2, hw.2.2.2.2.2.2.1.1⟩
theorem head_here {s : St} (hw : s.wf) {b : Nat} (hb : b < 6) (hne : s.hd b ≠ -1) : bt s.here (s.hN b) = true := hw.2.2.2.2.2.2.1.2.2.1 b hb hne
theorem an_here {s : St} (hw : s.wf) {c i : Nat} (hc : c < 64) (hi : i < 64) (h : bt s.here c = true) (ha : bt (s.an c) i = true) : bt s.here i = true := hw.2.2.2.2.2.2.1.2.2.2.1 c i hc hi h ha
theorem fp_an {s : St} (hw : s.wf) {c : Nat} (hc : c < s.made) (h : s.fp c ≠ -1) : bt (s.an c) (Int32.toNatClampNeg (s.fp c)) = true := hw.2.2.2.2.2.2.1.2.2.2.2 c hc h
theorem cAt_nI {s : St} {k : Nat} (hk : k < 60) (hb : bt s.here k = true) : cAt s (nI k) = some k := by
  unfold cAt
  rw [lim_nI (by decide) hk]
  simp only
  rw [if_pos hb]
def a_open (s : St) (x : Int32) : Int32 × St := match lim 6 x with
  | none => (-5, s)
  | some b => if 0 < s.mg then (-3, s) else if s.hd b = -1 then (s.hd s.hand, s.sh b (s.hd s.hand)) else (-1, s)
def a_go (s : St) (x : Int32) : Int32 × St := match bAt s x with
  | none => (-5, s)
  | some b => if 0 < s.mg then (-3, s) else if s.cln then (s.hd b, (s.set3 (s.hd, b)).wk3 (s.T (s.hN b))) else (-4, s)
def a_close (s : St) (x : Int32) : Int32 × St := match bAt s x with
  | none => (-5, s)
  | some b => if b = s.hand then (-5, s) else (s.hd b, s.sh b (-1))
def a_head (s : St) (x : Int32) : Int32 := match bAt s x with
  | none => -5
  | some b => s.hd b
def opn (s : St) : Nat := s.cf.countP (fun c => c.2.2)
def shl (c : Nat) : Int64 := 1 <<< (Int32.toInt64 (nI c) &&& 63)
def St.over (s : St) : St := s.set4 (0, s.their, s.old, [])
/-- the state with the work as the next commit -/
def St.more (s : St) : St := ((s.set1 (fun p t => if p = s.made then s.T 60 t else s.T p t)).set2 (s.made + 1, s.here ||| shl s.made, (fun c => if c = s.made then s.hd s.hand else s.fp c), (fun c => if c = s.made then (if s.mg = 1 then nI s.their else -1) else s.sp c), (fun c => if c = s.made then (shl s.made ||| s.an (s.hN s.hand)) ||| (if s.mg = 1 then s.an s.their else 0) else s.an c)))
def a_commit (s : St) : Int32 × St := if 0 < opn s then (-3, s) else if s.mg = 0 ∧ s.cln then (-1, s) else if s.made = 60 then (-2, s) else (nI s.made, (s.more.sh s.hand (nI s.made)).over)
def a_parent (s : St) (x i : Int32) : Int32 := match cAt s x with
  | none => -5
  | some c => if i = 0 then s.fp c else if i = 1 then s.sp c else -1
def a_ancestors (s : St) (x : Int32) : Int32 := match cAt s x with
  | none => -5
  | some c => nI (pc (s.an c) 60)
def gr (x : Int64) : Nat → Nat
  | 0 => 0
  | k + 1 => if bt x k then k else gr x k
def St.bas (s : St) (c d : Nat) : Nat := gr (s.an c &&& s.an d) 60
def a_base (s : St) (x y : Int32) : Int32 := match cAt s x, cAt s y with
  | some c, some d => nI (s.bas c d)
  | _, _ => -5
def a_reset (s : St) : Int32 × St := (if 0 < s.mg ∨ s.cln = false then 1 else 0, (s.wk3 (s.T (s.hN s.hand))).over)
def St.sty (s : St) : Nat → Int64
  | 0 => 0
  | b + 1 => s.sty b ||| (if s.hd b = -1 then 0 else s.an (s.hN b))
def a_sweep (s : St) : Int32 × St := if 0 < s.mg then (-3, s) else (nI (pc (s.here &&& (s.sty 6 ^^^ (-1))) 60), s.set2 (s.made, s.here &&& s.sty 6, s.fp, s.sp, s.an))
section JP4
variable {m : Nat} {s : St} {h : jj_H} {Q : Value → jj_H → Prop}
theorem s_isBranch {x : Int32} (R : Rr h m s) (H1 : ∀ b, bAt s x = some b → Q (.int 1) h) (H0 : bAt s x = none → Q (.int 0) h) : jj_C mX10_isBranch 0 0 [.ref m, .int x] h Q := by
  refine EX10_isBranch _ _ fun d => s_isNumber (fun b hb => ?_) (fun hb => ?_)
  · obtain ⟨e, hb6⟩ := lim_some (by decide) hb
    refine ⟨fun c => absurd c (by decide), fun _ => ?_⟩
    have M := R.1
    have hv : jI h 1000 (m + 16) b = s.hd b := R.g.2.1.1 b hb6
    rw [e]
    simp (disch := omega) only [(rM_k M), (rM_r501 M), (rM_k1 M), (rM_n1 M), (rM_r502 M), (rM_k2 M), (rM_n2 M), (rM_r503 M), (rM_k3 M), (rM_n3 M), (rM_r504 M), (rM_k4 M), (rM_n4 M), (rM_r505 M), (rM_k5 M), (rM_n5 M), (rM_r506 M), (rM_k6 M), (rM_n6 M), (rM_r507 M), (rM_k7 M), (rM_n7 M), (rM_r508 M), (rM_k8 M), (rM_n8 M), (rM_r509 M), (rM_k9 M), (rM_n9 M), (rM_r510 M), (rM_k10 M), (rM_n10 M), (rM_r511 M), (rM_k11 M), (rM_n11 M), (rM_r512 M), (rM_k12 M), (rM_n12 M), (rM_r515 M), (rM_k13 M), (rM_n13 M), (rM_r516 M), (rM_k14 M), (rM_n14 M), (rM_r517 M), (rM_k15 M), (rM_n15 M), (rM_r518 M), (rM_k16 M), (rM_n16 M), (rM_r524 M), (rM_k17 M), (rM_n17 M), (rM_r525 M), (rM_k18 M), (rM_n18 M), (rM_r526 M), (rM_k19 M), (rM_n19 M), (rM_r528 M), (rM_k20 M), (rM_n20 M), (rM_r529 M), (rM_k21 M), (rM_n21 M), (rM_r531 M), (rM_k22 M), (rM_n22 M), (rM_r532 M), (rM_k23 M), (rM_n23 M), (rM_r533 M), (rM_k24 M), (rM_n24 M), q_clamp, q_in, nI_leI, nI_ltI, nI_eq, ql_0, qL_0, qt_0, qT_0, qe_0, qc_0, qi_0, ql_1, qL_1, qt_1, qT_1, qe_1, qc_1, qi_1, ql_2, qL_2, qt_2, qT_2, qe_2, qc_2, qi_2, ql_3, qL_3, qt_3, qT_3, qe_3, qc_3, qi_3, ql_4, qL_4, qt_4, qT_4, qe_4, qc_4, qi_4, ql_6, qL_6, qt_6, qT_6, qe_6, qc_6, qi_6, ql_8, qL_8, qt_8, qT_8, qe_8, qc_8, qi_8, ql_10, qL_10, qt_10, qT_10, qe_10, qc_10, qi_10, ql_24, qL_24, qt_24, qT_24, qe_24, qc_24, qi_24, ql_60, qL_60, qt_60, qT_60, qe_60, qc_60, qi_60, ql_100, qL_100, qt_100, qT_100, qe_100, qc_100, qi_100, ql_200, qL_200, qt_200, qT_200, qe_200, qc_200, qi_200, ql_400, qL_400, qt_400, qT_400, qe_400, qc_400, qi_400, ql_600, qL_600, qt_600, qT_600, qe_600, qc_600, qi_600, ql_900, qL_900, qt_900, qT_900, qe_900, qc_900, qi_900, ql_1200, qL_1200, qt_1200, qT_1200, qe_1200, qc_1200, qi_1200, ql_65536, qL_65536, qt_65536, qT_65536, qe_65536, qc_65536, qi_65536, hv, true_and, and_true, eq_self, forall_eq, forall_eq_apply_imp_iff]
    exact ⟨fun c => H0 (by unfold bAt; rw [hb]; simp [c]), fun c => H1 b (by unfold bAt; rw [hb]; simp [c])⟩
  · exact ⟨fun _ => H0 (by unfold bAt; rw [hb]), fun c => absurd rfl c⟩
theorem s_isClean (R : Rr h m s) (hw : s.wf) (H1 : s.cln = true → Q (.int 1) h) (H0 : s.cln = false → Q (.int 0) h) : jj_C mX10_isClean 0 0 [.ref m] h Q := by
  refine EX10_isClean _ fun d => ?_
  obtain ⟨a, b, c⟩ := hand_ok hw
  have hm := hw.1.2
  have M := R.1
  have hv : jI h 1000 (m + 16) s.hand = nI (s.hN s.hand) := (R.g.2.1.1 s.hand c).trans a
  have hh : jI h 519 m 0 = nI s.hand := R.g.2.1.2
  simp (disch := omega) only [(rM_k M), (rM_r501 M), (rM_k1 M), (rM_n1 M), (rM_r502 M), (rM_k2 M), (rM_n2 M), (rM_r503 M), (rM_k3 M), (rM_n3 M), (rM_r504 M), (rM_k4 M), (rM_n4 M), (rM_r505 M), (rM_k5 M), (rM_n5 M), (rM_r506 M), (rM_k6 M), (rM_n6 M), (rM_r507 M), (rM_k7 M), (rM_n7 M), (rM_r508 M), (rM_k8 M), (rM_n8 M), (rM_r509 M), (rM_k9 M), (rM_n9 M), (rM_r510 M), (rM_k10 M), (rM_n10 M), (rM_r511 M), (rM_k11 M), (rM_n11 M), (rM_r512 M), (rM_k12 M), (rM_n12 M), (rM_r515 M), (rM_k13 M), (rM_n13 M), (rM_r516 M), (rM_k14 M), (rM_n14 M), (rM_r517 M), (rM_k15 M), (rM_n15 M), (rM_r518 M), (rM_k16 M), (rM_n16 M), (rM_r524 M), (rM_k17 M), (rM_n17 M), (rM_r525 M), (rM_k18 M), (rM_n18 M), (rM_r526 M), (rM_k19 M), (rM_n19 M), (rM_r528 M), (rM_k20 M), (rM_n20 M), (rM_r529 M), (rM_k21 M), (rM_n21 M), (rM_r531 M), (rM_k22 M), (rM_n22 M), (rM_r532 M), (rM_k23 M), (rM_n23 M), (rM_r533 M), (rM_k24 M), (rM_n24 M), q_clamp, q_in, nI_leI, nI_ltI, nI_eq, ql_0, qL_0, qt_0, qT_0, qe_0, qc_0, qi_0, ql_1, qL_1, qt_1, qT_1, qe_1, qc_1, qi_1, ql_2, qL_2, qt_2, qT_2, qe_2, qc_2, qi_2, ql_3, qL_3, qt_3, qT_3, qe_3, qc_3, qi_3, ql_4, qL_4, qt_4, qT_4, qe_4, qc_4, qi_4, ql_6, qL_6, qt_6, qT_6, qe_6, qc_6, qi_6, ql_8, qL_8, qt_8, qT_8, qe_8, qc_8, qi_8, ql_10, qL_10, qt_10, qT_10, qe_10, qc_10, qi_10, ql_24, qL_24, qt_24, qT_24, qe_24, qc_24, qi_24, ql_60, qL_60, qt_60, qT_60, qe_60, qc_60, qi_60, ql_100, qL_100, qt_100, qT_100, qe_100, qc_100, qi_100, ql_200, qL_200, qt_200, qT_200, qe_200, qc_200, qi_200, ql_400, qL_400, qt_400, qT_400, qe_400, qc_400, qi_400, ql_600, qL_600, qt_600, qT_600, qe_600, qc_600, qi_600, ql_900, qL_900, qt_900, qT_900, qe_900, qc_900, qi_900, ql_1200, qL_1200, qt_1200, qT_1200, qe_1200, qc_1200, qi_1200, ql_65536, qL_65536, qt_65536, qT_65536, qe_65536, qc_65536, qi_65536, hh, hv, true_and, and_true, eq_self, forall_eq, forall_eq_apply_imp_iff]
  refine s_isAlike (s := 60) M (by omega) (by omega) (R.2.1 60 (Or.inr rfl)) (R.2.1 (s.hN s.hand) (Or.inl b)) (fun q => ⟨Or.inr rfl, H1 ((cln_iff s).mpr q)⟩) (fun q => ⟨Or.inl rfl, H0 ?_⟩)
  cases e : s.cln with
  | false => rfl
  | true => exact absurd ((cln_iff s).mp e) q
theorem r_head {x : Int32} (R : Rr h m s) (hw : s.wf) (H : ∀ h', Rr h' m s → rfr h h' m → Q (.int (a_head s x)) h') : jj_C mX10_head 0 0 [.ref m, .int x] h Q := by
  refine EX10_head _ _ fun d => r_start R fun h1 R1 F1 => ?_
  have HH := H h1 R1 F1
  refine s_isBranch R1 (fun b hb => ?_) (fun hb => ?_)
  · obtain ⟨e, hb6, _⟩ := bAt_some hw hb
    refine ⟨fun c => absurd c (by decide), fun _ => ?_⟩
    have M := R1.1
    have hv : jI h1 1000 (m + 16) b = s.hd b := R1.g.2.1.1 b hb6
    simp only [a_head, hb] at HH
    rw [e]
    simp (disch := omega) only [(rM_k M), (rM_r501 M), (rM_k1 M), (rM_n1 M), (rM_r502 M), (rM_k2 M), (rM_n2 M), (rM_r503 M), (rM_k3 M), (rM_n3 M), (rM_r504 M), (rM_k4 M), (rM_n4 M), (rM_r505 M), (rM_k5 M), (rM_n5 M), (rM_r506 M), (rM_k6 M), (rM_n6 M), (rM_r507 M), (rM_k7 M), (rM_n7 M), (rM_r508 M), (rM_k8 M), (rM_n8 M), (rM_r509 M), (rM_k9 M), (rM_n9 M), (rM_r510 M), (rM_k10 M), (rM_n10 M), (rM_r511 M), (rM_k11 M), (rM_n11 M), (rM_r512 M), (rM_k12 M), (rM_n12 M), (rM_r515 M), (rM_k13 M), (rM_n13 M), (rM_r516 M), (rM_k14 M), (rM_n14 M), (rM_r517 M), (rM_k15 M), (rM_n15 M), (rM_r518 M), (rM_k16 M), (rM_n16 M), (rM_r524 M), (rM_k17 M), (rM_n17 M), (rM_r525 M), (rM_k18 M), (rM_n18 M), (rM_r526 M), (rM_k19 M), (rM_n19 M), (rM_r528 M), (rM_k20 M), (rM_n20 M), (rM_r529 M), (rM_k21 M), (rM_n21 M), (rM_r531 M), (rM_k22 M), (rM_n22 M), (rM_r532 M), (rM_k23 M), (rM_n23 M), (rM_r533 M), (rM_k24 M), (rM_n24 M), q_clamp, q_in, nI_leI, nI_ltI, nI_eq, ql_0, qL_0, qt_0, qT_0, qe_0, qc_0, qi_0, ql_1, qL_1, qt_1, qT_1, qe_1, qc_1, qi_1, ql_2, qL_2, qt_2, qT_2, qe_2, qc_2, qi_2, ql_3, qL_3, qt_3, qT_3, qe_3, qc_3, qi_3, ql_4, qL_4, qt_4, qT_4, qe_4, qc_4, qi_4, ql_6, qL_6, qt_6, qT_6, qe_6, qc_6, qi_6, ql_8, qL_8, qt_8, qT_8, qe_8, qc_8, qi_8, ql_10, qL_10, qt_10, qT_10, qe_10, qc_10, qi_10, ql_24, qL_24, qt_24, qT_24, qe_24, qc_24, qi_24, ql_60, qL_60, qt_60, qT_60, qe_60, qc_60, qi_60, ql_100, qL_100, qt_100, qT_100, qe_100, qc_100, qi_100, ql_200, qL_200, qt_200, qT_200, qe_200, qc_200, qi_200, ql_400, qL_400, qt_400, qT_400, qe_400, qc_400, qi_400, ql_600, qL_600, qt_600, qT_600, qe_600, qc_600, qi_600, ql_900, qL_900, qt_900, qT_900, qe_900, qc_900, qi_900, ql_1200, qL_1200, qt_1200, qT_1200, qe_1200, qc_1200, qi_1200, ql_65536, qL_65536, qt_65536, qT_65536, qe_65536, qc_65536, qi_65536, hv, true_and, and_true, eq_self, forall_eq, forall_eq_apply_imp_iff]
    exact HH
  · simp only [a_head, hb] at HH
    exact ⟨fun _ => HH, fun c => absurd rfl c⟩
theorem r_close {x : Int32} (R : Rr h m s) (hw : s.wf) (H : ∀ h', Rr h' m (a_close s x).2 → rfr h h' m → Q (.int (a_close s x).1) h') : jj_C mX10_close 0 0 [.ref m, .int x] h Q := by
  refine EX10_close _ _ fun d => r_start R fun h1 R1 F1 => ?_
  have bad : ∀ v', a_close s x = (v', s) → Q (.int v') h1 := fun v' e => by
    have := H h1 (by rw [e]; exact R1) F1
    rw [e] at this
    exact this
  refine s_isBranch R1 (fun b hb => ?_) (fun hb => ?_)
  · obtain ⟨e, hb6, _⟩ := bAt_some hw hb
    have hh6 := (hand_ok hw).2.2
    refine ⟨fun c => absurd c (by decide), fun _ => ?_⟩
    have M := R1.1
    have hv : jI h1 1000 (m + 16) b = s.hd b := R1.g.2.1.1 b hb6
    have hh : jI h1 519 m 0 = nI s.hand := R1.g.2.1.2
    rw [e]
    simp (disch := omega) only [(rM_k M), (rM_r501 M), (rM_k1 M), (rM_n1 M), (rM_r502 M), (rM_k2 M), (rM_n2 M), (rM_r503 M), (rM_k3 M), (rM_n3 M), (rM_r504 M), (rM_k4 M), (rM_n4 M), (rM_r505 M), (rM_k5 M), (rM_n5 M), (rM_r506 M), (rM_k6 M), (rM_n6 M), (rM_r507 M), (rM_k7 M), (rM_n7 M), (rM_r508 M), (rM_k8 M), (rM_n8 M), (rM_r509 M), (rM_k9 M), (rM_n9 M), (rM_r510 M), (rM_k10 M), (rM_n10 M), (rM_r511 M), (rM_k11 M), (rM_n11 M), (rM_r512 M), (rM_k12 M), (rM_n12 M), (rM_r515 M), (rM_k13 M), (rM_n13 M), (rM_r516 M), (rM_k14 M), (rM_n14 M), (rM_r517 M), (rM_k15 M), (rM_n15 M), (rM_r518 M), (rM_k16 M), (rM_n16 M), (rM_r524 M), (rM_k17 M), (rM_n17 M), (rM_r525 M), (rM_k18 M), (rM_n18 M), (rM_r526 M), (rM_k19 M), (rM_n19 M), (rM_r528 M), (rM_k20 M), (rM_n20 M), (rM_r529 M), (rM_k21 M), (rM_n21 M), (rM_r531 M), (rM_k22 M), (rM_n22 M), (rM_r532 M), (rM_k23 M), (rM_n23 M), (rM_r533 M), (rM_k24 M), (rM_n24 M), q_clamp, q_in, nI_leI, nI_ltI, nI_eq, ql_0, qL_0, qt_0, qT_0, qe_0, qc_0, qi_0, ql_1, qL_1, qt_1, qT_1, qe_1, qc_1, qi_1, ql_2, qL_2, qt_2, qT_2, qe_2, qc_2, qi_2, ql_3, qL_3, qt_3, qT_3, qe_3, qc_3, qi_3, ql_4, qL_4, qt_4, qT_4, qe_4, qc_4, qi_4, ql_6, qL_6, qt_6, qT_6, qe_6, qc_6, qi_6, ql_8, qL_8, qt_8, qT_8, qe_8, qc_8, qi_8, ql_10, qL_10, qt_10, qT_10, qe_10, qc_10, qi_10, ql_24, qL_24, qt_24, qT_24, qe_24, qc_24, qi_24, ql_60, qL_60, qt_60, qT_60, qe_60, qc_60, qi_60, ql_100, qL_100, qt_100, qT_100, qe_100, qc_100, qi_100, ql_200, qL_200, qt_200, qT_200, qe_200, qc_200, qi_200, ql_400, qL_400, qt_400, qT_400, qe_400, qc_400, qi_400, ql_600, qL_600, qt_600, qT_600, qe_600, qc_600, qi_600, ql_900, qL_900, qt_900, qT_900, qe_900, qc_900, qi_900, ql_1200, qL_1200, qt_1200, qT_1200, qe_1200, qc_1200, qi_1200, ql_65536, qL_65536, qt_65536, qT_65536, qe_65536, qc_65536, qi_65536, hv, hh, true_and, and_true, eq_self, forall_eq, forall_eq_apply_imp_iff]
    refine ⟨fun c => ?_, fun c => bad _ (by simp only [a_close, hb, if_pos c])⟩
    have e2 : a_close s x = (s.hd b, s.sh b (-1)) := by simp only [a_close, hb, if_neg c]
    have := H _ (by rw [e2]; exact R1.head) (F1.trans (rfr.wI (by omega) (by omega)))
    rw [e2] at this
    exact this
  · exact ⟨fun _ => bad _ (by simp only [a_close, hb]), fun c => absurd rfl c⟩
theorem r_open {x : Int32} (R : Rr h m s) (hw : s.wf) (H : ∀ h', Rr h' m (a_open s x).2 → rfr h h' m → Q (.int (a_open s x).1) h') : jj_C mX10_open 0 0 [.ref m, .int x] h Q := by
  refine EX10_open _ _ fun d => r_start R fun h1 R1 F1 => ?_
  have bad : ∀ v', a_open s x = (v', s) → Q (.int v') h1 := fun v' e => by
    have := H h1 (by rw [e]; exact R1) F1
    rw [e] at this
    exact this
  refine s_isNumber (fun b hb => ?_) (fun hb => ?_)
  · obtain ⟨e, hb6⟩ := lim_some (by decide) hb
    have hh6 := (hand_ok hw).2.2
    have M := R1.1
    have hmg : jI h1 520 m 0 = nI s.mg := R1.g.2.2.1.1
    have hm2 : s.mg ≤ 2 := hw.2.2.2.2.2.2.2.1.1
    have hv : jI h1 1000 (m + 16) b = s.hd b := R1.g.2.1.1 b hb6
    have hv2 : jI h1 1000 (m + 16) s.hand = s.hd s.hand := R1.g.2.1.1 s.hand hh6
    have hh : jI h1 519 m 0 = nI s.hand := R1.g.2.1.2
    refine ⟨fun _ => ⟨R1.K, ?_⟩, fun c => absurd c (by decide)⟩
    rw [e]
    simp (disch := omega) only [(rM_k M), (rM_r501 M), (rM_k1 M), (rM_n1 M), (rM_r502 M), (rM_k2 M), (rM_n2 M), (rM_r503 M), (rM_k3 M), (rM_n3 M), (rM_r504 M), (rM_k4 M), (rM_n4 M), (rM_r505 M), (rM_k5 M), (rM_n5 M), (rM_r506 M), (rM_k6 M), (rM_n6 M), (rM_r507 M), (rM_k7 M), (rM_n7 M), (rM_r508 M), (rM_k8 M), (rM_n8 M), (rM_r509 M), (rM_k9 M), (rM_n9 M), (rM_r510 M), (rM_k10 M), (rM_n10 M), (rM_r511 M), (rM_k11 M), (rM_n11 M), (rM_r512 M), (rM_k12 M), (rM_n12 M), (rM_r515 M), (rM_k13 M), (rM_n13 M), (rM_r516 M), (rM_k14 M), (rM_n14 M), (rM_r517 M), (rM_k15 M), (rM_n15 M), (rM_r518 M), (rM_k16 M), (rM_n16 M), (rM_r524 M), (rM_k17 M), (rM_n17 M), (rM_r525 M), (rM_k18 M), (rM_n18 M), (rM_r526 M), (rM_k19 M), (rM_n19 M), (rM_r528 M), (rM_k20 M), (rM_n20 M), (rM_r529 M), (rM_k21 M), (rM_n21 M), (rM_r531 M), (rM_k22 M), (rM_n22 M), (rM_r532 M), (rM_k23 M), (rM_n23 M), (rM_r533 M), (rM_k24 M), (rM_n24 M), q_clamp, q_in, nI_leI, nI_ltI, nI_eq, ql_0, qL_0, qt_0, qT_0, qe_0, qc_0, qi_0, ql_1, qL_1, qt_1, qT_1, qe_1, qc_1, qi_1, ql_2, qL_2, qt_2, qT_2, qe_2, qc_2, qi_2, ql_3, qL_3, qt_3, qT_3, qe_3, qc_3, qi_3, ql_4, qL_4, qt_4, qT_4, qe_4, qc_4, qi_4, ql_6, qL_6, qt_6, qT_6, qe_6, qc_6, qi_6, ql_8, qL_8, qt_8, qT_8, qe_8, qc_8, qi_8, ql_10, qL_10, qt_10, qT_10, qe_10, qc_10, qi_10, ql_24, qL_24, qt_24, qT_24, qe_24, qc_24, qi_24, ql_60, qL_60, qt_60, qT_60, qe_60, qc_60, qi_60, ql_100, qL_100, qt_100, qT_100, qe_100, qc_100, qi_100, ql_200, qL_200, qt_200, qT_200, qe_200, qc_200, qi_200, ql_400, qL_400, qt_400, qT_400, qe_400, qc_400, qi_400, ql_600, qL_600, qt_600, qT_600, qe_600, qc_600, qi_600, ql_900, qL_900, qt_900, qT_900, qe_900, qc_900, qi_900, ql_1200, qL_1200, qt_1200, qT_1200, qe_1200, qc_1200, qi_1200, ql_65536, qL_65536, qt_65536, qT_65536, qe_65536, qc_65536, qi_65536, hmg, hv, hh, hv2, true_and, and_true, eq_self, forall_eq, forall_eq_apply_imp_iff, jR_wI]
    refine ⟨fun c => ⟨fun c2 => ?_, fun c2 => bad _ (by simp only [a_open, hb, if_neg (show ¬ 0 < s.mg by omega), if_neg c2])⟩, fun c => bad _ (by simp only [a_open, hb, if_pos (show 0 < s.mg by omega)])⟩
    have e2 : a_open s x = (s.hd s.hand, s.sh b (s.hd s.hand)) := by simp only [a_open, hb, if_neg (show ¬ 0 < s.mg by omega), if_pos c2]
    have := H _ (by rw [e2]; exact R1.head) (F1.trans (rfr.wI (by omega) (by omega)))
    rw [e2] at this
    rw [jI_wI, if_pos ⟨rfl, rfl, rfl⟩]
    exact this
  · exact ⟨fun c => absurd rfl c, fun _ => bad _ (by simp only [a_open, hb])⟩
theorem r_go {x : Int32} (R : Rr h m s) (hw : s.wf) (H : ∀ h', Rr h' m (a_go s x).2 → rfr h h' m → Q (.int (a_go s x).1) h') : jj_C mX10_go 0 0 [.ref m, .int x] h Q := by
  refine EX10_go _ _ fun d => r_start R fun h1 R1 F1 => ?_
  have bad : ∀ v', a_go s x = (v', s) → Q (.int v') h1 := fun v' e => by
    have := H h1 (by rw [e]; exact R1) F1
    rw [e] at this
    exact this
  refine s_isBranch R1 (fun b hb => ?_) (fun hb => ?_)
  · obtain ⟨e, hb6, hne, hd1, hd2, _⟩ := bAt_some hw hb
    have hm := hw.1.2
    have hmg : jI h1 520 m 0 = nI s.mg := R1.g.2.2.1.1
    have hm2 : s.mg ≤ 2 := hw.2.2.2.2.2.2.2.1.1
    refine ⟨fun _ => ⟨R1.K, ?_⟩, fun c => absurd c (by decide)⟩
    simp (disch := omega) only [q_clamp, q_in, nI_leI, nI_ltI, nI_eq, ql_0, qL_0, qt_0, qT_0, qe_0, qc_0, qi_0, ql_1, qL_1, qt_1, qT_1, qe_1, qc_1, qi_1, ql_2, qL_2, qt_2, qT_2, qe_2, qc_2, qi_2, ql_3, qL_3, qt_3, qT_3, qe_3, qc_3, qi_3, ql_4, qL_4, qt_4, qT_4, qe_4, qc_4, qi_4, ql_6, qL_6, qt_6, qT_6, qe_6, qc_6, qi_6, ql_8, qL_8, qt_8, qT_8, qe_8, qc_8, qi_8, ql_10, qL_10, qt_10, qT_10, qe_10, qc_10, qi_10, ql_24, qL_24, qt_24, qT_24, qe_24, qc_24, qi_24, ql_60, qL_60, qt_60, qT_60, qe_60, qc_60, qi_60, ql_100, qL_100, qt_100, qT_100, qe_100, qc_100, qi_100, ql_200, qL_200, qt_200, qT_200, qe_200, qc_200, qi_200, ql_400, qL_400, qt_400, qT_400, qe_400, qc_400, qi_400, ql_600, qL_600, qt_600, qT_600, qe_600, qc_600, qi_600, ql_900, qL_900, qt_900, qT_900, qe_900, qc_900, qi_900, ql_1200, qL_1200, qt_1200, qT_1200, qe_1200, qc_1200, qi_1200, ql_65536, qL_65536, qt_65536, qT_65536, qe_65536, qc_65536, qi_65536, hmg]
    refine ⟨fun c => s_isClean R1 hw (fun q => ?_) (fun q => ?_), fun c => bad _ (by simp only [a_go, hb, if_pos (show 0 < s.mg by omega)])⟩
    · refine ⟨fun _ => ⟨R1.K, fun h2 e2 => ?_⟩, fun c => absurd c (by decide)⟩
      have R2 : Rr h2 m (s.set3 (s.hd, b)) := by rw [e2, e]; exact R1.hnd
      have F2 : rfr h1 h2 m := by rw [e2]; exact rfr.wI (by omega) (by omega)
      have M1 := R1.1
      have M2 := R2.1
      have hv : jI h2 1000 (m + 16) b = nI (s.hN b) := (R2.g.2.1.1 b hb6).trans hd1
      rw [e]
      simp (disch := omega) only [(rM_k M1), (rM_r501 M1), (rM_k1 M1), (rM_n1 M1), (rM_r502 M1), (rM_k2 M1), (rM_n2 M1), (rM_r503 M1), (rM_k3 M1), (rM_n3 M1), (rM_r504 M1), (rM_k4 M1), (rM_n4 M1), (rM_r505 M1), (rM_k5 M1), (rM_n5 M1), (rM_r506 M1), (rM_k6 M1), (rM_n6 M1), (rM_r507 M1), (rM_k7 M1), (rM_n7 M1), (rM_r508 M1), (rM_k8 M1), (rM_n8 M1), (rM_r509 M1), (rM_k9 M1), (rM_n9 M1), (rM_r510 M1), (rM_k10 M1), (rM_n10 M1), (rM_r511 M1), (rM_k11 M1), (rM_n11 M1), (rM_r512 M1), (rM_k12 M1), (rM_n12 M1), (rM_r515 M1), (rM_k13 M1), (rM_n13 M1), (rM_r516 M1), (rM_k14 M1), (rM_n14 M1), (rM_r517 M1), (rM_k15 M1), (rM_n15 M1), (rM_r518 M1), (rM_k16 M1), (rM_n16 M1), (rM_r524 M1), (rM_k17 M1), (rM_n17 M1), (rM_r525 M1), (rM_k18 M1), (rM_n18 M1), (rM_r526 M1), (rM_k19 M1), (rM_n19 M1), (rM_r528 M1), (rM_k20 M1), (rM_n20 M1), (rM_r529 M1), (rM_k21 M1), (rM_n21 M1), (rM_r531 M1), (rM_k22 M1), (rM_n22 M1), (rM_r532 M1), (rM_k23 M1), (rM_n23 M1), (rM_r533 M1), (rM_k24 M1), (rM_n24 M1), (rM_k M2), (rM_r501 M2), (rM_k1 M2), (rM_n1 M2), (rM_r502 M2), (rM_k2 M2), (rM_n2 M2), (rM_r503 M2), (rM_k3 M2), (rM_n3 M2), (rM_r504 M2), (rM_k4 M2), (rM_n4 M2), (rM_r505 M2), (rM_k5 M2), (rM_n5 M2), (rM_r506 M2), (rM_k6 M2), (rM_n6 M2), (rM_r507 M2), (rM_k7 M2), (rM_n7 M2), (rM_r508 M2), (rM_k8 M2), (rM_n8 M2), (rM_r509 M2), (rM_k9 M2), (rM_n9 M2), (rM_r510 M2), (rM_k10 M2), (rM_n10 M2), (rM_r511 M2), (rM_k11 M2), (rM_n11 M2), (rM_r512 M2), (rM_k12 M2), (rM_n12 M2), (rM_r515 M2), (rM_k13 M2), (rM_n13 M2), (rM_r516 M2), (rM_k14 M2), (rM_n14 M2), (rM_r517 M2), (rM_k15 M2), (rM_n15 M2), (rM_r518 M2), (rM_k16 M2), (rM_n16 M2), (rM_r524 M2), (rM_k17 M2), (rM_n17 M2), (rM_r525 M2), (rM_k18 M2), (rM_n18 M2), (rM_r526 M2), (rM_k19 M2), (rM_n19 M2), (rM_r528 M2), (rM_k20 M2), (rM_n20 M2), (rM_r529 M2), (rM_k21 M2), (rM_n21 M2), (rM_r531 M2), (rM_k22 M2), (rM_n22 M2), (rM_r532 M2), (rM_k23 M2), (rM_n23 M2), (rM_r533 M2), (rM_k24 M2), (rM_n24 M2), q_clamp, q_in, nI_leI, nI_ltI, nI_eq, ql_0, qL_0, qt_0, qT_0, qe_0, qc_0, qi_0, ql_1, qL_1, qt_1, qT_1, qe_1, qc_1, qi_1, ql_2, qL_2, qt_2, qT_2, qe_2, qc_2, qi_2, ql_3, qL_3, qt_3, qT_3, qe_3, qc_3, qi_3, ql_4, qL_4, qt_4, qT_4, qe_4, qc_4, qi_4, ql_6, qL_6, qt_6, qT_6, qe_6, qc_6, qi_6, ql_8, qL_8, qt_8, qT_8, qe_8, qc_8, qi_8, ql_10, qL_10, qt_10, qT_10, qe_10, qc_10, qi_10, ql_24, qL_24, qt_24, qT_24, qe_24, qc_24, qi_24, ql_60, qL_60, qt_60, qT_60, qe_60, qc_60, qi_60, ql_100, qL_100, qt_100, qT_100, qe_100, qc_100, qi_100, ql_200, qL_200, qt_200, qT_200, qe_200, qc_200, qi_200, ql_400, qL_400, qt_400, qT_400, qe_400, qc_400, qi_400, ql_600, qL_600, qt_600, qT_600, qe_600, qc_600, qi_600, ql_900, qL_900, qt_900, qT_900, qe_900, qc_900, qi_900, ql_1200, qL_1200, qt_1200, qT_1200, qe_1200, qc_1200, qi_1200, ql_65536, qL_65536, qt_65536, qT_65536, qe_65536, qc_65536, qi_65536, hv, true_and, and_true, eq_self, forall_eq, forall_eq_apply_imp_iff]
      refine s_copy (s' := 60) M2 (by omega) (by omega) (by omega) (R2.2.1 (s.hN b) (Or.inl hd2)) fun h3 T3 F3 => ?_
      have M3 : rM h3 m := M2.of (by rw [F3.1])
      have hv3 : jI h3 1000 (m + 16) b = nI (s.hN b) := (F3.2.1 _ _ _ (by omega) (by omega) (by omega)).trans hv
      simp (disch := omega) only [(rM_k M3), (rM_r501 M3), (rM_k1 M3), (rM_n1 M3), (rM_r502 M3), (rM_k2 M3), (rM_n2 M3), (rM_r503 M3), (rM_k3 M3), (rM_n3 M3), (rM_r504 M3), (rM_k4 M3), (rM_n4 M3), (rM_r505 M3), (rM_k5 M3), (rM_n5 M3), (rM_r506 M3), (rM_k6 M3), (rM_n6 M3), (rM_r507 M3), (rM_k7 M3), (rM_n7 M3), (rM_r508 M3), (rM_k8 M3), (rM_n8 M3), (rM_r509 M3), (rM_k9 M3), (rM_n9 M3), (rM_r510 M3), (rM_k10 M3), (rM_n10 M3), (rM_r511 M3), (rM_k11 M3), (rM_n11 M3), (rM_r512 M3), (rM_k12 M3), (rM_n12 M3), (rM_r515 M3), (rM_k13 M3), (rM_n13 M3), (rM_r516 M3), (rM_k14 M3), (rM_n14 M3), (rM_r517 M3), (rM_k15 M3), (rM_n15 M3), (rM_r518 M3), (rM_k16 M3), (rM_n16 M3), (rM_r524 M3), (rM_k17 M3), (rM_n17 M3), (rM_r525 M3), (rM_k18 M3), (rM_n18 M3), (rM_r526 M3), (rM_k19 M3), (rM_n19 M3), (rM_r528 M3), (rM_k20 M3), (rM_n20 M3), (rM_r529 M3), (rM_k21 M3), (rM_n21 M3), (rM_r531 M3), (rM_k22 M3), (rM_n22 M3), (rM_r532 M3), (rM_k23 M3), (rM_n23 M3), (rM_r533 M3), (rM_k24 M3), (rM_n24 M3), q_clamp, q_in, nI_leI, nI_ltI, nI_eq, ql_0, qL_0, qt_0, qT_0, qe_0, qc_0, qi_0, ql_1, qL_1, qt_1, qT_1, qe_1, qc_1, qi_1, ql_2, qL_2, qt_2, qT_2, qe_2, qc_2, qi_2, ql_3, qL_3, qt_3, qT_3, qe_3, qc_3, qi_3, ql_4, qL_4, qt_4, qT_4, qe_4, qc_4, qi_4, ql_6, qL_6, qt_6, qT_6, qe_6, qc_6, qi_6, ql_8, qL_8, qt_8, qT_8, qe_8, qc_8, qi_8, ql_10, qL_10, qt_10, qT_10, qe_10, qc_10, qi_10, ql_24, qL_24, qt_24, qT_24, qe_24, qc_24, qi_24, ql_60, qL_60, qt_60, qT_60, qe_60, qc_60, qi_60, ql_100, qL_100, qt_100, qT_100, qe_100, qc_100, qi_100, ql_200, qL_200, qt_200, qT_200, qe_200, qc_200, qi_200, ql_400, qL_400, qt_400, qT_400, qe_400, qc_400, qi_400, ql_600, qL_600, qt_600, qT_600, qe_600, qc_600, qi_600, ql_900, qL_900, qt_900, qT_900, qe_900, qc_900, qi_900, ql_1200, qL_1200, qt_1200, qT_1200, qe_1200, qc_1200, qi_1200, ql_65536, qL_65536, qt_65536, qT_65536, qe_65536, qc_65536, qi_65536, hv3, true_and, and_true, eq_self, forall_eq, forall_eq_apply_imp_iff]
      have e3 : a_go s x = (s.hd b, (s.set3 (s.hd, b)).wk3 (s.T (s.hN b))) := by simp only [a_go, hb, if_neg (show ¬ 0 < s.mg by omega), q, if_true]
      have := H h3 (by
        rw [e3]
        exact R2.fs (by exact ⟨hw.1, hw.2.1, hw.2.2.1, hw.2.2.2.1, hw.2.2.2.2.1, hw.2.2.2.2.2.1, ⟨hb6, hne, hw.2.2.2.2.2.2.1.2.2⟩, hw.2.2.2.2.2.2.2⟩) F3 T3) (F1.trans (F2.trans F3.fr))
      rw [e3, hd1] at this
      exact this
    · exact ⟨fun c => absurd rfl c, fun _ => bad _ (by simp only [a_go, hb, if_neg (show ¬ 0 < s.mg by omega), q]; rfl)⟩
  · exact ⟨fun c => absurd rfl c, fun _ => bad _ (by simp only [a_go, hb])⟩
theorem s_over (R : Rr h m s) (H : ∀ h', Rr h' m s.over → rfr h h' m → Q (.int 0) h') : jj_C mX10_over 0 0 [.ref m] h Q := by
  refine EX10_over _ fun d => ⟨R.K, fun h1 e1 h2 e2 => ?_⟩
  subst e2; subst e1
  refine H _ (Rr.mk ((R.t.wI (s := s) (Or.inl rfl)).wI (Or.inl rfl)) ⟨(R.g.1.wI (by omega)).wI (by omega), (R.g.2.1.wI (by omega)).wI (by omega), ⟨?_, fun q => absurd q (Nat.lt_irrefl _), ?_, fun i c hc => by simp [St.over, St.set4] at hc⟩, (R.g.2.2.2.1.wI (by omega)).wI (by omega), (R.g.2.2.2.2.wI (by omega)).wI (by omega)⟩) ((rfr.wI (by omega) (by omega)).trans (rfr.wI (by omega) (by omega)))
  · rw [jI_wI, if_neg (by omega), jI_wI, if_pos ⟨rfl, rfl, rfl⟩]; rfl
  · rw [jI_wI, if_pos ⟨rfl, rfl, rfl⟩]; rfl
theorem s_openConflicts (R : Rr h m s) (hw : s.wf) (H : Q (.int (nI (opn s))) h) : jj_C mX10_openConflicts 0 0 [.ref m] h Q := by
  refine EX10_openConflicts _ fun d => ?_
  have M := R.1
  have hl : s.cf.length ≤ 900 := hw.2.2.2.2.2.2.2.1.2.2.2.1
  have hc : jI h 523 m 0 = nI s.cf.length := R.g.2.2.1.2.2.1
  have loop : ∀ r i, i + r = s.cf.length → jj_WP d mX10_openConflicts 0 0 4 [(0, .ref m), (1, .int (nI ((s.cf.take i).countP (fun c => c.2.2)))), (2, .int (nI i))] [] h Q := by
    intro r
    induction r with
    | zero =>
      intro i hi
      refine VX10_openConflicts_4 _ _ _ ?_
      simp (disch := omega) only [(rM_k M), (rM_r501 M), (rM_k1 M), (rM_n1 M), (rM_r502 M), (rM_k2 M), (rM_n2 M), (rM_r503 M), (rM_k3 M), (rM_n3 M), (rM_r504 M), (rM_k4 M), (rM_n4 M), (rM_r505 M), (rM_k5 M), (rM_n5 M), (rM_r506 M), (rM_k6 M), (rM_n6 M), (rM_r507 M), (rM_k7 M), (rM_n7 M), (rM_r508 M), (rM_k8 M), (rM_n8 M), (rM_r509 M), (rM_k9 M), (rM_n9 M), (rM_r510 M), (rM_k10 M), (rM_n10 M), (rM_r511 M), (rM_k11 M), (rM_n11 M), (rM_r512 M), (rM_k12 M), (rM_n12 M), (rM_r515 M), (rM_k13 M), (rM_n13 M), (rM_r516 M), (rM_k14 M), (rM_n14 M), (rM_r517 M), (rM_k15 M), (rM_n15 M), (rM_r518 M), (rM_k16 M), (rM_n16 M), (rM_r524 M), (rM_k17 M), (rM_n17 M), (rM_r525 M), (rM_k18 M), (rM_n18 M), (rM_r526 M), (rM_k19 M), (rM_n19 M), (rM_r528 M), (rM_k20 M), (rM_n20 M), (rM_r529 M), (rM_k21 M), (rM_n21 M), (rM_r531 M), (rM_k22 M), (rM_n22 M), (rM_r532 M), (rM_k23 M), (rM_n23 M), (rM_r533 M), (rM_k24 M), (rM_n24 M), q_clamp, q_in, nI_leI, nI_ltI, nI_eq, ql_0, qL_0, qt_0, qT_0, qe_0, qc_0, qi_0, ql_1, qL_1, qt_1, qT_1, qe_1, qc_1, qi_1, ql_2, qL_2, qt_2, qT_2, qe_2, qc_2, qi_2, ql_3, qL_3, qt_3, qT_3, qe_3, qc_3, qi_3, ql_4, qL_4, qt_4, qT_4, qe_4, qc_4, qi_4, ql_6, qL_6, qt_6, qT_6, qe_6, qc_6, qi_6, ql_8, qL_8, qt_8, qT_8, qe_8, qc_8, qi_8, ql_10, qL_10, qt_10, qT_10, qe_10, qc_10, qi_10, ql_24, qL_24, qt_24, qT_24, qe_24, qc_24, qi_24, ql_60, qL_60, qt_60, qT_60, qe_60, qc_60, qi_60, ql_100, qL_100, qt_100, qT_100, qe_100, qc_100, qi_100, ql_200, qL_200, qt_200, qT_200, qe_200, qc_200, qi_200, ql_400, qL_400, qt_400, qT_400, qe_400, qc_400, qi_400, ql_600, qL_600, qt_600, qT_600, qe_600, qc_600, qi_600, ql_900, qL_900, qt_900, qT_900, qe_900, qc_900, qi_900, ql_1200, qL_1200, qt_1200, qT_1200, qe_1200, qc_1200, qi_1200, ql_65536, qL_65536, qt_65536, qT_65536, qe_65536, qc_65536, qi_65536, hc, true_and, and_true, eq_self, forall_eq, forall_eq_apply_imp_iff]
      refine ⟨fun _ => ?_, fun c => by omega⟩
      rw [List.take_of_length_le (by omega)]
      exact H
    | succ r ih =>
      intro i hi
      have nxt := ih (i + 1) (by omega)
      obtain ⟨c, e1⟩ : ∃ c, s.cf[i]? = some c := ⟨_, List.getElem?_eq_getElem (by omega)⟩
      have hv : jI h 1000 (m + 19) i = (if c.2.2 then 1 else 0) := (R.g.2.2.1.2.2.2 i c e1).2.2
      have cle : (s.cf.take i).countP (fun c => c.2.2) ≤ i := Nat.le_trans List.countP_le_length (by rw [List.length_take]; omega)
      rw [List.take_add_one, e1, List.countP_append] at nxt
      simp only [Option.toList_some, List.countP_singleton] at nxt
      refine VX10_openConflicts_4 _ _ _ ?_
      simp (disch := omega) only [(rM_k M), (rM_r501 M), (rM_k1 M), (rM_n1 M), (rM_r502 M), (rM_k2 M), (rM_n2 M), (rM_r503 M), (rM_k3 M), (rM_n3 M), (rM_r504 M), (rM_k4 M), (rM_n4 M), (rM_r505 M), (rM_k5 M), (rM_n5 M), (rM_r506 M), (rM_k6 M), (rM_n6 M), (rM_r507 M), (rM_k7 M), (rM_n7 M), (rM_r508 M), (rM_k8 M), (rM_n8 M), (rM_r509 M), (rM_k9 M), (rM_n9 M), (rM_r510 M), (rM_k10 M), (rM_n10 M), (rM_r511 M), (rM_k11 M), (rM_n11 M), (rM_r512 M), (rM_k12 M), (rM_n12 M), (rM_r515 M), (rM_k13 M), (rM_n13 M), (rM_r516 M), (rM_k14 M), (rM_n14 M), (rM_r517 M), (rM_k15 M), (rM_n15 M), (rM_r518 M), (rM_k16 M), (rM_n16 M), (rM_r524 M), (rM_k17 M), (rM_n17 M), (rM_r525 M), (rM_k18 M), (rM_n18 M), (rM_r526 M), (rM_k19 M), (rM_n19 M), (rM_r528 M), (rM_k20 M), (rM_n20 M), (rM_r529 M), (rM_k21 M), (rM_n21 M), (rM_r531 M), (rM_k22 M), (rM_n22 M), (rM_r532 M), (rM_k23 M), (rM_n23 M), (rM_r533 M), (rM_k24 M), (rM_n24 M), qm_3, qm_4, qm_16, qm_600, qm_200, qm_8, qn_210, qn_3, qa_0, qb_0, qa_1, qb_1, qa_2, qb_2, qa_3, qb_3, qa_4, qb_4, qa_16, qb_16, qa_180, qb_180, qs_1, qs_2, qs_3, qs_4, qs_6, qs_24, nI_add, q_sub, q_pred, q_clamp, q_in, nI_leI, nI_ltI, nI_eq, ql_0, qL_0, qt_0, qT_0, qe_0, qc_0, qi_0, ql_1, qL_1, qt_1, qT_1, qe_1, qc_1, qi_1, ql_2, qL_2, qt_2, qT_2, qe_2, qc_2, qi_2, ql_3, qL_3, qt_3, qT_3, qe_3, qc_3, qi_3, ql_4, qL_4, qt_4, qT_4, qe_4, qc_4, qi_4, ql_6, qL_6, qt_6, qT_6, qe_6, qc_6, qi_6, ql_8, qL_8, qt_8, qT_8, qe_8, qc_8, qi_8, ql_10, qL_10, qt_10, qT_10, qe_10, qc_10, qi_10, ql_24, qL_24, qt_24, qT_24, qe_24, qc_24, qi_24, ql_60, qL_60, qt_60, qT_60, qe_60, qc_60, qi_60, ql_100, qL_100, qt_100, qT_100, qe_100, qc_100, qi_100, ql_200, qL_200, qt_200, qT_200, qe_200, qc_200, qi_200, ql_400, qL_400, qt_400, qT_400, qe_400, qc_400, qi_400, ql_600, qL_600, qt_600, qT_600, qe_600, qc_600, qi_600, ql_900, qL_900, qt_900, qT_900, qe_900, qc_900, qi_900, ql_1200, qL_1200, qt_1200, qT_1200, qe_1200, qc_1200, qi_1200, ql_65536, qL_65536, qt_65536, qT_65536, qe_65536, qc_65536, qi_65536, hc, hv, true_and, and_true, eq_self, forall_eq, forall_eq_apply_imp_iff]
      refine ⟨fun c => by omega, fun _ => ?_⟩
      cases hb : c.2.2 with
      | false => rw [hb] at nxt; exact ⟨fun _ => nxt, fun c => absurd rfl c⟩
      | true => rw [hb] at nxt; exact ⟨fun c => absurd c (by decide), fun _ => nxt⟩
  exact loop _ 0 (Nat.zero_add _)
theorem s_bits {x : Int64} (H : Q (.int (nI (pc x 60))) h) : jj_C mX10_bits 0 0 [.long x] h Q := by
  refine EX10_bits _ fun d => ?_
  have loop : ∀ r i, i + r = 60 → jj_WP d mX10_bits 0 0 4 [(0, .long x), (2, .int (nI (pc x i))), (3, .int (nI i))] [] h Q := by
    intro r
    induction r with
    | zero =>
      intro i hi
      refine VX10_bits_4 _ _ _ ?_
      simp (disch := omega) only [q_clamp, q_in, nI_leI, nI_ltI, nI_eq, ql_0, qL_0, qt_0, qT_0, qe_0, qc_0, qi_0, ql_1, qL_1, qt_1, qT_1, qe_1, qc_1, qi_1, ql_2, qL_2, qt_2, qT_2, qe_2, qc_2, qi_2, ql_3, qL_3, qt_3, qT_3, qe_3, qc_3, qi_3, ql_4, qL_4, qt_4, qT_4, qe_4, qc_4, qi_4, ql_6, qL_6, qt_6, qT_6, qe_6, qc_6, qi_6, ql_8, qL_8, qt_8, qT_8, qe_8, qc_8, qi_8, ql_10, qL_10, qt_10, qT_10, qe_10, qc_10, qi_10, ql_24, qL_24, qt_24, qT_24, qe_24, qc_24, qi_24, ql_60, qL_60, qt_60, qT_60, qe_60, qc_60, qi_60, ql_100, qL_100, qt_100, qT_100, qe_100, qc_100, qi_100, ql_200, qL_200, qt_200, qT_200, qe_200, qc_200, qi_200, ql_400, qL_400, qt_400, qT_400, qe_400, qc_400, qi_400, ql_600, qL_600, qt_600, qT_600, qe_600, qc_600, qi_600, ql_900, qL_900, qt_900, qT_900, qe_900, qc_900, qi_900, ql_1200, qL_1200, qt_1200, qT_1200, qe_1200, qc_1200, qi_1200, ql_65536, qL_65536, qt_65536, qT_65536, qe_65536, qc_65536, qi_65536]
      refine ⟨fun _ => ?_, fun c => by omega⟩
      rw [show i = 60 by omega]
      exact H
    | succ r ih =>
      intro i hi
      refine VX10_bits_4 _ _ _ ?_
      rw [bt_one (by omega)]
      simp (disch := omega) only [qm_3, qm_4, qm_16, qm_600, qm_200, qm_8, qn_210, qn_3, qa_0, qb_0, qa_1, qb_1, qa_2, qb_2, qa_3, qb_3, qa_4, qb_4, qa_16, qb_16, qa_180, qb_180, qs_1, qs_2, qs_3, qs_4, qs_6, qs_24, nI_add, q_sub, q_pred, q_clamp, q_in, nI_leI, nI_ltI, nI_eq, ql_0, qL_0, qt_0, qT_0, qe_0, qc_0, qi_0, ql_1, qL_1, qt_1, qT_1, qe_1, qc_1, qi_1, ql_2, qL_2, qt_2, qT_2, qe_2, qc_2, qi_2, ql_3, qL_3, qt_3, qT_3, qe_3, qc_3, qi_3, ql_4, qL_4, qt_4, qT_4, qe_4, qc_4, qi_4, ql_6, qL_6, qt_6, qT_6, qe_6, qc_6, qi_6, ql_8, qL_8, qt_8, qT_8, qe_8, qc_8, qi_8, ql_10, qL_10, qt_10, qT_10, qe_10, qc_10, qi_10, ql_24, qL_24, qt_24, qT_24, qe_24, qc_24, qi_24, ql_60, qL_60, qt_60, qT_60, qe_60, qc_60, qi_60, ql_100, qL_100, qt_100, qT_100, qe_100, qc_100, qi_100, ql_200, qL_200, qt_200, qT_200, qe_200, qc_200, qi_200, ql_400, qL_400, qt_400, qT_400, qe_400, qc_400, qi_400, ql_600, qL_600, qt_600, qT_600, qe_600, qc_600, qi_600, ql_900, qL_900, qt_900, qT_900, qe_900, qc_900, qi_900, ql_1200, qL_1200, qt_1200, qT_1200, qe_1200, qc_1200, qi_1200, ql_65536, qL_65536, qt_65536, qT_65536, qe_65536, qc_65536, qi_65536]
      exact ⟨fun c => by omega, fun _ => ih (i + 1) (by omega)⟩
  exact loop 60 0 (by omega)
theorem r_parent {x i : Int32} (R : Rr h m s) (hw : s.wf) (H : ∀ h', Rr h' m s → rfr h h' m → Q (.int (a_parent s x i)) h') : jj_C mX10_parent 0 0 [.ref m, .int x, .int i] h Q := by
  refine EX10_parent _ _ _ fun d => r_start R fun h1 R1 F1 => ?_
  have HH := H h1 R1 F1
  refine s_isCommit R1 (fun k hk => ?_) (fun hk => ?_)
  · obtain ⟨e, hk2, _⟩ := cAt_some hw hk
    have hm := hw.1.2
    have M := R1.1
    have v := R1.g.1.2.2 k hk2
    have v1 : jI h1 1000 (m + 13) k = s.fp k := v.1
    have v2 : jI h1 1000 (m + 14) k = s.sp k := v.2.1
    simp only [a_parent, hk] at HH
    refine ⟨fun _ => ?_, fun c => absurd c (by decide)⟩
    rw [e]
    simp (disch := omega) only [(rM_k M), (rM_r501 M), (rM_k1 M), (rM_n1 M), (rM_r502 M), (rM_k2 M), (rM_n2 M), (rM_r503 M), (rM_k3 M), (rM_n3 M), (rM_r504 M), (rM_k4 M), (rM_n4 M), (rM_r505 M), (rM_k5 M), (rM_n5 M), (rM_r506 M), (rM_k6 M), (rM_n6 M), (rM_r507 M), (rM_k7 M), (rM_n7 M), (rM_r508 M), (rM_k8 M), (rM_n8 M), (rM_r509 M), (rM_k9 M), (rM_n9 M), (rM_r510 M), (rM_k10 M), (rM_n10 M), (rM_r511 M), (rM_k11 M), (rM_n11 M), (rM_r512 M), (rM_k12 M), (rM_n12 M), (rM_r515 M), (rM_k13 M), (rM_n13 M), (rM_r516 M), (rM_k14 M), (rM_n14 M), (rM_r517 M), (rM_k15 M), (rM_n15 M), (rM_r518 M), (rM_k16 M), (rM_n16 M), (rM_r524 M), (rM_k17 M), (rM_n17 M), (rM_r525 M), (rM_k18 M), (rM_n18 M), (rM_r526 M), (rM_k19 M), (rM_n19 M), (rM_r528 M), (rM_k20 M), (rM_n20 M), (rM_r529 M), (rM_k21 M), (rM_n21 M), (rM_r531 M), (rM_k22 M), (rM_n22 M), (rM_r532 M), (rM_k23 M), (rM_n23 M), (rM_r533 M), (rM_k24 M), (rM_n24 M), q_clamp, q_in, nI_leI, nI_ltI, nI_eq, ql_0, qL_0, qt_0, qT_0, qe_0, qc_0, qi_0, ql_1, qL_1, qt_1, qT_1, qe_1, qc_1, qi_1, ql_2, qL_2, qt_2, qT_2, qe_2, qc_2, qi_2, ql_3, qL_3, qt_3, qT_3, qe_3, qc_3, qi_3, ql_4, qL_4, qt_4, qT_4, qe_4, qc_4, qi_4, ql_6, qL_6, qt_6, qT_6, qe_6, qc_6, qi_6, ql_8, qL_8, qt_8, qT_8, qe_8, qc_8, qi_8, ql_10, qL_10, qt_10, qT_10, qe_10, qc_10, qi_10, ql_24, qL_24, qt_24, qT_24, qe_24, qc_24, qi_24, ql_60, qL_60, qt_60, qT_60, qe_60, qc_60, qi_60, ql_100, qL_100, qt_100, qT_100, qe_100, qc_100, qi_100, ql_200, qL_200, qt_200, qT_200, qe_200, qc_200, qi_200, ql_400, qL_400, qt_400, qT_400, qe_400, qc_400, qi_400, ql_600, qL_600, qt_600, qT_600, qe_600, qc_600, qi_600, ql_900, qL_900, qt_900, qT_900, qe_900, qc_900, qi_900, ql_1200, qL_1200, qt_1200, qT_1200, qe_1200, qc_1200, qi_1200, ql_65536, qL_65536, qt_65536, qT_65536, qe_65536, qc_65536, qi_65536, v1, v2, true_and, and_true, eq_self, forall_eq, forall_eq_apply_imp_iff]
    refine ⟨fun c => ⟨fun c2 => ?_, fun c2 => ?_⟩, fun c => ?_⟩
    · rw [if_neg c, if_neg c2] at HH; exact HH
    · rw [if_neg c, if_pos c2] at HH; exact HH
    · rw [if_pos c] at HH; exact HH
  · simp only [a_parent, hk] at HH
    exact ⟨fun c => absurd rfl c, fun _ => HH⟩
theorem r_ancestors {x : Int32} (R : Rr h m s) (hw : s.wf) (H : ∀ h', Rr h' m s → rfr h h' m → Q (.int (a_ancestors s x)) h') : jj_C mX10_ancestors 0 0 [.ref m, .int x] h Q := by
  refine EX10_ancestors _ _ fun d => r_start R fun h1 R1 F1 => ?_
  have HH := H h1 R1 F1
  refine s_isCommit R1 (fun k hk => ?_) (fun hk => ?_)
  · obtain ⟨e, hk2, _⟩ := cAt_some hw hk
    have hm := hw.1.2
    have M := R1.1
    have v3 : jL h1 1000 (m + 15) k = s.an k := (R1.g.1.2.2 k hk2).2.2
    simp only [a_ancestors, hk] at HH
    refine ⟨fun c => absurd c (by decide), fun _ => ?_⟩
    rw [e]
    simp (disch := omega) only [(rM_k M), (rM_r501 M), (rM_k1 M), (rM_n1 M), (rM_r502 M), (rM_k2 M), (rM_n2 M), (rM_r503 M), (rM_k3 M), (rM_n3 M), (rM_r504 M), (rM_k4 M), (rM_n4 M), (rM_r505 M), (rM_k5 M), (rM_n5 M), (rM_r506 M), (rM_k6 M), (rM_n6 M), (rM_r507 M), (rM_k7 M), (rM_n7 M), (rM_r508 M), (rM_k8 M), (rM_n8 M), (rM_r509 M), (rM_k9 M), (rM_n9 M), (rM_r510 M), (rM_k10 M), (rM_n10 M), (rM_r511 M), (rM_k11 M), (rM_n11 M), (rM_r512 M), (rM_k12 M), (rM_n12 M), (rM_r515 M), (rM_k13 M), (rM_n13 M), (rM_r516 M), (rM_k14 M), (rM_n14 M), (rM_r517 M), (rM_k15 M), (rM_n15 M), (rM_r518 M), (rM_k16 M), (rM_n16 M), (rM_r524 M), (rM_k17 M), (rM_n17 M), (rM_r525 M), (rM_k18 M), (rM_n18 M), (rM_r526 M), (rM_k19 M), (rM_n19 M), (rM_r528 M), (rM_k20 M), (rM_n20 M), (rM_r529 M), (rM_k21 M), (rM_n21 M), (rM_r531 M), (rM_k22 M), (rM_n22 M), (rM_r532 M), (rM_k23 M), (rM_n23 M), (rM_r533 M), (rM_k24 M), (rM_n24 M), q_clamp, q_in, nI_leI, nI_ltI, nI_eq, ql_0, qL_0, qt_0, qT_0, qe_0, qc_0, qi_0, ql_1, qL_1, qt_1, qT_1, qe_1, qc_1, qi_1, ql_2, qL_2, qt_2, qT_2, qe_2, qc_2, qi_2, ql_3, qL_3, qt_3, qT_3, qe_3, qc_3, qi_3, ql_4, qL_4, qt_4, qT_4, qe_4, qc_4, qi_4, ql_6, qL_6, qt_6, qT_6, qe_6, qc_6, qi_6, ql_8, qL_8, qt_8, qT_8, qe_8, qc_8, qi_8, ql_10, qL_10, qt_10, qT_10, qe_10, qc_10, qi_10, ql_24, qL_24, qt_24, qT_24, qe_24, qc_24, qi_24, ql_60, qL_60, qt_60, qT_60, qe_60, qc_60, qi_60, ql_100, qL_100, qt_100, qT_100, qe_100, qc_100, qi_100, ql_200, qL_200, qt_200, qT_200, qe_200, qc_200, qi_200, ql_400, qL_400, qt_400, qT_400, qe_400, qc_400, qi_400, ql_600, qL_600, qt_600, qT_600, qe_600, qc_600, qi_600, ql_900, qL_900, qt_900, qT_900, qe_900, qc_900, qi_900, ql_1200, qL_1200, qt_1200, qT_1200, qe_1200, qc_1200, qi_1200, ql_65536, qL_65536, qt_65536, qT_65536, qe_65536, qc_65536, qi_65536, v3, true_and, and_true, eq_self, forall_eq, forall_eq_apply_imp_iff]
    exact s_bits HH
  · simp only [a_ancestors, hk] at HH
    exact ⟨fun _ => HH, fun c => absurd rfl c⟩
theorem s_isAncestor {k c : Nat} (R : Rr h m s) (hk : k < 64) (hc : c < s.made) (hm : s.made ≤ 60) (H1 : bt (s.an c) k = true → Q (.int 1) h) (H0 : bt (s.an c) k = false → Q (.int 0) h) : jj_C mX10_isAncestor 0 0 [.ref m, .int (nI k), .int (nI c)] h Q := by
  refine EX10_isAncestor _ _ _ fun d => ?_
  have M := R.1
  have v3 : jL h 1000 (m + 15) c = s.an c := (R.g.1.2.2 c hc).2.2
  have hb := bt_sar (x := s.an c) hk
  simp (disch := omega) only [(rM_k M), (rM_r501 M), (rM_k1 M), (rM_n1 M), (rM_r502 M), (rM_k2 M), (rM_n2 M), (rM_r503 M), (rM_k3 M), (rM_n3 M), (rM_r504 M), (rM_k4 M), (rM_n4 M), (rM_r505 M), (rM_k5 M), (rM_n5 M), (rM_r506 M), (rM_k6 M), (rM_n6 M), (rM_r507 M), (rM_k7 M), (rM_n7 M), (rM_r508 M), (rM_k8 M), (rM_n8 M), (rM_r509 M), (rM_k9 M), (rM_n9 M), (rM_r510 M), (rM_k10 M), (rM_n10 M), (rM_r511 M), (rM_k11 M), (rM_n11 M), (rM_r512 M), (rM_k12 M), (rM_n12 M), (rM_r515 M), (rM_k13 M), (rM_n13 M), (rM_r516 M), (rM_k14 M), (rM_n14 M), (rM_r517 M), (rM_k15 M), (rM_n15 M), (rM_r518 M), (rM_k16 M), (rM_n16 M), (rM_r524 M), (rM_k17 M), (rM_n17 M), (rM_r525 M), (rM_k18 M), (rM_n18 M), (rM_r526 M), (rM_k19 M), (rM_n19 M), (rM_r528 M), (rM_k20 M), (rM_n20 M), (rM_r529 M), (rM_k21 M), (rM_n21 M), (rM_r531 M), (rM_k22 M), (rM_n22 M), (rM_r532 M), (rM_k23 M), (rM_n23 M), (rM_r533 M), (rM_k24 M), (rM_n24 M), q_clamp, q_in, nI_leI, nI_ltI, nI_eq, ql_0, qL_0, qt_0, qT_0, qe_0, qc_0, qi_0, ql_1, qL_1, qt_1, qT_1, qe_1, qc_1, qi_1, ql_2, qL_2, qt_2, qT_2, qe_2, qc_2, qi_2, ql_3, qL_3, qt_3, qT_3, qe_3, qc_3, qi_3, ql_4, qL_4, qt_4, qT_4, qe_4, qc_4, qi_4, ql_6, qL_6, qt_6, qT_6, qe_6, qc_6, qi_6, ql_8, qL_8, qt_8, qT_8, qe_8, qc_8, qi_8, ql_10, qL_10, qt_10, qT_10, qe_10, qc_10, qi_10, ql_24, qL_24, qt_24, qT_24, qe_24, qc_24, qi_24, ql_60, qL_60, qt_60, qT_60, qe_60, qc_60, qi_60, ql_100, qL_100, qt_100, qT_100, qe_100, qc_100, qi_100, ql_200, qL_200, qt_200, qT_200, qe_200, qc_200, qi_200, ql_400, qL_400, qt_400, qT_400, qe_400, qc_400, qi_400, ql_600, qL_600, qt_600, qT_600, qe_600, qc_600, qi_600, ql_900, qL_900, qt_900, qT_900, qe_900, qc_900, qi_900, ql_1200, qL_1200, qt_1200, qT_1200, qe_1200, qc_1200, qi_1200, ql_65536, qL_65536, qt_65536, qT_65536, qe_65536, qc_65536, qi_65536, v3, hb, true_and, and_true, eq_self, forall_eq, forall_eq_apply_imp_iff]
  exact ⟨fun q => H0 q, fun q => H1 (by simpa using q)⟩
end JP4
