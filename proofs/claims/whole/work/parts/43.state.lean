/-! small numbers -/
def lim (n : Nat) (x : Int32) : Option Nat := if 0 ≤ x ∧ x < nI n then some (Int32.toNatClampNeg x) else none
theorem pos_nI {x : Int32} (h : 0 ≤ x) : x = nI (Int32.toNatClampNeg x) ∧ Int32.toNatClampNeg x < 2147483648 := by
  have h1 : 0 ≤ x.toInt := by
    have := Int32.le_iff_toInt_le.mp h
    simpa using this
  have h2 : x.toInt < 2 ^ 31 := Int32.toInt_lt x
  have h3 : Int32.toNatClampNeg x = x.toInt.toNat := rfl
  refine ⟨?_, by rw [h3]; omega⟩
  apply Int32.toInt_inj.mp
  have e : (nI (Int32.toNatClampNeg x)).toInt = (Int32.toNatClampNeg x : Int) := nI_toInt (by rw [h3]; omega)
  rw [e, h3]
  omega
theorem lim_some {n : Nat} {x : Int32} {k : Nat} (hn : n < 2147483648) (h : lim n x = some k) : x = nI k ∧ k < n := by
  unfold lim at h
  split at h
  · next c =>
    cases h
    obtain ⟨a, b⟩ := pos_nI c.1
    refine ⟨a, ?_⟩
    have := c.2
    rw [a] at this
    exact (nI_ltI b hn).mp this
  · cases h
theorem lim_none {n : Nat} {x : Int32} (h : lim n x = none) : ¬ (0 ≤ x ∧ x < nI n) := by
  unfold lim at h
  split at h
  · cases h
  · assumption
theorem lim_nI {n k : Nat} (hn : n < 2147483648) (hk : k < n) : lim n (nI k) = some k := by
  have h1 : (0 : Int32) ≤ nI k := by rw [qL_0 (by omega)]; exact Nat.zero_le _
  have h2 : nI k < nI n := (nI_ltI (by omega) hn).mpr hk
  unfold lim
  rw [if_pos ⟨h1, h2⟩, q_clamp (by omega)]
theorem lim_of {n : Nat} {x : Int32} (hn : n < 2147483648) (h1 : ¬ x < 0) (h2 : ¬ nI n ≤ x) : ∃ k, lim n x = some k := by
  refine ⟨Int32.toNatClampNeg x, ?_⟩
  unfold lim
  rw [if_pos ⟨Int32.not_lt.mp h1, Int32.not_le.mp h2⟩]
theorem lim_no1 {n : Nat} {x : Int32} (h : x < 0) : lim n x = none := by
  unfold lim
  rw [if_neg (fun q => Int32.not_lt.mpr q.1 h)]
theorem lim_no2 {n : Nat} {x : Int32} (h : nI n ≤ x) : lim n x = none := by
  unfold lim
  rw [if_neg (fun q => Int32.not_lt.mpr h q.2)]
theorem s_isTable {x : Int32} {h : jj_H} {Q : Value → jj_H → Prop} (H1 : ∀ t, lim 3 x = some t → Q (.int 1) h) (H0 : lim 3 x = none → Q (.int 0) h) : jj_C mX10_isTable 0 0 [.int x] h Q :=
  EX10_isTable _ fun d => ⟨fun c => H0 (lim_no1 c), fun c => ⟨fun c2 => H0 (lim_no2 c2), fun c2 => (lim_of (by decide) c c2).elim H1⟩⟩
theorem s_isNumber {x : Int32} {h : jj_H} {Q : Value → jj_H → Prop} (H1 : ∀ t, lim 6 x = some t → Q (.int 1) h) (H0 : lim 6 x = none → Q (.int 0) h) : jj_C mX10_isNumber 0 0 [.int x] h Q :=
  EX10_isNumber _ fun d => ⟨fun c => H0 (lim_no1 c), fun c => ⟨fun c2 => H0 (lim_no2 c2), fun c2 => (lim_of (by decide) c c2).elim H1⟩⟩
theorem l_lt {x y : Int32} : (Int32.toInt64 x < Int32.toInt64 y) = (x < y) := propext (by rw [Int64.lt_iff_toInt_lt, Int32.toInt_toInt64, Int32.toInt_toInt64, Int32.lt_iff_toInt_lt])
theorem l_lt0 {x : Int32} : (Int32.toInt64 x < 0) = (x < 0) := l_lt (y := 0)
theorem l_pred {n : Nat} (hn : n < 2147483648) {x : Int32} : (Int32.toInt64 (nI n) - 1 < Int32.toInt64 x) = (nI n ≤ x) := by
  apply propext
  have e : (nI n).toInt = (n : Int) := nI_toInt hn
  have e2 : (Int32.toInt64 (nI n) - 1).toInt = (n : Int) - 1 := by
    rw [Int64.toInt_sub, Int32.toInt_toInt64, e, show (1 : Int64).toInt = 1 from rfl]
    exact Int.bmod_eq_of_le (by omega) (by omega)
  rw [Int64.lt_iff_toInt_lt, e2, Int32.toInt_toInt64, Int32.le_iff_toInt_le, e]
  omega
theorem s_isIn {n : Nat} {x : Int32} {b : Int64} {h : jj_H} {Q : Value → jj_H → Prop} (hn : n < 2147483648) (hb : b = Int32.toInt64 (nI n) - 1) (H1 : ∀ t, lim n x = some t → Q (.int 1) h) (H0 : lim n x = none → Q (.int 0) h) : jj_C mX10_isIn 0 0 [.long (Int32.toInt64 x), .long 0, .long b] h Q := by
  refine EX10_isIn _ _ _ fun d => ?_
  rw [hb, l_lt0, l_pred hn]
  exact ⟨fun c => H0 (lim_no1 c), fun c => ⟨fun c2 => H0 (lim_no2 c2), fun c2 => (lim_of hn c c2).elim H1⟩⟩
/-! the state: tables by place and number (60: the work); commits; branches; the merge under way; the list; the other store -/
abbrev St : Type := (Nat → Nat → List Row) × (Nat × Int64 × (Nat → Int32) × (Nat → Int32) × (Nat → Int64)) × ((Nat → Int32) × Nat) × (Nat × Nat × Nat × List (Nat × Int32 × Bool)) × List (Int32 × Int32) × (Int64 × (Nat → Int32))
def St.T (s : St) : Nat → Nat → List Row := s.1
def St.made (s : St) : Nat := s.2.1.1
def St.here (s : St) : Int64 := s.2.1.2.1
def St.fp (s : St) : Nat → Int32 := s.2.1.2.2.1
def St.sp (s : St) : Nat → Int32 := s.2.1.2.2.2.1
def St.an (s : St) : Nat → Int64 := s.2.1.2.2.2.2
def St.hd (s : St) : Nat → Int32 := s.2.2.1.1
def St.hand (s : St) : Nat := s.2.2.1.2
def St.mg (s : St) : Nat := s.2.2.2.1.1
def St.their (s : St) : Nat := s.2.2.2.1.2.1
def St.old (s : St) : Nat := s.2.2.2.1.2.2.1
def St.cf (s : St) : List (Nat × Int32 × Bool) := s.2.2.2.1.2.2.2
def St.dl (s : St) : List (Int32 × Int32) := s.2.2.2.2.1
def St.thr (s : St) : Int64 := s.2.2.2.2.2.1
def St.th (s : St) : Nat → Int32 := s.2.2.2.2.2.2
def St.set1 (s : St) (x : Nat → Nat → List Row) : St := (x, s.2)
def St.set2 (s : St) (x : Nat × Int64 × (Nat → Int32) × (Nat → Int32) × (Nat → Int64)) : St := (s.1, x, s.2.2)
def St.set3 (s : St) (x : (Nat → Int32) × Nat) : St := (s.1, s.2.1, x, s.2.2.2)
def St.set4 (s : St) (x : Nat × Nat × Nat × List (Nat × Int32 × Bool)) : St := (s.1, s.2.1, s.2.2.1, x, s.2.2.2.2)
def St.set5 (s : St) (x : List (Int32 × Int32)) : St := (s.1, s.2.1, s.2.2.1, s.2.2.2.1, x, s.2.2.2.2.2)
def St.set6 (s : St) (x : Int64 × (Nat → Int32)) : St := (s.1, s.2.1, s.2.2.1, s.2.2.2.1, s.2.2.2.2.1, x)
/-- one table of the work, all three -/
def St.wk (s : St) (t : Nat) (l : List Row) : St := s.set1 (fun p u => if p = 60 ∧ u = t then l else s.T p u)
def St.wk3 (s : St) (ls : Nat → List Row) : St := s.set1 (fun p u => if p = 60 then ls u else s.T p u)
def St.sh (s : St) (b : Nat) (v : Int32) : St := s.set3 (fun x => if x = b then v else s.hd x, s.hand)
def aCom (c : Int32) (made : Nat) : Prop := c = -1 ∨ ∃ k, c = nI k ∧ k < made
/-- what holds of every state -/
def St.wf (s : St) : Prop :=
  (1 ≤ s.made ∧ s.made ≤ 60) ∧ (∀ p t, (p < s.made ∨ p = 60) → t < 3 → Srt (s.T p t) ∧ (s.T p t).length ≤ 200) ∧
  (∀ c, c < 64 → bt s.here c = true → c < s.made) ∧
  (∀ c, c < s.made → bt (s.an c) c = true ∧ bt (s.an c) 0 = true ∧ (∀ i, i < 64 → bt (s.an c) i = true → i ≤ c) ∧ ∀ i j, i < 64 → j < 64 → bt (s.an c) i = true → bt (s.an i) j = true → bt (s.an c) j = true) ∧
  (∀ c, c < s.made → aCom (s.fp c) c ∧ aCom (s.sp c) c) ∧
  (∀ b, b < 6 → aCom (s.hd b) s.made) ∧ (s.hand < 6 ∧ s.hd s.hand ≠ -1 ∧ (∀ b, b < 6 → s.hd b ≠ -1 → bt s.here (Int32.toNatClampNeg (s.hd b)) = true) ∧ (∀ c i, c < 64 → i < 64 → bt s.here c = true → bt (s.an c) i = true → bt s.here i = true) ∧ ∀ c, c < s.made → s.fp c ≠ -1 → bt (s.an c) (Int32.toNatClampNeg (s.fp c)) = true) ∧
  (s.mg ≤ 2 ∧ (0 < s.mg → s.their < s.made ∧ s.old < s.made ∧ bt s.here s.their = true) ∧ (s.mg = 0 → s.cf = []) ∧ s.cf.length ≤ 900 ∧ ∀ c ∈ s.cf, c.1 < 3) ∧
  s.dl.length ≤ 400 ∧ ((∀ c, c < 64 → bt s.thr c = true → c < s.made) ∧ ∀ b, b < 6 → aCom (s.th b) s.made)
/-! the reference holds a state -/
def Rr (h : jj_H) (m : Nat) (s : St) : Prop :=
  rM h m ∧ (∀ p, (p < s.made ∨ p = 60) → rT3 h m p (s.T p)) ∧ (∀ p t, p < s.made → t < 3 → rTr h m (3 * p + t) (tree (s.T p t))) ∧
  (jI h 513 m 0 = nI s.made ∧ jL h 514 m 0 = s.here ∧ ∀ c, c < s.made → jI h 1000 (m + 13) c = s.fp c ∧ jI h 1000 (m + 14) c = s.sp c ∧ jL h 1000 (m + 15) c = s.an c) ∧
  ((∀ b, b < 6 → jI h 1000 (m + 16) b = s.hd b) ∧ jI h 519 m 0 = nI s.hand) ∧
  (jI h 520 m 0 = nI s.mg ∧ (0 < s.mg → jI h 521 m 0 = nI s.their ∧ jI h 522 m 0 = nI s.old) ∧ jI h 523 m 0 = nI s.cf.length ∧ ∀ i c, s.cf[i]? = some c → jI h 1000 (m + 17) i = nI c.1 ∧ jI h 1000 (m + 18) i = c.2.1 ∧ jI h 1000 (m + 19) i = (if c.2.2 then 1 else 0)) ∧
  (jI h 527 m 0 = nI s.dl.length ∧ ∀ i c, s.dl[i]? = some c → jI h 1000 (m + 20) i = c.1 ∧ jI h 1000 (m + 21) i = c.2) ∧
  (jL h 530 m 0 = s.thr ∧ ∀ b, b < 6 → jI h 1000 (m + 22) b = s.th b)
def rfr (h h' : jj_H) (m : Nat) : Prop := h'.2.2 = h.2.2 ∧ ∀ tg a i, (a < m ∨ m + 24 < a) → jI h' tg a i = jI h tg a i ∧ jL h' tg a i = jL h tg a i
theorem rfr.rf {h : jj_H} {m : Nat} : rfr h h m := ⟨rfl, fun _ _ _ _ => ⟨rfl, rfl⟩⟩
theorem rfr.trans {h h1 h2 : jj_H} {m : Nat} (a : rfr h h1 m) (b : rfr h1 h2 m) : rfr h h2 m := ⟨b.1.trans a.1, fun tg x i p => ⟨((b.2 tg x i p).1).trans (a.2 tg x i p).1, ((b.2 tg x i p).2).trans (a.2 tg x i p).2⟩⟩
theorem rfr.wI {h : jj_H} {m tg a i : Nat} {v : Int32} (h1 : m ≤ a) (h2 : a ≤ m + 24) : rfr h (wI h tg a i v) m := ⟨rfl, fun t x j p => ⟨by rw [jI_wI, if_neg (by omega)], rfl⟩⟩
theorem rfr.wL {h : jj_H} {m tg a i : Nat} {v : Int64} (h1 : m ≤ a) (h2 : a ≤ m + 24) : rfr h (wL h tg a i v) m := ⟨rfl, fun t x j p => ⟨rfl, by rw [jL_wL, if_neg (by omega)]⟩⟩
theorem rFs.fr {h h' : jj_H} {m s : Nat} (F : rFs h h' m s) : rfr h h' m := ⟨by rw [F.1], fun tg a i p => ⟨F.2.1 tg a i (by omega) (by omega) (by omega), by unfold jL; rw [F.1]⟩⟩
theorem rFw.fr {h h' : jj_H} {m : Nat} (F : rFw h h' m) : rfr h h' m := ⟨F.1, fun tg a i p => ⟨F.2.1 tg a i (by omega), F.2.2.2 tg a i (by omega)⟩⟩
theorem dFr.fr {h h' : jj_H} {m : Nat} (F : dFr h h' m) : rfr h h' m := ⟨F.1, fun tg a i p => ⟨F.2.1 tg a i (by omega) (by omega), F.2.2.2 tg a i (by omega)⟩⟩
theorem rFt.fr {h h' : jj_H} {m k : Nat} (F : rFt h h' m k) : rfr h h' m := ⟨F.1, fun tg a i p => ⟨F.2.1 tg a i (by omega), F.2.2.2.2 tg a i (by omega)⟩⟩
