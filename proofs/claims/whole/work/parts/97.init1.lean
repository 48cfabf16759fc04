/-! the class is made: what lies where -/
def KS : List (Nat × Nat) := [(10, 0), (27, 3), (8, 0), (7, 0), (21, 800), (25, 202), (21, 9), (8, 0), (7, 0), (21, 800), (25, 202), (21, 9), (8, 0), (7, 0), (21, 800), (25, 202), (21, 9), (9, 0), (21, 400), (5, 0), (25, 4096), (24, 60), (21, 6), (2, 0), (21, 400), (21, 400), (3, 0), (24, 3), (26, 3), (21, 3), (7, 0), (21, 4), (21, 900), (21, 900), (23, 900), (7, 0), (21, 800), (7, 0), (21, 800), (7, 0), (21, 800), (6, 0), (21, 6)]
def rdl : List (Nat × Nat × Nat × Nat) → Nat → Nat → Nat → Option Nat
  | [], _, _, _ => none
  | e :: r, tg, o, i => if tg = e.1 ∧ o = e.2.1 ∧ i = e.2.2.1 then some e.2.2.2 else rdl r tg o i
def rvl (x : Nat) : Option Nat → Nat
  | none => 0
  | some v => x + v
def ril : List (Nat × Nat × Nat × Int32) → Nat → Nat → Nat → Int32
  | [], _, _, _ => 0
  | e :: r, tg, o, i => if tg = e.1 ∧ o = e.2.1 ∧ i = e.2.2.1 then e.2.2.2 else ril r tg o i
def KI (x : Nat) (h : jj_H) (n : Nat) (rs : List (Nat × Nat × Nat × Nat)) (is : List (Nat × Nat × Nat × Int32)) : Prop := jZ h + 1 = x + n ∧ (∀ j, j < n → jK h (x + j) = (KS.getD j (0, 0)).1 ∧ jN h (x + j) = (KS.getD j (0, 0)).2) ∧ (∀ tg o i, o < n → jR h tg (x + o) i = rvl x (rdl rs tg o i)) ∧ (∀ tg o i, o < n → jI h tg (x + o) i = ril is tg o i) ∧ (∀ tg o i, o < n → jL h tg (x + o) i = 0) ∧ (∀ e ∈ rs, e.2.1 < n) ∧ ∀ e ∈ is, e.2.1 < n
theorem rdl_none {rs : List (Nat × Nat × Nat × Nat)} {tg o i : Nat} (h : ∀ e ∈ rs, ¬ (tg = e.1 ∧ o = e.2.1)) : rdl rs tg o i = none := by
  induction rs with
  | nil => rfl
  | cons e r ih =>
    rw [rdl, if_neg (fun z => h e List.mem_cons_self ⟨z.1, z.2.1⟩)]
    exact ih fun e' he => h e' (List.mem_cons_of_mem _ he)
theorem ril_zero {rs : List (Nat × Nat × Nat × Int32)} {tg o i : Nat} (h : ∀ e ∈ rs, ¬ (tg = e.1 ∧ o = e.2.1)) : ril rs tg o i = 0 := by
  induction rs with
  | nil => rfl
  | cons e r ih =>
    rw [ril, if_neg (fun z => h e List.mem_cons_self ⟨z.1, z.2.1⟩)]
    exact ih fun e' he => h e' (List.mem_cons_of_mem _ he)
section JI1
variable {h h' h1 : jj_H} {x n k len o i v tg : Nat} {rs : List (Nat × Nat × Nat × Nat)} {is : List (Nat × Nat × Nat × Int32)} {Q : Value → jj_H → Prop}
theorem KI.z (K : KI x h n rs is) : jZ h + 1 = x + n := K.1
theorem KI.gk (K : KI x h n rs is) (j : Nat) (hj : j < n) : jK h (x + j) = (KS.getD j (0, 0)).1 := (K.2.1 j hj).1
theorem KI.gn (K : KI x h n rs is) (j : Nat) (hj : j < n) : jN h (x + j) = (KS.getD j (0, 0)).2 := (K.2.1 j hj).2
theorem KI.r (K : KI x h n rs is) (tg o i : Nat) (ho : o < n) : jR h tg (x + o) i = rvl x (rdl rs tg o i) := K.2.2.1 tg o i ho
theorem KI.gi (K : KI x h n rs is) (tg o i : Nat) (ho : o < n) : jI h tg (x + o) i = ril is tg o i := K.2.2.2.1 tg o i ho
theorem KI.l (K : KI x h n rs is) (tg o i : Nat) (ho : o < n) : jL h tg (x + o) i = 0 := K.2.2.2.2.1 tg o i ho
theorem KI.A (K : KI x h n rs is) (e : KS.getD n (0, 0) = (k, len)) (e1 : h1 = wA h k len) : KI x h1 (n + 1) rs is := by
  subst e1
  obtain ⟨a1, a2, a3, a4, a5, a6, a7⟩ := K
  refine ⟨by rw [jZ_wA]; omega, fun j hj => ?_, fun tg o i ho => ?_, fun tg o i ho => ?_, fun tg o i ho => ?_, fun e he => by have := a6 e he; omega, fun e he => by have := a7 e he; omega⟩
  · rw [jK_wA, jN_wA]
    by_cases c : j = n
    · subst c
      rw [if_pos (by omega), if_pos (by omega), e]
      exact ⟨rfl, rfl⟩
    · rw [if_neg (by omega), if_neg (by omega)]; exact a2 j (by omega)
  · rw [jR_wA]
    by_cases c : o = n
    · rw [if_pos (by omega), rdl_none (fun e he z => by have := a6 e he; omega)]; rfl
    · rw [if_neg (by omega)]; exact a3 tg o i (by omega)
  · rw [jI_wA]
    by_cases c : o = n
    · rw [if_pos (by omega), ril_zero (fun e he z => by have := a7 e he; omega)]
    · rw [if_neg (by omega)]; exact a4 tg o i (by omega)
  · rw [jL_wA]
    by_cases c : o = n
    · rw [if_pos (by omega)]
    · rw [if_neg (by omega)]; exact a5 tg o i (by omega)
theorem KI.R (K : KI x h n rs is) (ho : o < n) (e1 : h1 = wR h tg (x + o) i (x + v)) : KI x h1 n ((tg, o, i, v) :: rs) is := by
  subst e1
  obtain ⟨a1, a2, a3, a4, a5, a6, a7⟩ := K
  refine ⟨a1, a2, fun tg' o' i' ho' => ?_, a4, a5, fun e he => ?_, a7⟩
  · rw [jR_wR, rdl]
    by_cases c : tg' = tg ∧ o' = o ∧ i' = i
    · rw [if_pos ⟨c.1, by omega, c.2.2⟩, if_pos c]; rfl
    · rw [if_neg (fun z => c ⟨z.1, by omega, z.2.2⟩), if_neg c]; exact a3 tg' o' i' ho'
  · rcases List.mem_cons.mp he with z | z
    · rw [z]; exact ho
    · exact a6 e z
theorem KI.I {w : Int32} (K : KI x h n rs is) (ho : o < n) (e1 : h1 = wI h tg (x + o) i w) : KI x h1 n rs ((tg, o, i, w) :: is) := by
  subst e1
  obtain ⟨a1, a2, a3, a4, a5, a6, a7⟩ := K
  refine ⟨a1, a2, a3, fun tg' o' i' ho' => ?_, a5, a6, fun e he => ?_⟩
  · rw [jI_wI, ril]
    by_cases c : tg' = tg ∧ o' = o ∧ i' = i
    · rw [if_pos ⟨c.1, by omega, c.2.2⟩, if_pos c]
    · rw [if_neg (fun z => c ⟨z.1, by omega, z.2.2⟩), if_neg c]; exact a4 tg' o' i' ho'
  · rcases List.mem_cons.mp he with z | z
    · rw [z]; exact ho
    · exact a7 e z
/-- rows of c places are made -/
theorem k_rows {c : Int32} {bc bs : Nat} (hx : 1 ≤ x) (K : KI x h n rs is) (ho : o < n) (hk : (KS.getD o (0, 0)).1 = 7) (hn : KS.getD n (0, 0) = (21, len)) (hc : Int32.toNatClampNeg (4 * (if (0 : Int32) < c then c else 0)) = len) (hc2 : ¬ (4 * (if (0 : Int32) < c then c else 0)) < 0) (hl : len ≤ 800) (hb : 1 ≤ bc) (hs : 800 ≤ bs) (H : ∀ h', KI x h' (n + 1) ((300, o, 0, n) :: rs) is → Q (.int 0) h') : jj_C mX6_init bc bs [.ref (x + o), .int c] h Q := by
  refine EX6_init _ _ fun d => ⟨by omega, hb, ?_⟩
  rw [hc, K.z]
  refine ⟨by omega, hc2, by omega, fun h1 e1 => ?_⟩
  have K1 := K.A hn e1
  refine ⟨(K1.gk o (by omega)).trans hk, fun h2 e2 => H h2 (K1.R (by omega) e2)⟩
/-- six numbers are written -/
theorem k_fill {w : Int32} (K : KI x h n rs is) (ho : o < n) (hk : KS.getD o (0, 0) = (21, 6)) (H : ∀ h', KI x h' n rs ((1000, o, 5, w) :: (1000, o, 4, w) :: (1000, o, 3, w) :: (1000, o, 2, w) :: (1000, o, 1, w) :: (1000, o, 0, w) :: is) → Q (.int 0) h') : jj_C mJ7_fill_53178 0 0 [.ref (x + o), .int w] h Q := by
  have kk : ∀ {g : jj_H} {is'}, KI x g n rs is' → jK g (x + o) = 21 := fun K' => by rw [K'.gk o ho, hk]
  have nn : ∀ {g : jj_H} {is'}, KI x g n rs is' → jN g (x + o) = 6 := fun K' => by rw [K'.gn o ho, hk]
  refine EJ7_fill_53178 _ _ fun d => ⟨kk K, ?_⟩
  rw [nn K]
  have step : ∀ (j : Nat) (g : jj_H) (is' : List (Nat × Nat × Nat × Int32)), j < 6 → KI x g n rs is' → (∀ g', KI x g' n rs ((1000, o, j, w) :: is') → jj_WP d mJ7_fill_53178 0 0 5 [(0, .ref (x + o)), (1, .int w), (2, .int (nI (j + 1))), (3, .int (nI 6))] [] g' Q) → jj_WP d mJ7_fill_53178 0 0 5 [(0, .ref (x + o)), (1, .int w), (2, .int (nI j)), (3, .int (nI 6))] [] g Q := by
    intro j g is' hj Kg HH
    refine VJ7_fill_53178_5 _ _ _ _ ?_
    rw [nI_leI (by omega) (by omega), nn Kg, q_clamp (by omega), qa_1]
    exact ⟨fun c => by omega, fun _ => ⟨kk Kg, vp_in_nI hj (by decide), fun g' e => HH g' (Kg.I ho e)⟩⟩
  refine step 0 h is (by omega) K fun g1 K1 => step 1 g1 _ (by omega) K1 fun g2 K2 => step 2 g2 _ (by omega) K2 fun g3 K3 => step 3 g3 _ (by omega) K3 fun g4 K4 => step 4 g4 _ (by omega) K4 fun g5 K5 => step 5 g5 _ (by omega) K5 fun g6 K6 => ?_
  exact VJ7_fill_53178_5 _ _ _ _ ⟨fun _ => H g6 K6, fun c => absurd (Int32.le_refl _) c⟩
end JI1
/-! the class before its first commit -/
def sA : St := (fun _ _ => [], (0, 0, fun _ => -1, fun _ => -1, fun _ => 1), ((fun _ => -1), 0), (0, 0, 0, []), [], (0, fun _ => -1))
def RSx : List (Nat × Nat × Nat × Nat) := [(460, 0, 0, 41), (250, 41, 0, 42), (459, 0, 0, 26), (1000, 28, 2, 39), (300, 39, 0, 40), (1000, 28, 1, 37), (300, 37, 0, 38), (1000, 28, 0, 35), (300, 35, 0, 36), (108, 26, 0, 34), (107, 26, 0, 33), (106, 26, 0, 32), (105, 26, 0, 30), (300, 30, 0, 31), (104, 26, 0, 29), (103, 26, 0, 28), (102, 26, 0, 27), (458, 0, 0, 23), (51, 23, 0, 25), (50, 23, 0, 24), (456, 0, 0, 22), (453, 0, 0, 21), (452, 0, 0, 19), (200, 19, 0, 20), (451, 0, 0, 17), (400, 17, 0, 18), (1000, 1, 2, 12), (352, 12, 0, 16), (351, 12, 0, 15), (350, 12, 0, 13), (300, 13, 0, 14), (1000, 1, 1, 7), (352, 7, 0, 11), (351, 7, 0, 10), (350, 7, 0, 8), (300, 8, 0, 9), (1000, 1, 0, 2), (352, 2, 0, 6), (351, 2, 0, 5), (350, 2, 0, 3), (300, 3, 0, 4), (450, 0, 0, 1)]
def ISx : List (Nat × Nat × Nat × Int32) := [(1000, 42, 5, -1), (1000, 42, 4, -1), (1000, 42, 3, -1), (1000, 42, 2, -1), (1000, 42, 1, -1), (1000, 42, 0, -1), (301, 30, 0, 1), (1000, 22, 5, -1), (1000, 22, 4, -1), (1000, 22, 3, -1), (1000, 22, 2, -1), (1000, 22, 1, -1), (1000, 22, 0, -1), (354, 12, 0, 1), (354, 7, 0, 1), (354, 2, 0, 1)]
theorem sA_D : sA.D 0 = 0 := by
  unfold St.D
  rw [dct_set (l' := []) fun k => ?_]
  · rfl
  · have e := mem_D (s := sA) (z := 0) (k := k) (by decide) (fun c _ z => by rw [bt_0] at z; cases z)
    rw [e]
    constructor
    · rintro ⟨c, h1, _⟩
      exact absurd h1 (Nat.not_lt_zero _)
    · intro z; cases z
theorem tbx1 : ∀ q ∈ cT, rdl RSx q.1 q.2.1 0 = some q.2.2.1 ∧ KS.getD q.2.2.1 (0, 0) = (q.2.2.2.1, q.2.2.2.2) ∧ q.2.1 < 43 ∧ q.2.2.1 < 43 := by decide +kernel
theorem tbx2 : ∀ t, t < 3 → rdl RSx 1000 1 t = some (2 + 5 * t) ∧ rdl RSx 1000 28 t = some (35 + 2 * t) ∧ KS.getD (35 + 2 * t) (0, 0) = (7, 0) ∧ rdl RSx 300 (35 + 2 * t) 0 = some (36 + 2 * t) ∧ KS.getD (36 + 2 * t) (0, 0) = (21, 800) := by decide +kernel
theorem tbx3 : ∀ t, t < 3 → rdl RSx 350 (2 + 5 * t) 0 = some (3 + 5 * t) ∧ rdl RSx 351 (2 + 5 * t) 0 = some (5 + 5 * t) ∧ rdl RSx 352 (2 + 5 * t) 0 = some (6 + 5 * t) ∧ rdl RSx 300 (3 + 5 * t) 0 = some (4 + 5 * t) ∧ KS.getD (2 + 5 * t) (0, 0) = (8, 0) ∧ KS.getD (3 + 5 * t) (0, 0) = (7, 0) ∧ KS.getD (4 + 5 * t) (0, 0) = (21, 800) ∧ KS.getD (5 + 5 * t) (0, 0) = (25, 202) ∧ KS.getD (6 + 5 * t) (0, 0) = (21, 9) ∧ ril ISx 354 (2 + 5 * t) 0 = 1 ∧ ril ISx 301 (3 + 5 * t) 0 = 0 ∧ ∀ e ∈ RSx, ¬ (1000 = e.1 ∧ 5 + 5 * t = e.2.1) := by decide +kernel
theorem tbx4 : ∀ b, b < 6 → ril ISx 1000 22 b = -1 ∧ ril ISx 1000 42 b = -1 := by decide +kernel
theorem k_fin {x : Nat} {h : jj_H} (hx : 1 ≤ x) (K : KI x h 43 RSx ISx) : RcB h x 0 sA 0 (fun _ => []) ∧ RcG h x sA := by
  have zz := K.z
  have na : ∀ t, t < 3 → ∀ i, jR h 1000 (wb x t + 3) i = 0 := fun t ht i => by
    obtain ⟨_, _, _, _, _, _, _, _, _, _, _, a⟩ := tbx3 t ht
    rw [show wb x t + 3 = x + (5 + 5 * t) by unfold wb; omega, K.r _ _ _ (by omega), rdl_none a]
    rfl
  refine ⟨⟨⟨hx, by omega, by omega, fun a _ h2 h3 => by omega⟩, ⟨K.gk 0 (by decide), fun q hq => ?_, fun t ht => ?_⟩, ⟨fun t ht => ?_, fun t t' i i' ht ht' hi hi' _ => Or.inl (na t ht i)⟩, fun β hβ => ⟨?_, List.nodup_nil, fun q hq => by cases hq⟩, fun c hc => absurd hc (Nat.not_lt_zero _), ⟨0, Nat.le_refl _, by decide, K.gi 201 19 0 (by decide), fun β _ p hp => (by cases hp), fun c t hc => absurd hc (Nat.not_lt_zero _)⟩, fun β _ p hp => by cases hp⟩, ⟨K.gi 454 0 0 (by decide), K.l 455 0 0 (by decide), fun b hb => ?_, K.gi 457 0 0 (by decide)⟩, ⟨K.gi 52 23 0 (by decide), fun i c hc => by cases hc⟩, ⟨K.gi 100 26 0 (by decide), fun q => absurd q (Nat.lt_irrefl 0), ⟨K.gi 109 26 0 (by decide), K.gi 110 26 0 (by decide), fun i c hc => by cases hc⟩, K.gi 301 30 0 (by decide)⟩, K.l 251 41 0 (by decide), ?_, fun b hb => ?_⟩
  · obtain ⟨a1, a2, a3, a4⟩ := tbx1 q hq
    refine ⟨by rw [K.r _ _ _ a3, a1]; rfl, by rw [K.gk _ a4, a2], by rw [K.gn _ a4, a2]⟩
  · obtain ⟨a1, a2, a3, a4, a5⟩ := tbx2 t ht
    have e1 : x + 35 + 2 * t = x + (35 + 2 * t) := by omega
    have e2 : x + 36 + 2 * t = x + (36 + 2 * t) := by omega
    have e3 : x + 2 + 5 * t = x + (2 + 5 * t) := by omega
    rw [e1, e2, e3]
    exact ⟨by rw [K.r _ _ _ (by omega), a1]; rfl, by rw [K.r _ _ _ (by omega), a2]; rfl, by rw [K.gk _ (by omega), a3], by rw [K.r _ _ _ (by omega), a4]; rfl, by rw [K.gk _ (by omega), a5], by rw [K.gn _ (by omega), a5]⟩
  · obtain ⟨a1, a2, a3, a4, a5, a6, a7, a8, a9, a10, a11, a12⟩ := tbx3 t ht
    have e0 : wb x t = x + (2 + 5 * t) := by unfold wb; omega
    have e1 : wb x t + 1 = x + (3 + 5 * t) := by unfold wb; omega
    have e2 : wb x t + 2 = x + (4 + 5 * t) := by unfold wb; omega
    have e3 : wb x t + 3 = x + (5 + 5 * t) := by unfold wb; omega
    have e4 : wb x t + 4 = x + (6 + 5 * t) := by unfold wb; omega
    have r1 : jK h (wb x t + 1) = 7 := by rw [e1, K.gk _ (by omega), a6]
    have r2 : jR h 300 (wb x t + 1) 0 = wb x t + 2 := by rw [e1, e2, K.r _ _ _ (by omega), a4]; rfl
    have r3 : jK h (wb x t + 2) = 21 := by rw [e2, K.gk _ (by omega), a7]
    have r4 : jN h (wb x t + 2) = 800 := by rw [e2, K.gn _ (by omega), a7]
    refine ⟨⟨by rw [e0, K.gk _ (by omega), a5], by rw [e1, e0, K.r _ _ _ (by omega), a1]; rfl, by rw [e3, e0, K.r _ _ _ (by omega), a2]; rfl, by rw [e4, e0, K.r _ _ _ (by omega), a3]; rfl, r1, r2, r3, r4, by rw [e3, K.gk _ (by omega), a8], by rw [e3, K.gn _ (by omega), a8], by rw [e4, K.gk _ (by omega), a9], by rw [e4, K.gn _ (by omega), a9]⟩, ⟨fun i _ => Or.inl (na t ht i), fun i j _ _ _ => Or.inl (na t ht i)⟩, ⟨r1, r2, r3, Nat.zero_le _, by omega, by rw [e1, K.gi _ _ _ (by omega), a11]; rfl, Nat.zero_le _, fun i y c hy => by cases hy⟩, fun z => ?_, fun i _ => Or.inl (na t ht i)⟩
    rw [e0, K.gi _ _ _ (by omega), a10] at z
    exact absurd z (by decide)
  · show jR h 1000 (x + 20) β = 0
    rw [K.r _ _ _ (by decide), rdl_none (by decide +kernel)]
    rfl
  · rw [K.gi _ _ _ (by decide), (tbx4 b hb).1]; rfl
  · show _ = nI (sA.D 0)
    rw [sA_D]
    exact K.gi 252 41 0 (by decide)
  · rw [K.gi _ _ _ (by decide), (tbx4 b hb).2]; rfl
