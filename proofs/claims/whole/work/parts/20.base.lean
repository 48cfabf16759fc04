/-! numbers -/
theorem q_lit (c : Nat) : (OfNat.ofNat c : Int32) = nI c := rfl
theorem q_mul (c k : Nat) : (OfNat.ofNat c : Int32) * nI k = nI (c * k) := pk_mul c k
theorem q_mulr (c k : Nat) : nI k * (OfNat.ofNat c : Int32) = nI (k * c) := pk_mul k c
theorem q_addl (a c : Nat) : nI a + (OfNat.ofNat c : Int32) = nI (a + c) := nI_add a c
theorem q_ladd (a c : Nat) : (OfNat.ofNat c : Int32) + nI a = nI (c + a) := nI_add c a
theorem q_clamp {n : Nat} (h : n < 2147483648) : Int32.toNatClampNeg (nI n) = n := nI_clamp h
theorem q_in {n N : Nat} (h : n < N) (hN : N < 2147483648) : vp_in (nI n) N = True := eq_true (vp_in_nI h hN)
theorem q_0le {n : Nat} (h : n < 2147483648) : (0 ≤ nI n) = True := eq_true (nI_pos' h)
theorem q_lt0 {n : Nat} (h : n < 2147483648) : (nI n < 0) = False := eq_false (nI_pos h)
theorem q_leL {n c : Nat} (h : n < 2147483648) (hc : c < 2147483648) : (nI n ≤ (OfNat.ofNat c : Int32)) = (n ≤ c) := propext (nI_leI h hc)
theorem q_Lle {n c : Nat} (h : n < 2147483648) (hc : c < 2147483648) : ((OfNat.ofNat c : Int32) ≤ nI n) = (c ≤ n) := propext (nI_leI hc h)
theorem q_ltL {n c : Nat} (h : n < 2147483648) (hc : c < 2147483648) : (nI n < (OfNat.ofNat c : Int32)) = (n < c) := propext (nI_ltI h hc)
theorem q_Llt {n c : Nat} (h : n < 2147483648) (hc : c < 2147483648) : ((OfNat.ofNat c : Int32) < nI n) = (c < n) := propext (nI_ltI hc h)
theorem q_eqL {n c : Nat} (h : n < 2147483648) (hc : c < 2147483648) : (nI n = (OfNat.ofNat c : Int32)) = (n = c) := propext (nI_eq h hc)
theorem q_pred {p : Nat} (h : 0 < p) : nI p + (-1) = nI (p - 1) := sb_m1 h
theorem q_sub {a b : Nat} (h : b ≤ a) : nI a - nI b = nI (a - b) := pk_sub h
theorem q_subL {a c : Nat} (h : c ≤ a) : nI a - (OfNat.ofNat c : Int32) = nI (a - c) := pk_sub (b := c) h
/-! where nothing changes but at some cells -/
def jj_fr (P : Nat → Prop) (h h' : jj_H) : Prop := h'.2.2 = h.2.2 ∧ (∀ t a i, ¬ P a → jI h' t a i = jI h t a i) ∧ (∀ t a i, ¬ P a → jL h' t a i = jL h t a i)
theorem jj_fr.rf {P : Nat → Prop} {h : jj_H} : jj_fr P h h := ⟨rfl, fun _ _ _ _ => rfl, fun _ _ _ _ => rfl⟩
theorem jj_fr.trans {P : Nat → Prop} {h h1 h2 : jj_H} (a : jj_fr P h h1) (b : jj_fr P h1 h2) : jj_fr P h h2 := ⟨b.1.trans a.1, fun t x i hp => (b.2.1 t x i hp).trans (a.2.1 t x i hp), fun t x i hp => (b.2.2 t x i hp).trans (a.2.2 t x i hp)⟩
theorem jj_fr.mono {P P' : Nat → Prop} {h h1 : jj_H} (a : jj_fr P h h1) (hp : ∀ x, P x → P' x) : jj_fr P' h h1 := ⟨a.1, fun t x i q => a.2.1 t x i (fun z => q (hp x z)), fun t x i q => a.2.2 t x i (fun z => q (hp x z))⟩
theorem jj_fr.wI {P : Nat → Prop} {h : jj_H} {t a i : Nat} {v : Int32} (ha : P a) : jj_fr P h (wI h t a i v) := ⟨rfl, fun t' x i' hp => by rw [jI_wI, if_neg (fun q => hp (q.2.1 ▸ ha))], fun _ _ _ _ => rfl⟩
theorem jj_fr.wL {P : Nat → Prop} {h : jj_H} {t a i : Nat} {v : Int64} (ha : P a) : jj_fr P h (wL h t a i v) := ⟨rfl, fun _ _ _ _ => rfl, fun t' x i' hp => by rw [jL_wL, if_neg (fun q => hp (q.2.1 ▸ ha))]⟩
def rT : List (Nat × Nat × Nat × Nat) := [(501, 1, 21, 37200), (502, 2, 21, 111600), (503, 3, 21, 186), (504, 4, 21, 183), (505, 5, 21, 183), (506, 6, 21, 38430), (507, 7, 21, 38430), (508, 8, 21, 38430), (509, 9, 21, 38430), (510, 10, 22, 38430), (511, 11, 21, 3360), (512, 12, 21, 1), (515, 13, 21, 60), (516, 14, 21, 60), (517, 15, 22, 60), (518, 16, 21, 6), (524, 17, 21, 1200), (525, 18, 21, 1200), (526, 19, 23, 1200), (528, 20, 21, 400), (529, 21, 21, 400), (531, 22, 21, 6), (532, 23, 21, 65536), (533, 24, 21, 3)]
/-- the reference at m: its arrays lie behind it, in order -/
def rM (h : jj_H) (m : Nat) : Prop := jK h m = 11 ∧ ∀ q ∈ rT, jR h q.1 m 0 = m + q.2.1 ∧ jK h (m + q.2.1) = q.2.2.1 ∧ jN h (m + q.2.1) = q.2.2.2
theorem rM_k {h : jj_H} {m : Nat} (M : rM h m) : jK h m = 11 := M.1
theorem rM_r501 {h : jj_H} {m : Nat} (M : rM h m) : jR h 501 m 0 = m + 1 := (M.2 (501, 1, 21, 37200) (by decide)).1
theorem rM_k1 {h : jj_H} {m : Nat} (M : rM h m) : jK h (m + 1) = 21 := (M.2 (501, 1, 21, 37200) (by decide)).2.1
theorem rM_n1 {h : jj_H} {m : Nat} (M : rM h m) : jN h (m + 1) = 37200 := (M.2 (501, 1, 21, 37200) (by decide)).2.2
theorem rM_r502 {h : jj_H} {m : Nat} (M : rM h m) : jR h 502 m 0 = m + 2 := (M.2 (502, 2, 21, 111600) (by decide)).1
theorem rM_k2 {h : jj_H} {m : Nat} (M : rM h m) : jK h (m + 2) = 21 := (M.2 (502, 2, 21, 111600) (by decide)).2.1
theorem rM_n2 {h : jj_H} {m : Nat} (M : rM h m) : jN h (m + 2) = 111600 := (M.2 (502, 2, 21, 111600) (by decide)).2.2
theorem rM_r503 {h : jj_H} {m : Nat} (M : rM h m) : jR h 503 m 0 = m + 3 := (M.2 (503, 3, 21, 186) (by decide)).1
theorem rM_k3 {h : jj_H} {m : Nat} (M : rM h m) : jK h (m + 3) = 21 := (M.2 (503, 3, 21, 186) (by decide)).2.1
theorem rM_n3 {h : jj_H} {m : Nat} (M : rM h m) : jN h (m + 3) = 186 := (M.2 (503, 3, 21, 186) (by decide)).2.2
theorem rM_r504 {h : jj_H} {m : Nat} (M : rM h m) : jR h 504 m 0 = m + 4 := (M.2 (504, 4, 21, 183) (by decide)).1
theorem rM_k4 {h : jj_H} {m : Nat} (M : rM h m) : jK h (m + 4) = 21 := (M.2 (504, 4, 21, 183) (by decide)).2.1
theorem rM_n4 {h : jj_H} {m : Nat} (M : rM h m) : jN h (m + 4) = 183 := (M.2 (504, 4, 21, 183) (by decide)).2.2
theorem rM_r505 {h : jj_H} {m : Nat} (M : rM h m) : jR h 505 m 0 = m + 5 := (M.2 (505, 5, 21, 183) (by decide)).1
theorem rM_k5 {h : jj_H} {m : Nat} (M : rM h m) : jK h (m + 5) = 21 := (M.2 (505, 5, 21, 183) (by decide)).2.1
theorem rM_n5 {h : jj_H} {m : Nat} (M : rM h m) : jN h (m + 5) = 183 := (M.2 (505, 5, 21, 183) (by decide)).2.2
theorem rM_r506 {h : jj_H} {m : Nat} (M : rM h m) : jR h 506 m 0 = m + 6 := (M.2 (506, 6, 21, 38430) (by decide)).1
theorem rM_k6 {h : jj_H} {m : Nat} (M : rM h m) : jK h (m + 6) = 21 := (M.2 (506, 6, 21, 38430) (by decide)).2.1
theorem rM_n6 {h : jj_H} {m : Nat} (M : rM h m) : jN h (m + 6) = 38430 := (M.2 (506, 6, 21, 38430) (by decide)).2.2
theorem rM_r507 {h : jj_H} {m : Nat} (M : rM h m) : jR h 507 m 0 = m + 7 := (M.2 (507, 7, 21, 38430) (by decide)).1
theorem rM_k7 {h : jj_H} {m : Nat} (M : rM h m) : jK h (m + 7) = 21 := (M.2 (507, 7, 21, 38430) (by decide)).2.1
theorem rM_n7 {h : jj_H} {m : Nat} (M : rM h m) : jN h (m + 7) = 38430 := (M.2 (507, 7, 21, 38430) (by decide)).2.2
theorem rM_r508 {h : jj_H} {m : Nat} (M : rM h m) : jR h 508 m 0 = m + 8 := (M.2 (508, 8, 21, 38430) (by decide)).1
theorem rM_k8 {h : jj_H} {m : Nat} (M : rM h m) : jK h (m + 8) = 21 := (M.2 (508, 8, 21, 38430) (by decide)).2.1
theorem rM_n8 {h : jj_H} {m : Nat} (M : rM h m) : jN h (m + 8) = 38430 := (M.2 (508, 8, 21, 38430) (by decide)).2.2
theorem rM_r509 {h : jj_H} {m : Nat} (M : rM h m) : jR h 509 m 0 = m + 9 := (M.2 (509, 9, 21, 38430) (by decide)).1
theorem rM_k9 {h : jj_H} {m : Nat} (M : rM h m) : jK h (m + 9) = 21 := (M.2 (509, 9, 21, 38430) (by decide)).2.1
theorem rM_n9 {h : jj_H} {m : Nat} (M : rM h m) : jN h (m + 9) = 38430 := (M.2 (509, 9, 21, 38430) (by decide)).2.2
theorem rM_r510 {h : jj_H} {m : Nat} (M : rM h m) : jR h 510 m 0 = m + 10 := (M.2 (510, 10, 22, 38430) (by decide)).1
theorem rM_k10 {h : jj_H} {m : Nat} (M : rM h m) : jK h (m + 10) = 22 := (M.2 (510, 10, 22, 38430) (by decide)).2.1
theorem rM_n10 {h : jj_H} {m : Nat} (M : rM h m) : jN h (m + 10) = 38430 := (M.2 (510, 10, 22, 38430) (by decide)).2.2
theorem rM_r511 {h : jj_H} {m : Nat} (M : rM h m) : jR h 511 m 0 = m + 11 := (M.2 (511, 11, 21, 3360) (by decide)).1
theorem rM_k11 {h : jj_H} {m : Nat} (M : rM h m) : jK h (m + 11) = 21 := (M.2 (511, 11, 21, 3360) (by decide)).2.1
theorem rM_n11 {h : jj_H} {m : Nat} (M : rM h m) : jN h (m + 11) = 3360 := (M.2 (511, 11, 21, 3360) (by decide)).2.2
theorem rM_r512 {h : jj_H} {m : Nat} (M : rM h m) : jR h 512 m 0 = m + 12 := (M.2 (512, 12, 21, 1) (by decide)).1
theorem rM_k12 {h : jj_H} {m : Nat} (M : rM h m) : jK h (m + 12) = 21 := (M.2 (512, 12, 21, 1) (by decide)).2.1
theorem rM_n12 {h : jj_H} {m : Nat} (M : rM h m) : jN h (m + 12) = 1 := (M.2 (512, 12, 21, 1) (by decide)).2.2
theorem rM_r515 {h : jj_H} {m : Nat} (M : rM h m) : jR h 515 m 0 = m + 13 := (M.2 (515, 13, 21, 60) (by decide)).1
theorem rM_k13 {h : jj_H} {m : Nat} (M : rM h m) : jK h (m + 13) = 21 := (M.2 (515, 13, 21, 60) (by decide)).2.1
theorem rM_n13 {h : jj_H} {m : Nat} (M : rM h m) : jN h (m + 13) = 60 := (M.2 (515, 13, 21, 60) (by decide)).2.2
theorem rM_r516 {h : jj_H} {m : Nat} (M : rM h m) : jR h 516 m 0 = m + 14 := (M.2 (516, 14, 21, 60) (by decide)).1
theorem rM_k14 {h : jj_H} {m : Nat} (M : rM h m) : jK h (m + 14) = 21 := (M.2 (516, 14, 21, 60) (by decide)).2.1
theorem rM_n14 {h : jj_H} {m : Nat} (M : rM h m) : jN h (m + 14) = 60 := (M.2 (516, 14, 21, 60) (by decide)).2.2
theorem rM_r517 {h : jj_H} {m : Nat} (M : rM h m) : jR h 517 m 0 = m + 15 := (M.2 (517, 15, 22, 60) (by decide)).1
theorem rM_k15 {h : jj_H} {m : Nat} (M : rM h m) : jK h (m + 15) = 22 := (M.2 (517, 15, 22, 60) (by decide)).2.1
theorem rM_n15 {h : jj_H} {m : Nat} (M : rM h m) : jN h (m + 15) = 60 := (M.2 (517, 15, 22, 60) (by decide)).2.2
theorem rM_r518 {h : jj_H} {m : Nat} (M : rM h m) : jR h 518 m 0 = m + 16 := (M.2 (518, 16, 21, 6) (by decide)).1
theorem rM_k16 {h : jj_H} {m : Nat} (M : rM h m) : jK h (m + 16) = 21 := (M.2 (518, 16, 21, 6) (by decide)).2.1
theorem rM_n16 {h : jj_H} {m : Nat} (M : rM h m) : jN h (m + 16) = 6 := (M.2 (518, 16, 21, 6) (by decide)).2.2
theorem rM_r524 {h : jj_H} {m : Nat} (M : rM h m) : jR h 524 m 0 = m + 17 := (M.2 (524, 17, 21, 1200) (by decide)).1
theorem rM_k17 {h : jj_H} {m : Nat} (M : rM h m) : jK h (m + 17) = 21 := (M.2 (524, 17, 21, 1200) (by decide)).2.1
theorem rM_n17 {h : jj_H} {m : Nat} (M : rM h m) : jN h (m + 17) = 1200 := (M.2 (524, 17, 21, 1200) (by decide)).2.2
theorem rM_r525 {h : jj_H} {m : Nat} (M : rM h m) : jR h 525 m 0 = m + 18 := (M.2 (525, 18, 21, 1200) (by decide)).1
theorem rM_k18 {h : jj_H} {m : Nat} (M : rM h m) : jK h (m + 18) = 21 := (M.2 (525, 18, 21, 1200) (by decide)).2.1
theorem rM_n18 {h : jj_H} {m : Nat} (M : rM h m) : jN h (m + 18) = 1200 := (M.2 (525, 18, 21, 1200) (by decide)).2.2
theorem rM_r526 {h : jj_H} {m : Nat} (M : rM h m) : jR h 526 m 0 = m + 19 := (M.2 (526, 19, 23, 1200) (by decide)).1
theorem rM_k19 {h : jj_H} {m : Nat} (M : rM h m) : jK h (m + 19) = 23 := (M.2 (526, 19, 23, 1200) (by decide)).2.1
theorem rM_n19 {h : jj_H} {m : Nat} (M : rM h m) : jN h (m + 19) = 1200 := (M.2 (526, 19, 23, 1200) (by decide)).2.2
theorem rM_r528 {h : jj_H} {m : Nat} (M : rM h m) : jR h 528 m 0 = m + 20 := (M.2 (528, 20, 21, 400) (by decide)).1
theorem rM_k20 {h : jj_H} {m : Nat} (M : rM h m) : jK h (m + 20) = 21 := (M.2 (528, 20, 21, 400) (by decide)).2.1
theorem rM_n20 {h : jj_H} {m : Nat} (M : rM h m) : jN h (m + 20) = 400 := (M.2 (528, 20, 21, 400) (by decide)).2.2
theorem rM_r529 {h : jj_H} {m : Nat} (M : rM h m) : jR h 529 m 0 = m + 21 := (M.2 (529, 21, 21, 400) (by decide)).1
theorem rM_k21 {h : jj_H} {m : Nat} (M : rM h m) : jK h (m + 21) = 21 := (M.2 (529, 21, 21, 400) (by decide)).2.1
theorem rM_n21 {h : jj_H} {m : Nat} (M : rM h m) : jN h (m + 21) = 400 := (M.2 (529, 21, 21, 400) (by decide)).2.2
theorem rM_r531 {h : jj_H} {m : Nat} (M : rM h m) : jR h 531 m 0 = m + 22 := (M.2 (531, 22, 21, 6) (by decide)).1
theorem rM_k22 {h : jj_H} {m : Nat} (M : rM h m) : jK h (m + 22) = 21 := (M.2 (531, 22, 21, 6) (by decide)).2.1
theorem rM_n22 {h : jj_H} {m : Nat} (M : rM h m) : jN h (m + 22) = 6 := (M.2 (531, 22, 21, 6) (by decide)).2.2
theorem rM_r532 {h : jj_H} {m : Nat} (M : rM h m) : jR h 532 m 0 = m + 23 := (M.2 (532, 23, 21, 65536) (by decide)).1
theorem rM_k23 {h : jj_H} {m : Nat} (M : rM h m) : jK h (m + 23) = 21 := (M.2 (532, 23, 21, 65536) (by decide)).2.1
theorem rM_n23 {h : jj_H} {m : Nat} (M : rM h m) : jN h (m + 23) = 65536 := (M.2 (532, 23, 21, 65536) (by decide)).2.2
theorem rM_r533 {h : jj_H} {m : Nat} (M : rM h m) : jR h 533 m 0 = m + 24 := (M.2 (533, 24, 21, 3) (by decide)).1
theorem rM_k24 {h : jj_H} {m : Nat} (M : rM h m) : jK h (m + 24) = 21 := (M.2 (533, 24, 21, 3) (by decide)).2.1
theorem rM_n24 {h : jj_H} {m : Nat} (M : rM h m) : jN h (m + 24) = 3 := (M.2 (533, 24, 21, 3) (by decide)).2.2
theorem rM.of {h h' : jj_H} {m : Nat} (M : rM h m) (F : h'.2.2 = h.2.2) : rM h' m := by
  unfold rM jK jR jN at *
  rw [F]
  exact M
