/-! from the machine's start to the small heap -/
theorem ao_X0 : Cond.arrayOver (.object RX0) ∈ lw_tbl := List.mem_of_getElem? (i := 174) (by decide +kernel)
theorem ao_X3 : Cond.arrayOver (.object RX3) ∈ lw_tbl := List.mem_of_getElem? (i := 112) (by decide +kernel)
theorem ao_X6 : Cond.arrayOver (.object RX6) ∈ lw_tbl := List.mem_of_getElem? (i := 205) (by decide +kernel)
theorem ao_X7 : Cond.arrayOver (.object RX7) ∈ lw_tbl := List.mem_of_getElem? (i := 85) (by decide +kernel)
theorem cs_I : Cond.castable "[I" "java/lang/Cloneable" ∈ lw_tbl := List.mem_of_getElem? (i := 491) (by decide +kernel)
theorem nl_0 : Cond.methodLinkNest RX9 27 yX8_init RX9 ∈ lw_tbl := List.mem_of_getElem? (i := 151) (by decide +kernel)
theorem nl_1 : Cond.methodLinkNest RX9 34 yX4_init RX9 ∈ lw_tbl := List.mem_of_getElem? (i := 161) (by decide +kernel)
theorem nl_2 : Cond.methodLinkNest RX9 57 yX1_init RX9 ∈ lw_tbl := List.mem_of_getElem? (i := 180) (by decide +kernel)
theorem nl_3 : Cond.methodLinkNest RX7 54 yX3_init RX9 ∈ lw_tbl := List.mem_of_getElem? (i := 354) (by decide +kernel)
theorem nl_4 : Cond.methodLinkNest RX4 91 yX3_init RX9 ∈ lw_tbl := List.mem_of_getElem? (i := 480) (by decide +kernel)
theorem nl_5 : Cond.methodLinkNest RX6 38 yX9_isColumn RX9 ∈ lw_tbl := List.mem_of_getElem? (i := 571) (by decide +kernel)
theorem nl_6 : Cond.methodLinkNest RX5 21 yX9_isBranch RX9 ∈ lw_tbl := List.mem_of_getElem? (i := 886) (by decide +kernel)
theorem whole_start {p : Program} {e : Env} {s : State} {m : MethodId} {below : List Frame} {meth : Method} {c : Code} (l : Launch) {b L : Nat} {xs : Nat → Int32} (hL : L ≤ 384) (hnm : meth.name = "law") (C0 : lw_At p s m meth c b L xs) : W p l e room_1 s m #[Value.ref b] below meth c s.heap [] 0 0 (lw_Z below #[Value.ref b] s) (entryFrame m ([Value.ref b] : List Value).toArray 4) := by
  obtain ⟨hx, hb, hr, hml, hown, hts, hX, hbl, hlocks, hgv⟩ := id C0
  have htj : ∀ w ∈ jj_tb, w.before #[Value.ref b] s = true := fun w hw => hts w (List.mem_filter.mp hw).1
  obtain ⟨c0, i0, k0⟩ := u_known (C := RX0) (T := TX0) (N := 4) (n := 4) htj cls_X0.2.1 (htj _ in_X0)
  obtain ⟨c1, i1, k1⟩ := u_known (C := RX1) (T := TX1) (N := 3) (n := 3) htj cls_X1.2.1 (htj _ in_X1)
  obtain ⟨c2, i2, k2⟩ := u_known (C := RX2) (T := TX2) (N := 11) (n := 11) htj cls_X2.2.1 (htj _ in_X2)
  obtain ⟨c3, i3, k3⟩ := u_known (C := RX3) (T := TX3) (N := 9) (n := 9) htj cls_X3.2.1 (htj _ in_X3)
  obtain ⟨c4, i4, k4⟩ := u_known (C := RX4) (T := TX4) (N := 2) (n := 2) htj cls_X4.2.1 (htj _ in_X4)
  obtain ⟨c5, i5, k5⟩ := u_known (C := RX5) (T := TX5) (N := 3) (n := 3) htj cls_X5.2.1 (htj _ in_X5)
  obtain ⟨c6, i6, k6⟩ := u_known (C := RX6) (T := TX6) (N := 2) (n := 2) htj cls_X6.2.1 (htj _ in_X6)
  obtain ⟨c7, i7, k7⟩ := u_known (C := RX7) (T := TX7) (N := 6) (n := 6) htj cls_X7.2.1 (htj _ in_X7)
  obtain ⟨c8, i8, k8⟩ := u_known (C := RX8) (T := TX8) (N := 1) (n := 1) htj cls_X8.2.1 (htj _ in_X8)
  obtain ⟨c9, i9, k9⟩ := u_known (C := RX9) (T := TX9) (N := 11) (n := 11) htj cls_X9.2.1 (htj _ in_X9)
  obtain ⟨c10, i10, k10⟩ := u_known (C := RX10) (T := TX10) (N := 34) (n := 34) htj cls_X10.2.1 (htj _ in_X10)
  obtain ⟨a21, x21, p21, f21, g21, q21⟩ := Cond.arrayClass_spec (htj _ ac_int)
  obtain ⟨a22, x22, p22, f22, g22, q22⟩ := Cond.arrayClass_spec (htj _ ac_long)
  obtain ⟨a23, x23, p23, f23, g23, q23⟩ := Cond.arrayClass_spec (htj _ ac_boolean)
  obtain ⟨p24, a24, x24, e24, -, g24, q24, f24⟩ := Cond.arrayOver_spec (hts _ ao_X0)
  obtain ⟨p25, a25, x25, e25, -, g25, q25, f25⟩ := Cond.arrayOver_spec (hts _ ao_X3)
  obtain ⟨p26, a26, x26, e26, -, g26, q26, f26⟩ := Cond.arrayOver_spec (hts _ ao_X6)
  obtain ⟨p27, a27, x27, e27, -, g27, q27, f27⟩ := Cond.arrayOver_spec (hts _ ao_X7)
  obtain ⟨dC, dI, hKc⟩ : ∃ (dC : Nat → ClassId) (dI : Nat → Nat → Nat), ∀ (k : Nat) (q : vw_C), jj_cl[k]? = some q → u_Kn s q.1 q.2.1 q.2.2 (dC k) (dI k) := by
    refine ⟨fun k => [c0, c1, c2, c3, c4, c5, c6, c7, c8, c9, c10].getD k c0, fun k => [i0, i1, i2, i3, i4, i5, i6, i7, i8, i9, i10].getD k i0, ?_⟩
    intro k q hq
    match k, hq with
    | 0, hq => cases hq; exact k0
    | 1, hq => cases hq; exact k1
    | 2, hq => cases hq; exact k2
    | 3, hq => cases hq; exact k3
    | 4, hq => cases hq; exact k4
    | 5, hq => cases hq; exact k5
    | 6, hq => cases hq; exact k6
    | 7, hq => cases hq; exact k7
    | 8, hq => cases hq; exact k8
    | 9, hq => cases hq; exact k9
    | 10, hq => cases hq; exact k10
    | k + 11, hq => simp [jj_cl] at hq
  obtain ⟨dA, hKa⟩ : ∃ dA : Nat → ClassId, ∀ (k : Nat) (q : ClassId × FieldType), (jj_ty dA)[k]? = some q → ArrOfT s q.1 q.2 ∧ va_RA s q.1 q.2 := by
    refine ⟨fun k => [a21, a22, a23, a24, a25, a26, a27].getD (k - 21) a21, ?_⟩
    intro k q hq
    match k, hq with
    | 0, hq => cases hq; exact ⟨fun _ _ => ⟨fun _ h => (by cases h), x21, g21, p21, q21⟩, f21⟩
    | 1, hq => cases hq; exact ⟨fun _ _ => ⟨fun _ h => (by cases h), x22, g22, p22, q22⟩, f22⟩
    | 2, hq => cases hq; exact ⟨fun _ _ => ⟨fun _ h => (by cases h), x23, g23, p23, q23⟩, f23⟩
    | 3, hq => cases hq; exact ⟨fun _ _ => ⟨fun _ h => (by cases h), x24, g24, p24, q24⟩, x24, p24, g24, q24, e24, f24⟩
    | 4, hq => cases hq; exact ⟨fun _ _ => ⟨fun _ h => (by cases h), x25, g25, p25, q25⟩, x25, p25, g25, q25, e25, f25⟩
    | 5, hq => cases hq; exact ⟨fun _ _ => ⟨fun _ h => (by cases h), x26, g26, p26, q26⟩, x26, p26, g26, q26, e26, f26⟩
    | 6, hq => cases hq; exact ⟨fun _ _ => ⟨fun _ h => (by cases h), x27, g27, p27, q27⟩, x27, p27, g27, q27, e27, f27⟩
    | k + 7, hq => simp [jj_ty] at hq
  have hNl : ∀ q ∈ jj_nl, va_Nw (.methodLinkNest q.1 q.2.1 q.2.2.1 q.2.2.2) s := by
    intro q hq
    simp only [jj_nl, List.mem_cons, List.not_mem_nil, or_false] at hq
    rcases hq with rfl | rfl | rfl | rfl | rfl | rfl | rfl
    · exact va_Nw.of rfl (hts _ nl_0)
    · exact va_Nw.of rfl (hts _ nl_1)
    · exact va_Nw.of rfl (hts _ nl_2)
    · exact va_Nw.of rfl (hts _ nl_3)
    · exact va_Nw.of rfl (hts _ nl_4)
    · exact va_Nw.of rfl (hts _ nl_5)
    · exact va_Nw.of rfl (hts _ nl_6)
  have hAo : ∀ C ∈ [RX0, RX3, RX6, RX7], va_AO C s := by
    intro C hC
    simp only [List.mem_cons, List.not_mem_nil, or_false] at hC
    rcases hC with rfl | rfl | rfl | rfl
    · exact va_AO.of (hts _ ao_X0)
    · exact va_AO.of (hts _ ao_X3)
    · exact va_AO.of (hts _ ao_X6)
    · exact va_AO.of (hts _ ao_X7)
  have hCs : va_Nw (.castable "[I" "java/lang/Cloneable") s := va_Nw.of rfl (hts _ cs_I)
  have hl := lv_entry ([.ref b]) (n := 4) (Nat.le_of_ble_eq_true rfl)
  rw [lg_entry_eq]
  generalize (lg_sl ([.ref b]) ++ List.replicate (4 - (lg_sl ([.ref b])).length) Slot.unset).toArray = ls at hl ⊢
  have hl : lv_has ls 4 [(0, .ref b)] := hl
  refine law_all (d := ((dC, dI), dA, s.heap.size, b, L, xs)) hL p l e room_1 s m #[Value.ref b] below meth c 600000 7302250 (lw_Z below #[Value.ref b] s) ⟨hx, hb, hml, hr, hlocks, hown, htj, ⟨⟨hKc, hKa⟩, hNl, hAo, hCs⟩, by decide, by decide, Nat.le_refl _, Nat.le_refl _, Nat.le_refl _, hnm, hX, hbl⟩ ?_ s.heap [] 0 0 ls ⟨⟨rfl, fun a h => absurd rfl h, fun i h => absurd h (Nat.not_lt_zero _)⟩, va_S.rf, Nat.le_of_ble_eq_true rfl, Nat.le_of_ble_eq_true rfl, hl⟩
  intro pc v h H locs cells slots ls hQ hP hS h1 h2 hrt
  obtain ⟨hd, _⟩ := hrt
  subst hQ
  exact va_forget hS.2.2 (W.widen (k := 600000) (n := 7302250) h1 h2 (lw_ret hx hb hr hlocks hd))
