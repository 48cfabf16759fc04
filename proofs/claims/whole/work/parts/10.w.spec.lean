/-! calls that the machine does itself: Math.max, min; clone of an int array -/
section JSPEC
variable {d : jj_D} {K : jj_M} {bc bs pc : Nat} {L : List (Nat × Value)} {st : List Value} {h : jj_H} {Q : Value → jj_H → Prop}
theorem j_mmax {idx : Nat} {x y : Int32} (hl : Cond.methodLink K.1.cls idx Lib.Math.max.name ∈ jj_tb) (hs : Cond.static Lib.Math.max.name ∈ jj_tb) (hi : Cond.initialized "java/lang/Math" ∈ jj_tb) (hc : Cond.code Lib.Math.max.name Lib.Math.max.code 2 (some .int) ∈ jj_tb) (hfr : 1 ≤ K.2.2.2.2.1) (hlo : 21 ≤ K.2.2.2.2.2) (dg : decode K.2.1 pc = .ok (.invokestatic idx, 3)) (hro : (st.map fun v => v.category).sum ≤ 8) (k : jj_WP d K bc bs (pc + 3) L (.int (if x < y then y else x) :: st) h Q) : jj_WP d K bc bs pc L (.int y :: .int x :: st) h Q := by
  intro p l e R s m args below meth c mc ms Z C RR H locs cells slots ls S
  have hts := C.2.2.2.2.2.2.1
  have b1 := S.2.2.1
  have b2 := S.2.2.2.1
  have b3 := C.2.2.2.2.2.2.2.2.2.2.1
  have b4 := C.2.2.2.2.2.2.2.2.2.2.2.1
  have b5 := C.2.2.2.2.2.2.2.2.1
  have b6 := C.2.2.2.2.2.2.2.2.2.1
  exact va_mmax C.1 C.2.1 (by rw [C.2.2.1]; exact S.2.2.2.2.1.symm) C.2.2.2.2.2.1 (hts _ hl) (hts _ hs) (hts _ hi) (hts _ hc) (by omega) (by rw [jj_sum]; omega) (by omega) (by omega) dg (k p l e R s m args below meth c mc ms Z C RR H locs cells slots ls S)
theorem j_mmin {idx : Nat} {x y : Int32} (hl : Cond.methodLink K.1.cls idx Lib.Math.min.name ∈ jj_tb) (hs : Cond.static Lib.Math.min.name ∈ jj_tb) (hi : Cond.initialized "java/lang/Math" ∈ jj_tb) (hc : Cond.code Lib.Math.min.name Lib.Math.min.code 2 (some .int) ∈ jj_tb) (hfr : 1 ≤ K.2.2.2.2.1) (hlo : 21 ≤ K.2.2.2.2.2) (dg : decode K.2.1 pc = .ok (.invokestatic idx, 3)) (hro : (st.map fun v => v.category).sum ≤ 8) (k : jj_WP d K bc bs (pc + 3) L (.int (if y < x then y else x) :: st) h Q) : jj_WP d K bc bs pc L (.int y :: .int x :: st) h Q := by
  intro p l e R s m args below meth c mc ms Z C RR H locs cells slots ls S
  have hts := C.2.2.2.2.2.2.1
  have b1 := S.2.2.1
  have b2 := S.2.2.2.1
  have b3 := C.2.2.2.2.2.2.2.2.2.2.1
  have b4 := C.2.2.2.2.2.2.2.2.2.2.2.1
  have b5 := C.2.2.2.2.2.2.2.2.1
  have b6 := C.2.2.2.2.2.2.2.2.2.1
  exact va_mmin C.1 C.2.1 (by rw [C.2.2.1]; exact S.2.2.2.2.1.symm) C.2.2.2.2.2.1 (hts _ hl) (hts _ hs) (hts _ hi) (hts _ hc) (by omega) (by rw [jj_sum]; omega) (by omega) (by omega) dg (k p l e R s m args below meth c mc ms Z C RR H locs cells slots ls S)
theorem j_mminl {idx : Nat} {x y : Int64} (hl : Cond.methodLink K.1.cls idx Lib.MathLoose.min_long.x ∈ jj_tb) (hs : Cond.static Lib.MathLoose.min_long.x ∈ jj_tb) (hi : Cond.initialized "java/lang/Math" ∈ jj_tb) (hc : Cond.code Lib.MathLoose.min_long.x Lib.MathLoose.min_long.code 4 (some .long) ∈ jj_tb) (hfr : 1 ≤ K.2.2.2.2.1) (hlo : 23 ≤ K.2.2.2.2.2) (dg : decode K.2.1 pc = .ok (.invokestatic idx, 3)) (hro : (st.map fun v => v.category).sum ≤ 8) (k : jj_WP d K bc bs (pc + 3) L (.long (if y < x then y else x) :: st) h Q) : jj_WP d K bc bs pc L (.long y :: .long x :: st) h Q := by
  intro p l e R s m args below meth c mc ms Z C RR H locs cells slots ls S
  have hts := C.2.2.2.2.2.2.1
  have b1 := S.2.2.1
  have b2 := S.2.2.2.1
  have b3 := C.2.2.2.2.2.2.2.2.2.2.1
  have b4 := C.2.2.2.2.2.2.2.2.2.2.2.1
  have b5 := C.2.2.2.2.2.2.2.2.1
  have b6 := C.2.2.2.2.2.2.2.2.2.1
  exact va_mmin_long C.1 C.2.1 (by rw [C.2.2.1]; exact S.2.2.2.2.1.symm) C.2.2.2.2.2.1 (hts _ hl) (hts _ hs) (hts _ hi) (hts _ hc) (by omega) (by rw [jj_sum]; omega) (by omega) (by omega) dg (k p l e R s m args below meth c mc ms Z C RR H locs cells slots ls S)
/-- a new array with the ints of an old one -/
def wK (h : jj_H) (a : Nat) : jj_H := wC (wA h 21 (jN h a)) a 0 (jZ h + 1) 0 (jN h a)
theorem j_clone {idx a : Nat} (hl : Cond.methodLink K.1.cls idx ⟨"[I", "clone", "()Ljava/lang/Object;"⟩ ∈ jj_tb) (hsa : Cond.sameMethod "[I" "java/lang/Object" "clone" "()Ljava/lang/Object;" ∈ jj_tb) (hna : Cond.native ⟨"java/lang/Object", "clone", "()Ljava/lang/Object;"⟩ ∈ jj_tb) (hin : Cond.instanceMethod ⟨"java/lang/Object", "clone", "()Ljava/lang/Object;"⟩ ∈ jj_tb) (hse : Cond.selects "[I" ⟨"[I", "clone", "()Ljava/lang/Object;"⟩ ⟨"java/lang/Object", "clone", "()Ljava/lang/Object;"⟩ ∈ jj_tb) (hfr : 1 ≤ K.2.2.2.2.1) (hlo : 60 ≤ K.2.2.2.2.2) (dg : decode K.2.1 pc = .ok (.invokevirtual idx, 3)) (hro : (st.map fun v => v.category).sum ≤ 8) (hk : jK h a = 21) (k : jj_WP d K bc bs (pc + 3) L (.ref (jZ h + 1) :: st) (wK h a) Q) : jj_WP d K (bc + 1) (bs + jN h a) pc L (.ref a :: st) h Q := by
  intro p l e R s m args below meth c mc ms Z C RR H locs cells slots ls S
  obtain ⟨q, rfl, hq, hcq⟩ := S.1.arr hk (by omega)
  have hts := C.2.2.2.2.2.2.1
  have b1 := S.2.2.1
  have b2 := S.2.2.2.1
  have b3 := C.2.2.2.2.2.2.2.2.2.2.1
  have b4 := C.2.2.2.2.2.2.2.2.2.2.2.1
  have b5 := C.2.2.2.2.2.2.2.2.1
  have b6 := C.2.2.2.2.2.2.2.2.2.1
  generalize hf : (fun i => jI h 1000 (q + 1) i) = f
  have hc0 : H[d.2.2.1 + q]? = some (vp_cell (d.2.1 21) (jN h (q + 1), .inl f)) := by rw [← hf]; exact hcq
  have hKK := C.2.2.2.2.2.2.2.1.1
  have hnm : s.vm.findClass "[I" = some (d.2.1 21) := by
    have e0 : "[" ++ FieldType.int.toString = "[I" := by decide +kernel
    rw [← e0]
    exact (hKK.2 0 _ rfl).2
  obtain ⟨c0, t0', f1, f2, f3⟩ := Cond.castable_spec (va_Nw.use (A := args) rfl C.2.2.2.2.2.2.2.1.2.2.2)
  cases hnm.symm.trans f1
  have hsz : (vp_cell (d.2.1 21) (jN h (q + 1), .inl f)).slots.size = jN h (q + 1) := arrV_size _ _ _
  have hml : c.maxLocals = ls.size := by rw [C.2.2.1]; exact S.2.2.2.2.1.symm
  intro T hT X
  obtain ⟨-, kA, hkA, comp, hkind⟩ := State.isArrayOf_alike X.warmed.alike ((hKK.2 0 _ rfl).1 0 (fun _ => .null))
  obtain ⟨-, kS, hkS, compS, hkindS⟩ := (hKK.2 0 _ rfl).1 0 (fun _ => .null)
  obtain ⟨vm', X', step⟩ := X.cloneArray C.1 C.2.2.2.2.2.1 (hts _ hl) (hts _ hsa) (hts _ hna) (hts _ hin) (hts _ hse) (a := d.2.2.1 + q) (cell := vp_cell (d.2.1 21) (jN h (q + 1), .inl f)) (by rw [hT]; exact hc0) (fun k h => by cases h) (fun h => by cases h) hnm f2 f3
    (fun i v hv => by
      have hk' : T.vm.classes[d.2.1 21]? = some kA := hkA
      have hft : fits .int v = true := va_fit (cA := d.2.1 21) (n := jN h (q + 1)) (F := fun j => .int (f j)) (fun i _ => rfl) i v hv
      simpa [State.fitsSlot, State.slotType?, hk', hkind, vp_cell, arrV] using hft)
    (g := F0 m pc ls ((Value.ref (q + 1) :: st).map (jj_rv d.2.2.1 d.2.2.2.1))) (rest := st.map (jj_rv d.2.2.1 d.2.2.2.1)) rfl (by rw [hml]) rfl (by rw [C.2.1]; exact dg) (by omega) (by show 2 * 0 + ((st.map (jj_rv d.2.2.1 d.2.2.2.1)).map fun v => v.category).sum + 14 ≤ _; rw [jj_sum]; omega) (by omega) (by rw [hsz]; omega) (hloader := Vm.clonesLoader_of_array hkS hkindS)
  have hcellE : ({ cls := (vp_cell (d.2.1 21) (jN h (q + 1), .inl f)).cls, slots := (vp_cell (d.2.1 21) (jN h (q + 1), .inl f)).slots } : Cell) = vp_cell (d.2.1 21) (jN h (q + 1), .inl f) := rfl
  rw [hcellE, hsz] at X'
  generalize hH1 : H.push (vp_cell (d.2.1 21) (jN h (q + 1), .inl f)) = H1
  have z1 : H1.size = H.size + 1 := by rw [← hH1, Array.size_push]
  have e1 : H1[H.size]? = some (vp_cell (d.2.1 21) (jN h (q + 1), .inl f)) := by rw [← hH1, Array.getElem?_push_size]
  have o1 : ∀ x : Nat, x < H.size → H1[x]? = H[x]? := fun x hx => by rw [← hH1, Array.getElem?_push, if_neg (Nat.ne_of_lt hx)]
  have hne : q + 1 ≠ jZ h + 1 := by omega
  have hP1 : jj_P d.1 d.2.1 d.2.2.1 (wK h (q + 1)) H1 := by
    obtain ⟨p1, p2, p3⟩ := S.1
    refine ⟨by rw [z1, p1]; rfl, fun x hx => ?_, fun j hj => ?_⟩
    · have hx' : (if x = jZ h + 1 then 21 else jK h x) ≠ 0 := hx
      show ∃ i, x = i + 1 ∧ i < jZ h + 1
      by_cases hh : x = jZ h + 1
      · exact ⟨jZ h, hh, by omega⟩
      · rw [if_neg hh] at hx'
        obtain ⟨i, g1, g2⟩ := p2 x hx'
        exact ⟨i, g1, by omega⟩
    · have hj' : j < jZ h + 1 := hj
      by_cases hh : j = jZ h
      · subst hh
        rw [← p1, jj_E_arr (k := 21) (by show (if jZ h + 1 = jZ h + 1 then 21 else jK h _) = 21; rw [if_pos rfl]) (by omega)]
        show H1[H.size]? = some (vp_cell _ _)
        rw [e1, ← hf]
        show some (arrV (d.2.1 21) (jN h (q + 1)) (fun j => .int (jI h 1000 (q + 1) j))) = some (arrV (d.2.1 21) (if jZ h + 1 = jZ h + 1 then jN h (q + 1) else jN h _) (fun j => .int (jI (wK h (q + 1)) 1000 (jZ h + 1) j)))
        rw [if_pos rfl]
        refine congrArg some (jj_arrV_congr fun j hj => ?_)
        unfold wK
        rw [jI_wC, if_pos ⟨rfl, rfl⟩, pk_cpy_in (by omega) (by omega), jI_wA, if_neg hne]
        simp
      · rw [show jj_E d.2.1 d.2.2.1 (wK h (q + 1)) (j + 1) = jj_E d.2.1 d.2.2.1 h (j + 1) from by unfold wK; rw [jj_E_wC (by omega), jj_E_wA (by omega)]]
        exact (p3 j (by omega)).kept (o1 (d.2.2.1 + j) (by omega))
  obtain ⟨t, a1, b1'⟩ := k p l e R s m args below meth c mc ms Z C RR H1 locs (cells + 1) (slots + jN h (q + 1)) ls ⟨hP1, jj_S.push S.2.1 z1 o1, by omega, by omega, S.2.2.2.2⟩ ((T.setVm vm').pushCell (vp_cell (d.2.1 21) (jN h (q + 1), .inl f))) (by rw [← hH1, ← hT]; rfl) X'
  refine ⟨t, step t ?_, b1'⟩
  rw [hcellE, hT]
  rw [List.map_cons, jj_rv_new S.1] at a1
  exact a1
theorem j_castI {idx a : Nat} (hl : Cond.classLink K.1.cls idx "[I" ∈ jj_tb) (dg : decode K.2.1 pc = .ok (.checkcast idx, 3)) (hk : jK h a = 21) (k : jj_WP d K bc bs (pc + 3) L (.ref a :: st) h Q) : jj_WP d K bc bs pc L (.ref a :: st) h Q := by
  intro p l e R s m args below meth c mc ms Z C RR H locs cells slots ls S
  obtain ⟨q, rfl, hq, hcq⟩ := S.1.arr hk (by omega)
  have hnm : s.vm.findClass "[I" = some (d.2.1 21) := by
    have e0 : "[" ++ FieldType.int.toString = "[I" := by decide +kernel
    rw [← e0]
    exact (C.2.2.2.2.2.2.2.1.1.2 0 _ rfl).2
  exact va_castA C.1 C.2.1 C.2.2.2.2.2.1 (C.2.2.2.2.2.2.1 _ hl) (jj_one hcq) 0 rfl hnm dg (k p l e R s m args below meth c mc ms Z C RR H locs cells slots ls S)
theorem ml_max_X6_9 : Cond.methodLink RX6 9 Lib.Math.max.name ∈ jj_tb := jj_in 93 (by decide +kernel) (by decide +kernel)
theorem sm_max : Cond.static Lib.Math.max.name ∈ jj_tb := jj_in 94 (by decide +kernel) (by decide +kernel)
theorem co_max : Cond.code Lib.Math.max.name Lib.Math.max.code 2 (some .int) ∈ jj_tb := jj_in 95 (by decide +kernel) (by decide +kernel)
theorem it_Math : Cond.initialized "java/lang/Math" ∈ jj_tb := it_J9
theorem ml_min_X8_49 : Cond.methodLink RX8 49 Lib.Math.min.name ∈ jj_tb := jj_in 429 (by decide +kernel) (by decide +kernel)
theorem ml_min_J7_304 : Cond.methodLink RJ7 304 Lib.Math.min.name ∈ jj_tb := jj_in 493 (by decide +kernel) (by decide +kernel)
theorem sm_min : Cond.static Lib.Math.min.name ∈ jj_tb := jj_in 430 (by decide +kernel) (by decide +kernel)
theorem co_min : Cond.code Lib.Math.min.name Lib.Math.min.code 2 (some .int) ∈ jj_tb := jj_in 431 (by decide +kernel) (by decide +kernel)
theorem ml_minl_X1_28 : Cond.methodLink RX1 28 Lib.MathLoose.min_long.x ∈ jj_tb := jj_in 760 (by decide +kernel) (by decide +kernel)
theorem ml_minl_X2_76 : Cond.methodLink RX2 76 Lib.MathLoose.min_long.x ∈ jj_tb := jj_in 804 (by decide +kernel) (by decide +kernel)
theorem sm_minl : Cond.static Lib.MathLoose.min_long.x ∈ jj_tb := jj_in 761 (by decide +kernel) (by decide +kernel)
theorem co_minl : Cond.code Lib.MathLoose.min_long.x Lib.MathLoose.min_long.code 4 (some .long) ∈ jj_tb := jj_in 762 (by decide +kernel) (by decide +kernel)
theorem ml_clone : Cond.methodLink RJ7 316 ⟨"[I", "clone", "()Ljava/lang/Object;"⟩ ∈ jj_tb := jj_in 486 (by decide +kernel) (by decide +kernel)
theorem sa_clone : Cond.sameMethod "[I" "java/lang/Object" "clone" "()Ljava/lang/Object;" ∈ jj_tb := jj_in 487 (by decide +kernel) (by decide +kernel)
theorem na_clone : Cond.native ⟨"java/lang/Object", "clone", "()Ljava/lang/Object;"⟩ ∈ jj_tb := jj_in 488 (by decide +kernel) (by decide +kernel)
theorem im_clone : Cond.instanceMethod ⟨"java/lang/Object", "clone", "()Ljava/lang/Object;"⟩ ∈ jj_tb := jj_in 489 (by decide +kernel) (by decide +kernel)
theorem se_clone : Cond.selects "[I" ⟨"[I", "clone", "()Ljava/lang/Object;"⟩ ⟨"java/lang/Object", "clone", "()Ljava/lang/Object;"⟩ ∈ jj_tb := jj_in 490 (by decide +kernel) (by decide +kernel)
theorem cl_J7_317 : Cond.classLink RJ7 317 "[I" ∈ jj_tb := jj_in 492 (by decide +kernel) (by decide +kernel)
end JSPEC
