section JCOPY
variable {d : jj_D} {K : jj_M} {bc bs pc : Nat} {L : List (Nat × Value)} {st : List Value} {h : jj_H} {Q : Value → jj_H → Prop}
/-- the script: its length, its ints -/
theorem j_slen {r : UInt32} (dg : decode K.2.1 pc = .ok (.arraylength, 1)) (k : jj_WP d K bc bs (pc + 1) L (.int (nI d.2.2.2.2.1) :: st) h Q) : jj_WP d K bc bs pc L (.float r :: st) h Q := by
  intro p l e R s m args below meth c mc ms Z C RR H locs cells slots ls S
  have hB := C.2.2.2.2.2.2.2.2.2.2.2.2.1
  have hX := C.2.2.2.2.2.2.2.2.2.2.2.2.2.2.1
  have hb := C.2.2.2.2.2.2.2.2.2.2.2.2.2.2.2
  exact va_slen C.1 C.2.1 hX (by omega) (by show ¬ _ ≤ _; omega) S.2.1 dg (k p l e R s m args below meth c mc ms Z C RR H locs cells slots ls S)
theorem j_sld {r : UInt32} {i : Int32} (dg : decode K.2.1 pc = .ok (.iaload, 1)) (hin : vp_in i d.2.2.2.2.1) (k : jj_WP d K bc bs (pc + 1) L (.int (d.2.2.2.2.2 i.toNatClampNeg) :: st) h Q) : jj_WP d K bc bs pc L (.int i :: .float r :: st) h Q := by
  intro p l e R s m args below meth c mc ms Z C RR H locs cells slots ls S
  have hB := C.2.2.2.2.2.2.2.2.2.2.2.2.1
  have hX := C.2.2.2.2.2.2.2.2.2.2.2.2.2.2.1
  have hb := C.2.2.2.2.2.2.2.2.2.2.2.2.2.2.2
  exact va_sld C.1 C.2.1 hX (by omega) (by show ¬ _ ≤ _; omega) S.2.1 hin dg (k p l e R s m args below meth c mc ms Z C RR H locs cells slots ls S)
theorem jj_nn {z : Int32} (hz : ¬ z < 0) : z.toInt = (z.toNatClampNeg : Int) := by
  have hz0 : (0 : Int) ≤ z.toInt := by
    have := Int32.not_lt.mp hz
    simpa using Int32.le_iff_toInt_le.mp this
  show z.toInt = ((z.toInt.toNat : Nat) : Int)
  omega
theorem j_copy {idx a0 a1 : Nat} {sp dp n : Int32} (hl : Cond.methodLink K.1.cls idx arraycopyName ∈ jj_tb) (hnat : Cond.native arraycopyName ∈ jj_tb) (hsta : Cond.static arraycopyName ∈ jj_tb) (hini : Cond.initialized "java/lang/System" ∈ jj_tb) (hro : (st.map fun v => v.category).sum ≤ 8) (hfr : 1 ≤ K.2.2.2.2.1) (hlo : 60 ≤ K.2.2.2.2.2) (dg : decode K.2.1 pc = .ok (.invokestatic idx, 3)) (hk0 : jK h a0 = 21) (hk1 : jK h a1 = 21) (h1 : ¬ sp < 0) (h2 : ¬ dp < 0) (h3 : ¬ n < 0) (h4 : sp.toNatClampNeg + n.toNatClampNeg ≤ jN h a0) (h5 : dp.toNatClampNeg + n.toNatClampNeg ≤ jN h a1)
    (k : jj_WP d K bc bs (pc + 3) L st (wC h a0 sp.toNatClampNeg a1 dp.toNatClampNeg n.toNatClampNeg) Q) : jj_WP d K bc bs pc L (.int n :: .int dp :: .ref a1 :: .int sp :: .ref a0 :: st) h Q := by
  intro p l e R s m args below meth c mc ms Z C RR H locs cells slots ls S
  obtain ⟨q0, rfl, hq0, hc0⟩ := S.1.arr hk0 (by omega)
  obtain ⟨q1, rfl, hq1, hc1⟩ := S.1.arr hk1 (by omega)
  have hts := C.2.2.2.2.2.2.1
  have b5 := C.2.2.2.2.2.2.2.2.1
  have b6 := C.2.2.2.2.2.2.2.2.2.1
  generalize hf : (fun i => jI h 1000 (q0 + 1) i) = f
  generalize hg : (fun i => jI h 1000 (q1 + 1) i) = g
  have hc0 : H[d.2.2.1 + q0]? = some (vp_cell (d.2.1 21) (jN h (q0 + 1), .inl f)) := by rw [← hf]; exact hc0
  have hc1 : H[d.2.2.1 + q1]? = some (vp_cell (d.2.1 21) (jN h (q1 + 1), .inl g)) := by rw [← hg]; exact hc1
  obtain ⟨-, k0, hkk0, cm0, hkd0⟩ := (C.2.2.2.2.2.2.2.1.1.2 0 _ rfl).1 (jN h (q0 + 1)) (fun j => .int (f j))
  obtain ⟨-, k1, hkk1, cm1, hkd1⟩ := (C.2.2.2.2.2.2.2.1.1.2 0 _ rfl).1 (jN h (q1 + 1)) (fun j => .int (g j))
  have hnf : nativeFrameWords "java/lang/System" "arraycopy" 5 + 11 ≤ 40 := by decide +kernel
  intro T hT X
  have hml : c.maxLocals = ls.size := by rw [C.2.2.1]; exact S.2.2.2.2.1.symm
  obtain ⟨vm', X', step⟩ := X.arraycopy C.1 C.2.2.2.2.2.1 (hts _ hl) (hts _ hnat) (hts _ hsta) (hts _ hini) (src := d.2.2.1 + q0) (dst := d.2.2.1 + q1) (cs := vp_cell (d.2.1 21) (jN h (q0 + 1), .inl f)) (cd := vp_cell (d.2.1 21) (jN h (q1 + 1), .inl g)) (srcPos := sp) (destPos := dp) (n := n) (by rw [hT]; exact hc0) (by rw [hT]; exact hc1)
    (fun _ h => by cases h) (fun _ h => by cases h) (fun h => by cases h) (fun h => by cases h) hkk0 hkk1 hkd0 hkd1 (by show (refKind FieldType.int != refKind FieldType.int || !refKind FieldType.int && FieldType.int != FieldType.int) = false; decide) h1 h2 h3
    (by rw [jj_nn h1, jj_nn h3]; show ¬ _ > ((arrV (d.2.1 21) (jN h (q0 + 1)) (fun j => .int (f j))).slots.size : Int); rw [arrV_size]; omega)
    (by rw [jj_nn h2, jj_nn h3]; show ¬ _ > ((arrV (d.2.1 21) (jN h (q1 + 1)) (fun j => .int (g j))).slots.size : Int); rw [arrV_size]; omega)
    (fun vm₁ _ i hi => by
      have ee : (vp_cell (d.2.1 21) (jN h (q0 + 1), .inl f)).slots.getD (sp.toNatClampNeg + i) .null = .int (f (sp.toNatClampNeg + i)) := by
        show (arrV (d.2.1 21) (jN h (q0 + 1)) (fun j => .int (f j))).slots.getD _ _ = _
        rw [Array.getD_eq_getD_getElem?, arrV_read _ _ (by omega)]
        rfl
      refine ⟨?_, ?_⟩
      · rw [ee]
        rfl
      · rw [ee]
        exact trivial)
    (g := F0 m pc ls ((Value.int n :: .int dp :: .ref (q1 + 1) :: .int sp :: .ref (q0 + 1) :: st).map (jj_rv d.2.2.1 d.2.2.2.1))) rfl (by rw [hml]) (rest := st.map (jj_rv d.2.2.1 d.2.2.2.1)) rfl (by rw [C.2.1]; exact dg) (by omega) (by show 2 * 0 + ((st.map (jj_rv d.2.2.1 d.2.2.2.1)).map fun v => v.category).sum + (nativeFrameWords "java/lang/System" "arraycopy" 5 + 11) ≤ _; rw [jj_sum]; omega)
  have e1 : copied (vp_cell (d.2.1 21) (jN h (q0 + 1), .inl f)) (vp_cell (d.2.1 21) (jN h (q1 + 1), .inl g)) sp dp n = vp_cell (d.2.1 21) (jN h (q1 + 1), .inl (va_cpy f g sp.toNatClampNeg dp.toNatClampNeg n.toNatClampNeg)) := va_copied (fun z => .int z) (d.2.1 21) (d.2.1 21) f g h4
  rw [e1] at X' step
  have hlt : d.2.2.1 + q1 < H.size := (Array.getElem?_eq_some_iff.mp hc1).1
  generalize hH1 : H.setIfInBounds (d.2.2.1 + q1) (vp_cell (d.2.1 21) (jN h (q1 + 1), .inl (va_cpy f g sp.toNatClampNeg dp.toNatClampNeg n.toNatClampNeg))) = H1
  have hheap : ((T.setVm vm').setCell (d.2.2.1 + q1) (vp_cell (d.2.1 21) (jN h (q1 + 1), .inl (va_cpy f g sp.toNatClampNeg dp.toNatClampNeg n.toNatClampNeg)))).heap = H1 := by rw [← hH1, ← hT]; rfl
  have oq : ∀ q : Nat, q ≠ d.2.2.1 + q1 → H1[q]? = H[q]? := fun q hq => by rw [← hH1]; simp [Array.getElem?_setIfInBounds, Ne.symm hq]
  have z : H1.size = H.size := by rw [← hH1]; simp
  have hat : H1[d.2.2.1 + q1]? = some (vp_cell (d.2.1 21) (jN h (q1 + 1), .inl (va_cpy f g sp.toNatClampNeg dp.toNatClampNeg n.toNatClampNeg))) := by rw [← hH1]; simp [Array.getElem?_setIfInBounds, hlt]
  obtain ⟨t, a1, b1⟩ := k p l e R s m args below meth c mc ms Z C RR H1 _ cells slots ls ⟨S.1.upd (i := q1) rfl (fun _ => rfl) (fun b hb => jj_E_wC hb) rfl z (by
      rw [jj_E_arr (show jK (wC h (q0 + 1) sp.toNatClampNeg (q1 + 1) dp.toNatClampNeg n.toNatClampNeg) (q1 + 1) = 21 from hk1) (by omega)]
      show H1[d.2.2.1 + q1]? = some (vp_cell _ _)
      rw [hat, ← hf, ← hg]
      show some (arrV (d.2.1 21) (jN h (q1 + 1)) (fun j => .int (va_cpy (fun i => jI h 1000 (q0 + 1) i) (fun i => jI h 1000 (q1 + 1) i) sp.toNatClampNeg dp.toNatClampNeg n.toNatClampNeg j))) = some (arrV (d.2.1 21) (jN h (q1 + 1)) (fun j => .int (jI (wC h (q0 + 1) sp.toNatClampNeg (q1 + 1) dp.toNatClampNeg n.toNatClampNeg) 1000 (q1 + 1) j)))
      congr 2
      funext j
      rw [jI_wC, if_pos ⟨rfl, rfl⟩]) oq, ⟨by rw [z]; exact S.2.1.1, fun q g1 g2 => by
      rw [oq q (fun ee => g2 (by rw [ee]; exact Nat.le_add_right _ _))]
      exact S.2.1.2.1 q g1 g2, fun q hq => by
      rcases List.mem_append.mp hq with hh | hh
      · exact S.2.1.2.2 q hh
      · obtain ⟨w, -, hw⟩ := List.mem_map.mp hh
        rw [← hw]
        exact Nat.le_add_right _ _⟩, S.2.2.1, S.2.2.2.1, S.2.2.2.2⟩ _ hheap X'
  exact ⟨t, step t a1, b1⟩
end JCOPY
