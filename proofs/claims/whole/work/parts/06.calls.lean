section JARR
variable {d : jj_D} {K : jj_M} {bc bs pc : Nat} {L : List (Nat × Value)} {st : List Value} {h : jj_H} {Q : Value → jj_H → Prop}
theorem j_iald {a : Nat} {i : Int32} (dg : decode K.2.1 pc = .ok (.iaload, 1)) (hk : jK h a = 21) (hin : vp_in i (jN h a)) (k : jj_WP d K bc bs (pc + 1) L (.int (jI h 1000 a i.toNatClampNeg) :: st) h Q) : jj_WP d K bc bs pc L (.int i :: .ref a :: st) h Q := by
  intro p l e R s m args below meth c mc ms Z C RR H locs cells slots ls S
  obtain ⟨q, rfl, hi, ha⟩ := S.1.arr hk (by omega)
  exact va_iald (D := d.1) C.1 C.2.1 C.2.2.2.2.2.2.2.1.1 (jj_one ha) 0 0 rfl rfl hin dg (k p l e R s m args below meth c mc ms Z C RR H locs cells slots ls S)
theorem j_zald {a : Nat} {i : Int32} (dg : decode K.2.1 pc = .ok (.baload, 1)) (hk : jK h a = 23) (hin : vp_in i (jN h a)) (k : jj_WP d K bc bs (pc + 1) L (.int (jI h 1000 a i.toNatClampNeg) :: st) h Q) : jj_WP d K bc bs pc L (.int i :: .ref a :: st) h Q := by
  intro p l e R s m args below meth c mc ms Z C RR H locs cells slots ls S
  obtain ⟨q, rfl, hi, ha⟩ := S.1.arr hk (by omega)
  exact va_zald (D := d.1) C.1 C.2.1 C.2.2.2.2.2.2.2.1.1 (jj_one ha) 0 2 rfl rfl hin dg (k p l e R s m args below meth c mc ms Z C RR H locs cells slots ls S)
theorem j_lald {a : Nat} {i : Int32} (dg : decode K.2.1 pc = .ok (.laload, 1)) (hk : jK h a = 22) (hin : vp_in i (jN h a)) (k : jj_WP d K bc bs (pc + 1) L (.long (jL h 1000 a i.toNatClampNeg) :: st) h Q) : jj_WP d K bc bs pc L (.int i :: .ref a :: st) h Q := by
  intro p l e R s m args below meth c mc ms Z C RR H locs cells slots ls S
  obtain ⟨q, rfl, hi, ha⟩ := S.1.arr hk (by omega)
  exact va_lald (D := d.1) C.1 C.2.1 C.2.2.2.2.2.2.2.1.1 (jj_one ha) 0 1 rfl rfl hin dg (k p l e R s m args below meth c mc ms Z C RR H locs cells slots ls S)
theorem j_aaldC {a : Nat} {i : Int32} (dg : decode K.2.1 pc = .ok (.aaload, 1)) (hk : jK h a = 24) (hin : vp_in i (jN h a)) (k : jj_WP d K bc bs (pc + 1) L (.ref (jR h 1000 a i.toNatClampNeg) :: st) h Q) : jj_WP d K bc bs pc L (.int i :: .ref a :: st) h Q := by
  intro p l e R s m args below meth c mc ms Z C RR H locs cells slots ls S
  obtain ⟨q, rfl, hi, ha⟩ := S.1.arr hk (by omega)
  have kk := k p l e R s m args below meth c mc ms Z C RR H locs cells slots ls S
  rw [List.map_cons, jj_rv_ref] at kk
  exact va_aldq (D := d.1) C.1 C.2.1 C.2.2.2.2.2.2.2.1.1 (jj_one ha) 0 3 rfl rfl hin dg kk
theorem j_aaldN {a : Nat} {i : Int32} (dg : decode K.2.1 pc = .ok (.aaload, 1)) (hk : jK h a = 25) (hin : vp_in i (jN h a)) (k : jj_WP d K bc bs (pc + 1) L (.ref (jR h 1000 a i.toNatClampNeg) :: st) h Q) : jj_WP d K bc bs pc L (.int i :: .ref a :: st) h Q := by
  intro p l e R s m args below meth c mc ms Z C RR H locs cells slots ls S
  obtain ⟨q, rfl, hi, ha⟩ := S.1.arr hk (by omega)
  have kk := k p l e R s m args below meth c mc ms Z C RR H locs cells slots ls S
  rw [List.map_cons, jj_rv_ref] at kk
  exact va_aldq (D := d.1) C.1 C.2.1 C.2.2.2.2.2.2.2.1.1 (jj_one ha) 0 4 rfl rfl hin dg kk
theorem j_aaldR {a : Nat} {i : Int32} (dg : decode K.2.1 pc = .ok (.aaload, 1)) (hk : jK h a = 26) (hin : vp_in i (jN h a)) (k : jj_WP d K bc bs (pc + 1) L (.ref (jR h 1000 a i.toNatClampNeg) :: st) h Q) : jj_WP d K bc bs pc L (.int i :: .ref a :: st) h Q := by
  intro p l e R s m args below meth c mc ms Z C RR H locs cells slots ls S
  obtain ⟨q, rfl, hi, ha⟩ := S.1.arr hk (by omega)
  have kk := k p l e R s m args below meth c mc ms Z C RR H locs cells slots ls S
  rw [List.map_cons, jj_rv_ref] at kk
  exact va_aldq (D := d.1) C.1 C.2.1 C.2.2.2.2.2.2.2.1.1 (jj_one ha) 0 5 rfl rfl hin dg kk
theorem j_aaldT {a : Nat} {i : Int32} (dg : decode K.2.1 pc = .ok (.aaload, 1)) (hk : jK h a = 27) (hin : vp_in i (jN h a)) (k : jj_WP d K bc bs (pc + 1) L (.ref (jR h 1000 a i.toNatClampNeg) :: st) h Q) : jj_WP d K bc bs pc L (.int i :: .ref a :: st) h Q := by
  intro p l e R s m args below meth c mc ms Z C RR H locs cells slots ls S
  obtain ⟨q, rfl, hi, ha⟩ := S.1.arr hk (by omega)
  have kk := k p l e R s m args below meth c mc ms Z C RR H locs cells slots ls S
  rw [List.map_cons, jj_rv_ref] at kk
  exact va_aldq (D := d.1) C.1 C.2.1 C.2.2.2.2.2.2.2.1.1 (jj_one ha) 0 6 rfl rfl hin dg kk
theorem j_alenI {a : Nat} (dg : decode K.2.1 pc = .ok (.arraylength, 1)) (hk : jK h a = 21) (k : jj_WP d K bc bs (pc + 1) L (.int (nI (jN h a)) :: st) h Q) : jj_WP d K bc bs pc L (.ref a :: st) h Q := by
  intro p l e R s m args below meth c mc ms Z C RR H locs cells slots ls S
  obtain ⟨q, rfl, hi, ha⟩ := S.1.arr hk (by omega)
  exact va_alen (D := d.1) C.1 C.2.1 C.2.2.2.2.2.2.2.1.1 (jj_one ha) 0 0 rfl rfl rfl dg (k p l e R s m args below meth c mc ms Z C RR H locs cells slots ls S)
theorem j_alenC {a : Nat} (dg : decode K.2.1 pc = .ok (.arraylength, 1)) (hk : jK h a = 24) (k : jj_WP d K bc bs (pc + 1) L (.int (nI (jN h a)) :: st) h Q) : jj_WP d K bc bs pc L (.ref a :: st) h Q := by
  intro p l e R s m args below meth c mc ms Z C RR H locs cells slots ls S
  obtain ⟨q, rfl, hi, ha⟩ := S.1.arr hk (by omega)
  exact va_alen (D := d.1) C.1 C.2.1 C.2.2.2.2.2.2.2.1.1 (jj_one ha) 0 3 rfl rfl rfl dg (k p l e R s m args below meth c mc ms Z C RR H locs cells slots ls S)
theorem j_alenN {a : Nat} (dg : decode K.2.1 pc = .ok (.arraylength, 1)) (hk : jK h a = 25) (k : jj_WP d K bc bs (pc + 1) L (.int (nI (jN h a)) :: st) h Q) : jj_WP d K bc bs pc L (.ref a :: st) h Q := by
  intro p l e R s m args below meth c mc ms Z C RR H locs cells slots ls S
  obtain ⟨q, rfl, hi, ha⟩ := S.1.arr hk (by omega)
  exact va_alen (D := d.1) C.1 C.2.1 C.2.2.2.2.2.2.2.1.1 (jj_one ha) 0 4 rfl rfl rfl dg (k p l e R s m args below meth c mc ms Z C RR H locs cells slots ls S)
theorem jj_scr {d : jj_D} {s : State} {H : Heap} {locs : List Loc} (hX : va_X d.2.2.2.1 d.2.2.2.2.1 d.2.2.2.2.2 s s.heap) (hb : d.2.2.2.1 < d.2.2.1) (hB : d.2.2.1 ≤ s.heap.size) (hS : va_S (fun q => d.2.2.1 ≤ q) s.heap H locs) : va_X d.2.2.2.1 d.2.2.2.2.1 d.2.2.2.2.2 s H := by
  obtain ⟨scr, h1, h2⟩ := hX
  exact ⟨scr, by rw [hS.2.1 _ (by omega) (by show ¬ _ ≤ _; omega)]; exact h1, h2⟩
theorem j_iast {a : Nat} {i : Int32} {v : Int32} (dg : decode K.2.1 pc = .ok (.iastore, 1)) (hk : jK h a = 21) (hin : vp_in i (jN h a)) (k : jj_WP d K bc bs (pc + 1) L st (wI h 1000 a i.toNatClampNeg v) Q) : jj_WP d K bc bs pc L (.int v :: .int i :: .ref a :: st) h Q := by
  intro p l e R s m args below meth c mc ms Z C RR H locs cells slots ls S
  obtain ⟨q, rfl, hi, ha⟩ := S.1.arr hk (by omega)
  refine W.iast C.1 C.2.1 ha ((C.2.2.2.2.2.2.2.1.1.2 0 _ rfl).1 (jN h (q + 1)) (fun j => .int (jI h 1000 (q + 1) j))) (fun q => by cases q) (by show ¬ (i < 0 ∨ (arrV _ _ _).slots.size ≤ _); rw [arrV_size]; exact hin) rfl rfl dg fun H1 e1 z oq => ?_
  refine k p l e R s m args below meth c mc ms Z C RR H1 _ cells slots ls ⟨S.1.upd (i := q) rfl (fun _ => rfl) (fun b hb => jj_E_wI hb) rfl z ?_ oq, S.2.1.put z oq (Nat.le_add_right _ _), S.2.2.1, S.2.2.2.1, S.2.2.2.2⟩
  rw [jj_E_arr (show jK (wI h 1000 (q + 1) i.toNatClampNeg v) (q + 1) = 21 from hk) (by omega)]
  show H1[d.2.2.1 + q]? = some (vp_cell _ _)
  rw [e1]
  show some ((arrV (d.2.1 21) (jN h (q + 1)) (fun j => .int (jI h 1000 (q + 1) j))).setSlot i.toNatClampNeg (.int v)) = some (arrV (d.2.1 21) (jN h (q + 1)) (fun j => .int (jI (wI h 1000 (q + 1) i.toNatClampNeg v) 1000 (q + 1) j)))
  rw [arrV_store]
  congr 2
  funext j
  by_cases hj : j = i.toNatClampNeg
  · subst hj
    simp [updV, jI_wI]
  · simp [updV, jI_wI, hj]
theorem j_zast {a : Nat} {i : Int32} {v : Int32} (dg : decode K.2.1 pc = .ok (.bastore, 1)) (hk : jK h a = 23) (hin : vp_in i (jN h a)) (h01 : v = 0 ∨ v = 1) (k : jj_WP d K bc bs (pc + 1) L st (wI h 1000 a i.toNatClampNeg v) Q) : jj_WP d K bc bs pc L (.int v :: .int i :: .ref a :: st) h Q := by
  intro p l e R s m args below meth c mc ms Z C RR H locs cells slots ls S
  obtain ⟨q, rfl, hi, ha⟩ := S.1.arr hk (by omega)
  refine W.zast C.1 C.2.1 ha ((C.2.2.2.2.2.2.2.1.1.2 2 _ rfl).1 (jN h (q + 1)) (fun j => .int (jI h 1000 (q + 1) j))) (fun q => by cases q) (by show ¬ (i < 0 ∨ (arrV _ _ _).slots.size ≤ _); rw [arrV_size]; exact hin) rfl rfl dg fun H1 e1 z oq => ?_
  refine k p l e R s m args below meth c mc ms Z C RR H1 _ cells slots ls ⟨S.1.upd (i := q) rfl (fun _ => rfl) (fun b hb => jj_E_wI hb) rfl z ?_ oq, S.2.1.put z oq (Nat.le_add_right _ _), S.2.2.1, S.2.2.2.1, S.2.2.2.2⟩
  rw [jj_E_arr (show jK (wI h 1000 (q + 1) i.toNatClampNeg v) (q + 1) = 23 from hk) (by omega)]
  show H1[d.2.2.1 + q]? = some (vp_cell _ _)
  rw [e1]
  show some ((arrV (d.2.1 23) (jN h (q + 1)) (fun j => .int (jI h 1000 (q + 1) j))).setSlot i.toNatClampNeg (narrow .boolean (.int v))) = some (arrV (d.2.1 23) (jN h (q + 1)) (fun j => .int (jI (wI h 1000 (q + 1) i.toNatClampNeg v) 1000 (q + 1) j)))
  rw [arrV_store]
  congr 2
  funext j
  by_cases hj : j = i.toNatClampNeg
  · subst hj
    simp [updV, jI_wI]
    try (rcases h01 with rfl | rfl <;> rfl)
  · simp [updV, jI_wI, hj]
theorem j_last {a : Nat} {i : Int32} {v : Int64} (dg : decode K.2.1 pc = .ok (.lastore, 1)) (hk : jK h a = 22) (hin : vp_in i (jN h a)) (k : jj_WP d K bc bs (pc + 1) L st (wL h 1000 a i.toNatClampNeg v) Q) : jj_WP d K bc bs pc L (.long v :: .int i :: .ref a :: st) h Q := by
  intro p l e R s m args below meth c mc ms Z C RR H locs cells slots ls S
  obtain ⟨q, rfl, hi, ha⟩ := S.1.arr hk (by omega)
  refine W.last C.1 C.2.1 ha ((C.2.2.2.2.2.2.2.1.1.2 1 _ rfl).1 (jN h (q + 1)) (fun j => .long (jL h 1000 (q + 1) j))) (fun q => by cases q) (by show ¬ (i < 0 ∨ (arrV _ _ _).slots.size ≤ _); rw [arrV_size]; exact hin) rfl rfl dg fun H1 e1 z oq => ?_
  refine k p l e R s m args below meth c mc ms Z C RR H1 _ cells slots ls ⟨S.1.upd (i := q) rfl (fun _ => rfl) (fun b hb => jj_E_wL hb) rfl z ?_ oq, S.2.1.put z oq (Nat.le_add_right _ _), S.2.2.1, S.2.2.2.1, S.2.2.2.2⟩
  rw [jj_E_arr (show jK (wL h 1000 (q + 1) i.toNatClampNeg v) (q + 1) = 22 from hk) (by omega)]
  show H1[d.2.2.1 + q]? = some (vp_cell _ _)
  rw [e1]
  show some ((arrV (d.2.1 22) (jN h (q + 1)) (fun j => .long (jL h 1000 (q + 1) j))).setSlot i.toNatClampNeg (.long v)) = some (arrV (d.2.1 22) (jN h (q + 1)) (fun j => .long (jL (wL h 1000 (q + 1) i.toNatClampNeg v) 1000 (q + 1) j)))
  rw [arrV_store]
  congr 2
  funext j
  by_cases hj : j = i.toNatClampNeg
  · subst hj
    simp [updV, jL_wL]
  · simp [updV, jL_wL, hj]
theorem j_aastC {a : Nat} {i : Int32} {v : Nat} (dg : decode K.2.1 pc = .ok (.aastore, 1)) (hk : jK h a = 24) (hin : vp_in i (jN h a)) (hv : v = 0 ∨ jK h v = 1) (k : jj_WP d K bc bs (pc + 1) L st (wR h 1000 a i.toNatClampNeg v) Q) : jj_WP d K bc bs pc L (.ref v :: .int i :: .ref a :: st) h Q := by
  intro p l e R s m args below meth c mc ms Z C RR H locs cells slots ls S
  obtain ⟨q, rfl, hi, ha⟩ := S.1.arr hk (by omega)
  have fin : ∀ (H1 : Heap) (j : Nat), H1[d.2.2.1 + q]? = some ((arrV (d.2.1 24) (jN h (q + 1)) (fun j => va_rf (jj_o d.2.2.1 (jR h 1000 (q + 1) j)))).setSlot i.toNatClampNeg (jj_rv d.2.2.1 d.2.2.2.1 (.ref v))) → H1.size = H.size → (∀ x, x ≠ d.2.2.1 + q → H1[x]? = H[x]?) → W p l e R s m args below meth c H1 (locs ++ [⟨d.2.2.1 + q, j⟩]) cells slots Z (F0 m (pc + 1) ls (st.map (jj_rv d.2.2.1 d.2.2.2.1))) := by
    intro H1 j e1 z oq
    refine k p l e R s m args below meth c mc ms Z C RR H1 _ cells slots ls ⟨S.1.upd (i := q) rfl (fun _ => rfl) (fun b hb => jj_E_wR hb) rfl z ?_ oq, S.2.1.put z oq (Nat.le_add_right _ _), S.2.2.1, S.2.2.2.1, S.2.2.2.2⟩
    rw [jj_E_arr (show jK (wR h 1000 (q + 1) i.toNatClampNeg v) (q + 1) = 24 from hk) (by omega)]
    show H1[d.2.2.1 + q]? = some (vp_cell _ _)
    rw [e1]
    show some ((arrV (d.2.1 24) (jN h (q + 1)) (fun j => va_rf (jj_o d.2.2.1 (jR h 1000 (q + 1) j)))).setSlot i.toNatClampNeg (jj_rv d.2.2.1 d.2.2.2.1 (.ref v))) = some (arrV (d.2.1 24) (jN h (q + 1)) (fun j => va_rf (jj_o d.2.2.1 (jR (wR h 1000 (q + 1) i.toNatClampNeg v) 1000 (q + 1) j))))
    rw [arrV_store]
    congr 2
    funext j
    by_cases hj : j = i.toNatClampNeg
    · subst hj
      simp [updV, jR_wR, jj_rv_ref]
    · simp [updV, jR_wR, hj]
  have hinV : ¬ (i < 0 ∨ (arrV (d.2.1 24) (jN h (q + 1)) (fun j => va_rf (jj_o d.2.2.1 (jR h 1000 (q + 1) j)))).slots.size ≤ i.toNatClampNeg) := by rw [arrV_size]; exact hin
  by_cases h0 : v = 0
  · subst h0
    exact va_WaastN (C := RX0) C.1 C.2.1 ha ((C.2.2.2.2.2.2.2.1.1.2 3 _ rfl).1 (jN h (q + 1)) (fun j => va_rf (jj_o d.2.2.1 (jR h 1000 (q + 1) j)))) (fun h => by cases h) hinV rfl rfl dg fun H1 e1 z oq => fin H1 _ e1 z oq
  · obtain ⟨w, rfl, hw, hb⟩ := S.1.obj (ci := 0) (hv.resolve_left h0) (by omega)
    obtain ⟨r', hr', cellV, g1, g2, g3, -⟩ := hb
    have hcls := (C.2.2.2.2.2.2.2.1.1.1 0 (RX0, TX0, 4) rfl).2
    obtain ⟨kA, comp, k1, k2, k3, -⟩ := (C.2.2.2.2.2.2.2.1.1.2 3 _ rfl).2
    have hcomp : comp = d.1.1 0 := Option.some.inj (k3.symm.trans hcls.1)
    subst hcomp
    obtain ⟨kC, hkC, hkd⟩ := hcls.2
    refine W.aast C.1 C.2.1 ha (fun q h => by cases h) (fun h => by cases h) k1 k2 rfl hkC ⟨fun q => hinV (Or.inl q), Nat.not_le.mp fun q => hinV (Or.inr q)⟩ g1 (fun q h => by rw [g3] at h; cases h) (by rw [g2]; exact hkC) (by rw [g2]; exact va_assign ⟨hcls.1, kC, hkC, hkd⟩) rfl rfl dg fun H1 e1 z oq => fin H1 _ e1 z oq
theorem j_aastN {a : Nat} {i : Int32} {v : Nat} (dg : decode K.2.1 pc = .ok (.aastore, 1)) (hk : jK h a = 25) (hin : vp_in i (jN h a)) (hv : v = 0 ∨ jK h v = 4) (k : jj_WP d K bc bs (pc + 1) L st (wR h 1000 a i.toNatClampNeg v) Q) : jj_WP d K bc bs pc L (.ref v :: .int i :: .ref a :: st) h Q := by
  intro p l e R s m args below meth c mc ms Z C RR H locs cells slots ls S
  obtain ⟨q, rfl, hi, ha⟩ := S.1.arr hk (by omega)
  have fin : ∀ (H1 : Heap) (j : Nat), H1[d.2.2.1 + q]? = some ((arrV (d.2.1 25) (jN h (q + 1)) (fun j => va_rf (jj_o d.2.2.1 (jR h 1000 (q + 1) j)))).setSlot i.toNatClampNeg (jj_rv d.2.2.1 d.2.2.2.1 (.ref v))) → H1.size = H.size → (∀ x, x ≠ d.2.2.1 + q → H1[x]? = H[x]?) → W p l e R s m args below meth c H1 (locs ++ [⟨d.2.2.1 + q, j⟩]) cells slots Z (F0 m (pc + 1) ls (st.map (jj_rv d.2.2.1 d.2.2.2.1))) := by
    intro H1 j e1 z oq
    refine k p l e R s m args below meth c mc ms Z C RR H1 _ cells slots ls ⟨S.1.upd (i := q) rfl (fun _ => rfl) (fun b hb => jj_E_wR hb) rfl z ?_ oq, S.2.1.put z oq (Nat.le_add_right _ _), S.2.2.1, S.2.2.2.1, S.2.2.2.2⟩
    rw [jj_E_arr (show jK (wR h 1000 (q + 1) i.toNatClampNeg v) (q + 1) = 25 from hk) (by omega)]
    show H1[d.2.2.1 + q]? = some (vp_cell _ _)
    rw [e1]
    show some ((arrV (d.2.1 25) (jN h (q + 1)) (fun j => va_rf (jj_o d.2.2.1 (jR h 1000 (q + 1) j)))).setSlot i.toNatClampNeg (jj_rv d.2.2.1 d.2.2.2.1 (.ref v))) = some (arrV (d.2.1 25) (jN h (q + 1)) (fun j => va_rf (jj_o d.2.2.1 (jR (wR h 1000 (q + 1) i.toNatClampNeg v) 1000 (q + 1) j))))
    rw [arrV_store]
    congr 2
    funext j
    by_cases hj : j = i.toNatClampNeg
    · subst hj
      simp [updV, jR_wR, jj_rv_ref]
    · simp [updV, jR_wR, hj]
  have hinV : ¬ (i < 0 ∨ (arrV (d.2.1 25) (jN h (q + 1)) (fun j => va_rf (jj_o d.2.2.1 (jR h 1000 (q + 1) j)))).slots.size ≤ i.toNatClampNeg) := by rw [arrV_size]; exact hin
  by_cases h0 : v = 0
  · subst h0
    exact va_WaastN (C := RX3) C.1 C.2.1 ha ((C.2.2.2.2.2.2.2.1.1.2 4 _ rfl).1 (jN h (q + 1)) (fun j => va_rf (jj_o d.2.2.1 (jR h 1000 (q + 1) j)))) (fun h => by cases h) hinV rfl rfl dg fun H1 e1 z oq => fin H1 _ e1 z oq
  · obtain ⟨w, rfl, hw, hb⟩ := S.1.obj (ci := 3) (hv.resolve_left h0) (by omega)
    obtain ⟨r', hr', cellV, g1, g2, g3, -⟩ := hb
    have hcls := (C.2.2.2.2.2.2.2.1.1.1 3 (RX3, TX3, 9) rfl).2
    obtain ⟨kA, comp, k1, k2, k3, -⟩ := (C.2.2.2.2.2.2.2.1.1.2 4 _ rfl).2
    have hcomp : comp = d.1.1 3 := Option.some.inj (k3.symm.trans hcls.1)
    subst hcomp
    obtain ⟨kC, hkC, hkd⟩ := hcls.2
    refine W.aast C.1 C.2.1 ha (fun q h => by cases h) (fun h => by cases h) k1 k2 rfl hkC ⟨fun q => hinV (Or.inl q), Nat.not_le.mp fun q => hinV (Or.inr q)⟩ g1 (fun q h => by rw [g3] at h; cases h) (by rw [g2]; exact hkC) (by rw [g2]; exact va_assign ⟨hcls.1, kC, hkC, hkd⟩) rfl rfl dg fun H1 e1 z oq => fin H1 _ e1 z oq
theorem j_aastR {a : Nat} {i : Int32} {v : Nat} (dg : decode K.2.1 pc = .ok (.aastore, 1)) (hk : jK h a = 26) (hin : vp_in i (jN h a)) (hv : v = 0 ∨ jK h v = 7) (k : jj_WP d K bc bs (pc + 1) L st (wR h 1000 a i.toNatClampNeg v) Q) : jj_WP d K bc bs pc L (.ref v :: .int i :: .ref a :: st) h Q := by
  intro p l e R s m args below meth c mc ms Z C RR H locs cells slots ls S
  obtain ⟨q, rfl, hi, ha⟩ := S.1.arr hk (by omega)
  have fin : ∀ (H1 : Heap) (j : Nat), H1[d.2.2.1 + q]? = some ((arrV (d.2.1 26) (jN h (q + 1)) (fun j => va_rf (jj_o d.2.2.1 (jR h 1000 (q + 1) j)))).setSlot i.toNatClampNeg (jj_rv d.2.2.1 d.2.2.2.1 (.ref v))) → H1.size = H.size → (∀ x, x ≠ d.2.2.1 + q → H1[x]? = H[x]?) → W p l e R s m args below meth c H1 (locs ++ [⟨d.2.2.1 + q, j⟩]) cells slots Z (F0 m (pc + 1) ls (st.map (jj_rv d.2.2.1 d.2.2.2.1))) := by
    intro H1 j e1 z oq
    refine k p l e R s m args below meth c mc ms Z C RR H1 _ cells slots ls ⟨S.1.upd (i := q) rfl (fun _ => rfl) (fun b hb => jj_E_wR hb) rfl z ?_ oq, S.2.1.put z oq (Nat.le_add_right _ _), S.2.2.1, S.2.2.2.1, S.2.2.2.2⟩
    rw [jj_E_arr (show jK (wR h 1000 (q + 1) i.toNatClampNeg v) (q + 1) = 26 from hk) (by omega)]
    show H1[d.2.2.1 + q]? = some (vp_cell _ _)
    rw [e1]
    show some ((arrV (d.2.1 26) (jN h (q + 1)) (fun j => va_rf (jj_o d.2.2.1 (jR h 1000 (q + 1) j)))).setSlot i.toNatClampNeg (jj_rv d.2.2.1 d.2.2.2.1 (.ref v))) = some (arrV (d.2.1 26) (jN h (q + 1)) (fun j => va_rf (jj_o d.2.2.1 (jR (wR h 1000 (q + 1) i.toNatClampNeg v) 1000 (q + 1) j))))
    rw [arrV_store]
    congr 2
    funext j
    by_cases hj : j = i.toNatClampNeg
    · subst hj
      simp [updV, jR_wR, jj_rv_ref]
    · simp [updV, jR_wR, hj]
  have hinV : ¬ (i < 0 ∨ (arrV (d.2.1 26) (jN h (q + 1)) (fun j => va_rf (jj_o d.2.2.1 (jR h 1000 (q + 1) j)))).slots.size ≤ i.toNatClampNeg) := by rw [arrV_size]; exact hin
  by_cases h0 : v = 0
  · subst h0
    exact va_WaastN (C := RX6) C.1 C.2.1 ha ((C.2.2.2.2.2.2.2.1.1.2 5 _ rfl).1 (jN h (q + 1)) (fun j => va_rf (jj_o d.2.2.1 (jR h 1000 (q + 1) j)))) (fun h => by cases h) hinV rfl rfl dg fun H1 e1 z oq => fin H1 _ e1 z oq
  · obtain ⟨w, rfl, hw, hb⟩ := S.1.obj (ci := 6) (hv.resolve_left h0) (by omega)
    obtain ⟨r', hr', cellV, g1, g2, g3, -⟩ := hb
    have hcls := (C.2.2.2.2.2.2.2.1.1.1 6 (RX6, TX6, 2) rfl).2
    obtain ⟨kA, comp, k1, k2, k3, -⟩ := (C.2.2.2.2.2.2.2.1.1.2 5 _ rfl).2
    have hcomp : comp = d.1.1 6 := Option.some.inj (k3.symm.trans hcls.1)
    subst hcomp
    obtain ⟨kC, hkC, hkd⟩ := hcls.2
    refine W.aast C.1 C.2.1 ha (fun q h => by cases h) (fun h => by cases h) k1 k2 rfl hkC ⟨fun q => hinV (Or.inl q), Nat.not_le.mp fun q => hinV (Or.inr q)⟩ g1 (fun q h => by rw [g3] at h; cases h) (by rw [g2]; exact hkC) (by rw [g2]; exact va_assign ⟨hcls.1, kC, hkC, hkd⟩) rfl rfl dg fun H1 e1 z oq => fin H1 _ e1 z oq
theorem j_aastT {a : Nat} {i : Int32} {v : Nat} (dg : decode K.2.1 pc = .ok (.aastore, 1)) (hk : jK h a = 27) (hin : vp_in i (jN h a)) (hv : v = 0 ∨ jK h v = 8) (k : jj_WP d K bc bs (pc + 1) L st (wR h 1000 a i.toNatClampNeg v) Q) : jj_WP d K bc bs pc L (.ref v :: .int i :: .ref a :: st) h Q := by
  intro p l e R s m args below meth c mc ms Z C RR H locs cells slots ls S
  obtain ⟨q, rfl, hi, ha⟩ := S.1.arr hk (by omega)
  have fin : ∀ (H1 : Heap) (j : Nat), H1[d.2.2.1 + q]? = some ((arrV (d.2.1 27) (jN h (q + 1)) (fun j => va_rf (jj_o d.2.2.1 (jR h 1000 (q + 1) j)))).setSlot i.toNatClampNeg (jj_rv d.2.2.1 d.2.2.2.1 (.ref v))) → H1.size = H.size → (∀ x, x ≠ d.2.2.1 + q → H1[x]? = H[x]?) → W p l e R s m args below meth c H1 (locs ++ [⟨d.2.2.1 + q, j⟩]) cells slots Z (F0 m (pc + 1) ls (st.map (jj_rv d.2.2.1 d.2.2.2.1))) := by
    intro H1 j e1 z oq
    refine k p l e R s m args below meth c mc ms Z C RR H1 _ cells slots ls ⟨S.1.upd (i := q) rfl (fun _ => rfl) (fun b hb => jj_E_wR hb) rfl z ?_ oq, S.2.1.put z oq (Nat.le_add_right _ _), S.2.2.1, S.2.2.2.1, S.2.2.2.2⟩
    rw [jj_E_arr (show jK (wR h 1000 (q + 1) i.toNatClampNeg v) (q + 1) = 27 from hk) (by omega)]
    show H1[d.2.2.1 + q]? = some (vp_cell _ _)
    rw [e1]
    show some ((arrV (d.2.1 27) (jN h (q + 1)) (fun j => va_rf (jj_o d.2.2.1 (jR h 1000 (q + 1) j)))).setSlot i.toNatClampNeg (jj_rv d.2.2.1 d.2.2.2.1 (.ref v))) = some (arrV (d.2.1 27) (jN h (q + 1)) (fun j => va_rf (jj_o d.2.2.1 (jR (wR h 1000 (q + 1) i.toNatClampNeg v) 1000 (q + 1) j))))
    rw [arrV_store]
    congr 2
    funext j
    by_cases hj : j = i.toNatClampNeg
    · subst hj
      simp [updV, jR_wR, jj_rv_ref]
    · simp [updV, jR_wR, hj]
  have hinV : ¬ (i < 0 ∨ (arrV (d.2.1 27) (jN h (q + 1)) (fun j => va_rf (jj_o d.2.2.1 (jR h 1000 (q + 1) j)))).slots.size ≤ i.toNatClampNeg) := by rw [arrV_size]; exact hin
  by_cases h0 : v = 0
  · subst h0
    exact va_WaastN (C := RX7) C.1 C.2.1 ha ((C.2.2.2.2.2.2.2.1.1.2 6 _ rfl).1 (jN h (q + 1)) (fun j => va_rf (jj_o d.2.2.1 (jR h 1000 (q + 1) j)))) (fun h => by cases h) hinV rfl rfl dg fun H1 e1 z oq => fin H1 _ e1 z oq
  · obtain ⟨w, rfl, hw, hb⟩ := S.1.obj (ci := 7) (hv.resolve_left h0) (by omega)
    obtain ⟨r', hr', cellV, g1, g2, g3, -⟩ := hb
    have hcls := (C.2.2.2.2.2.2.2.1.1.1 7 (RX7, TX7, 6) rfl).2
    obtain ⟨kA, comp, k1, k2, k3, -⟩ := (C.2.2.2.2.2.2.2.1.1.2 6 _ rfl).2
    have hcomp : comp = d.1.1 7 := Option.some.inj (k3.symm.trans hcls.1)
    subst hcomp
    obtain ⟨kC, hkC, hkd⟩ := hcls.2
    refine W.aast C.1 C.2.1 ha (fun q h => by cases h) (fun h => by cases h) k1 k2 rfl hkC ⟨fun q => hinV (Or.inl q), Nat.not_le.mp fun q => hinV (Or.inr q)⟩ g1 (fun q h => by rw [g3] at h; cases h) (by rw [g2]; exact hkC) (by rw [g2]; exact va_assign ⟨hcls.1, kC, hkC, hkd⟩) rfl rfl dg fun H1 e1 z oq => fin H1 _ e1 z oq
end JARR
