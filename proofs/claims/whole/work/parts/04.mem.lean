/-! the cells of the small heap, after a write or a making -/
def jj_cls (ci : Nat) (C : String) (T : u_T) (N : Nat) (ty : Nat → FieldType) : Prop :=
  jj_cl[ci]? = some (C, T, N) ∧ (∀ w ∈ u_ws C T N, w ∈ jj_tb) ∧ (∀ k, k < N → parseFieldDescriptor (T k).2.2.1 = some (ty k)) ∧ (∀ a, a < N → ∀ b, b < N → a ≠ b → (T a).2.1 ≠ (T b).2.1) ∧ (jj_T ci).length = N ∧ ci < 19 ∧ (∀ k, k < N → (T k).1 = C)
theorem jj_E_obj {dA : Nat → ClassId} {B : Nat} {h : jj_H} {a ci : Nat} (hk : jK h a = ci + 1) (hc : ci < 19) : jj_E dA B h a = .inr (ci, jj_fs B h ci a) := by
  unfold jj_E
  rw [hk, if_pos (by omega)]
  simp
theorem jj_E_arr {dA : Nat → ClassId} {B : Nat} {h : jj_H} {a k : Nat} (hk : jK h a = k) (hc : 20 ≤ k) : jj_E dA B h a = .inl (dA k, jN h a, jj_ac B h k a) := by
  unfold jj_E
  rw [hk, if_neg (by omega)]
theorem jj_fs_get {B : Nat} {h : jj_H} {ci a k : Nat} (hk : k < (jj_T ci).length) : (jj_fs B h ci a)[k]? = some (jj_fv B h ((jj_T ci).getD k 0) (50 * ci + k) a) := by
  unfold jj_fs
  simp [hk]
theorem jj_fs_len {B : Nat} {h : jj_H} {ci a : Nat} : (jj_fs B h ci a).length = (jj_T ci).length := by simp [jj_fs]
theorem jj_E_wI {dA : Nat → ClassId} {B : Nat} {h : jj_H} {t a i : Nat} {v : Int32} {b : Nat} (hb : b ≠ a) : jj_E dA B (wI h t a i v) b = jj_E dA B h b := by
  simp only [jj_E, jj_fs, jj_fv, jj_ac, jK_wI, jN_wI, jI_wI, jL_wI, jR_wI, hb, false_and, and_false, ite_false, if_false]
  try rfl
theorem jj_E_wL {dA : Nat → ClassId} {B : Nat} {h : jj_H} {t a i : Nat} {v : Int64} {b : Nat} (hb : b ≠ a) : jj_E dA B (wL h t a i v) b = jj_E dA B h b := by
  simp only [jj_E, jj_fs, jj_fv, jj_ac, jK_wL, jN_wL, jI_wL, jL_wL, jR_wL, hb, false_and, and_false, ite_false, if_false]
  try rfl
theorem jj_E_wR {dA : Nat → ClassId} {B : Nat} {h : jj_H} {t a i : Nat} {v : Nat} {b : Nat} (hb : b ≠ a) : jj_E dA B (wR h t a i v) b = jj_E dA B h b := by
  simp only [jj_E, jj_fs, jj_fv, jj_ac, jK_wR, jN_wR, jI_wR, jL_wR, jR_wR, hb, false_and, and_false, ite_false, if_false]
  try rfl
theorem jj_E_wC {dA : Nat → ClassId} {B : Nat} {h : jj_H} {a sp c dp n b : Nat} (hb : b ≠ c) : jj_E dA B (wC h a sp c dp n) b = jj_E dA B h b := by
  simp only [jj_E, jj_fs, jj_fv, jj_ac, jK_wC, jN_wC, jI_wC, jL_wC, jR_wC, hb, false_and, and_false, ite_false, if_false]
  try rfl
theorem jj_E_wA {dA : Nat → ClassId} {B : Nat} {h : jj_H} {k n b : Nat} (hb : b ≠ jZ h + 1) : jj_E dA B (wA h k n) b = jj_E dA B h b := by
  simp only [jj_E, jj_fs, jj_fv, jj_ac, jK_wA, jN_wA, jI_wA, jL_wA, jR_wA, hb, if_false]
theorem jj_fs_set {B : Nat} {h h' : jj_H} {ci a k : Nat} {v : Value} (h1 : ∀ j, j < (jj_T ci).length → j ≠ k → jj_fv B h' ((jj_T ci).getD j 0) (50 * ci + j) a = jj_fv B h ((jj_T ci).getD j 0) (50 * ci + j) a) (h2 : jj_fv B h' ((jj_T ci).getD k 0) (50 * ci + k) a = v) : jj_fs B h' ci a = (jj_fs B h ci a).set k v := by
  apply List.ext_getElem?
  intro j
  rw [List.getElem?_set]
  by_cases hj : j < (jj_T ci).length
  · rw [jj_fs_get hj, jj_fs_get hj, jj_fs_len]
    by_cases hjk : k = j
    · subst hjk
      rw [if_pos rfl, if_pos hj, h2]
    · rw [if_neg hjk, h1 j hj (fun e => hjk e.symm)]
  · have e1 : (jj_fs B h' ci a)[j]? = none := List.getElem?_eq_none (by rw [jj_fs_len]; omega)
    have e2 : (jj_fs B h ci a)[j]? = none := List.getElem?_eq_none (by rw [jj_fs_len]; omega)
    rw [e1, e2, jj_fs_len]
    by_cases hjk : k = j
    · rw [if_pos hjk, if_neg (by omega)]
    · rw [if_neg hjk]
theorem jj_fs_wI {B : Nat} {h : jj_H} {ci a k : Nat} {v : Int32} (ht : (jj_T ci).getD k 0 ≠ 1 ∧ (jj_T ci).getD k 0 ≠ 2) : jj_fs B (wI h (50 * ci + k) a 0 v) ci a = (jj_fs B h ci a).set k (.int v) := by
  refine jj_fs_set (fun j hj hne => ?_) ?_
  · have hne' : ¬ (50 * ci + j = 50 * ci + k) := by omega
    simp only [jj_fv, jI_wI, jL_wI, jR_wI, hne', false_and, if_false]
  · simp only [jj_fv, jI_wI]
    rw [if_neg ht.1, if_neg ht.2]
    simp
theorem jj_fs_wL {B : Nat} {h : jj_H} {ci a k : Nat} {v : Int64} (ht : (jj_T ci).getD k 0 = 1) : jj_fs B (wL h (50 * ci + k) a 0 v) ci a = (jj_fs B h ci a).set k (.long v) := by
  refine jj_fs_set (fun j hj hne => ?_) ?_
  · have hne' : ¬ (50 * ci + j = 50 * ci + k) := by omega
    simp only [jj_fv, jI_wL, jL_wL, jR_wL, hne', false_and, if_false]
  · simp only [jj_fv, jL_wL]
    rw [if_pos ht]
    simp
theorem jj_fs_wR {B : Nat} {h : jj_H} {ci a k : Nat} {v : Nat} (ht : (jj_T ci).getD k 0 = 2) : jj_fs B (wR h (50 * ci + k) a 0 v) ci a = (jj_fs B h ci a).set k (va_rf (jj_o B v)) := by
  refine jj_fs_set (fun j hj hne => ?_) ?_
  · have hne' : ¬ (50 * ci + j = 50 * ci + k) := by omega
    simp only [jj_fv, jI_wR, jL_wR, jR_wR, hne', false_and, if_false]
  · simp only [jj_fv, jR_wR]
    rw [if_neg (by omega), if_pos ht]
    simp
theorem jj_P.upd {D : va_G} {dA : Nat → ClassId} {B : Nat} {h h' : jj_H} {H H1 : Heap} {i : Nat} {e' : va_E} (hP : jj_P D dA B h H) (hz : jZ h' = jZ h) (hk : ∀ a, jK h' a = jK h a) (ho : ∀ b, b ≠ i + 1 → jj_E dA B h' b = jj_E dA B h b) (he : jj_E dA B h' (i + 1) = e') (z : H1.size = H.size) (a1 : va_at D jj_cl (B + i, e') H1) (oq : ∀ q : Nat, q ≠ B + i → H1[q]? = H[q]?) : jj_P D dA B h' H1 := by
  obtain ⟨h1, h2, h3⟩ := hP
  refine ⟨by rw [z, hz]; exact h1, fun a ha => by rw [hz]; exact h2 a (by rw [← hk]; exact ha), fun j hj => ?_⟩
  by_cases hji : j = i
  · subst hji
    rw [he]
    exact a1
  · rw [ho (j + 1) (by omega)]
    exact (h3 j (by omega)).kept (oq (B + j) (by omega))
theorem jj_P.push {D : va_G} {dA : Nat → ClassId} {B : Nat} {h : jj_H} {H H1 : Heap} {k n : Nat} {e' : va_E} (hP : jj_P D dA B h H) (he : jj_E dA B (wA h k n) (jZ h + 1) = e') (z : H1.size = H.size + 1) (a1 : va_at D jj_cl (H.size, e') H1) (oq : ∀ q : Nat, q < H.size → H1[q]? = H[q]?) : jj_P D dA B (wA h k n) H1 := by
  obtain ⟨h1, h2, h3⟩ := hP
  refine ⟨by rw [z, jZ_wA]; omega, fun a ha => ?_, fun j hj => ?_⟩
  · rw [jK_wA] at ha
    rw [jZ_wA]
    by_cases hh : a = jZ h + 1
    · exact ⟨jZ h, hh, by omega⟩
    · rw [if_neg hh] at ha
      obtain ⟨i, e1, e2⟩ := h2 a ha
      exact ⟨i, e1, by omega⟩
  · rw [jZ_wA] at hj
    by_cases hh : j = jZ h
    · subst hh
      rw [he, ← h1]
      exact a1
    · rw [jj_E_wA (by omega)]
      exact (h3 j (by omega)).kept (oq (B + j) (by omega))
theorem jj_P.obj {D : va_G} {dA : Nat → ClassId} {B : Nat} {h : jj_H} {H : Heap} {a ci : Nat} (hP : jj_P D dA B h H) (hk : jK h a = ci + 1) (hc : ci < 19) : ∃ i, a = i + 1 ∧ i < jZ h ∧ va_at D jj_cl (B + i, .inr (ci, jj_fs B h ci a)) H := by
  obtain ⟨i, rfl, hi⟩ := hP.2.1 a (by omega)
  have h3 := hP.2.2 i hi
  rw [jj_E_obj hk hc] at h3
  exact ⟨i, rfl, hi, h3⟩
theorem jj_P.arr {D : va_G} {dA : Nat → ClassId} {B : Nat} {h : jj_H} {H : Heap} {a k : Nat} (hP : jj_P D dA B h H) (hk : jK h a = k) (hc : 20 ≤ k) : ∃ i, a = i + 1 ∧ i < jZ h ∧ va_at D jj_cl (B + i, .inl (dA k, jN h a, jj_ac B h k a)) H := by
  obtain ⟨i, rfl, hi⟩ := hP.2.1 a (by omega)
  have h3 := hP.2.2 i hi
  rw [jj_E_arr hk hc] at h3
  exact ⟨i, rfl, hi, h3⟩
theorem jj_one {D : va_G} {cl : List vw_C} {q : Nat × va_E} {H : Heap} (h : va_at D cl q H) : va_P D cl [q] H := fun k x hx => by
  have hz : k < 1 := (List.getElem?_eq_some_iff.mp hx).1
  rw [show k = 0 by omega] at hx
  cases hx
  exact h
section JPUT
variable {p : Program} {l : Launch} {e : Env} {R : Room} {s : State} {m : MethodId} {args : Array Value} {below : List Frame} {meth : Method} {c : Code} {H : Heap} {locs : List Loc} {cells slots : Nat} {Q : State → Prop}
variable {cc : ByteArray} {pc : Nat} {ls : Array Slot} {rest : List Value} {D : va_G} {cl : List vw_C} {a : Nat} {tys : List (ClassId × FieldType)}
/-- a field is written: the heap behind it has the same size and the same other cells -/
theorem jj_putW (hexec : p.tables.exec = Jvm.exec) (hb : c.code = cc) {own C : String} {T : u_T} {N ci index : Nat} {Ts : List Cond} (hts : ∀ w ∈ Ts, w.before args s = true) (hin : ∀ w ∈ u_ws C T N, w ∈ Ts) (ty0 : Nat → FieldType) (hty : ∀ k, k < N → parseFieldDescriptor (T k).2.2.1 = some (ty0 k)) (hnm : ∀ a, a < N → ∀ b, b < N → a ≠ b → (T a).2.1 ≠ (T b).2.1) (hown : s.vm.findClass own = some m.cls) (hK : va_K D cl tys s) {fs : List Value} (hP : va_at D cl (a, .inr (ci, fs)) H) (hc : cl[ci]? = some (C, T, N)) (k : Nat) (hk : k < N) (hlink : (Cond.fieldLink own index (T k).1 (T k).2.1 (T k).2.2.1).before args s = true) (hfin : (T k).2.2.2 = false ∨ ((T k).2.2.2 = true ∧ meth.name = "<init>" ∧ (T k).1 = own)) {v : Value} (hn : narrow (ty0 k) v = v) (hfit : fits (ty0 k) v = true) (hl : k < fs.length)
    (hdg : decode cc pc = .ok (.putfield index, 3)) (kk : ∀ (H1 : Heap) (j : Nat), va_at D cl (a, .inr (ci, fs.set k v)) H1 → H1.size = H.size → (∀ q : Nat, q ≠ a → H1[q]? = H[q]?) → W p l e R s m args below meth c H1 (locs ++ [⟨a, j⟩]) cells slots Q (F0 m (pc + 3) ls rest)) : W p l e R s m args below meth c H locs cells slots Q (F0 m pc ls (v :: .ref a :: rest)) := by
  have hap := va_apart (own := own) hts hin ty0 hty hnm hK hc
  obtain ⟨r, h1, cell, q1, q2, q3, q4⟩ := hP
  have hr : r = (C, T, N) := Option.some.inj (h1.symm.trans hc)
  subst hr
  obtain ⟨hS, hfc, kC, hkC, hkind⟩ := hK.1 ci _ hc
  obtain ⟨cf, kf, fi, f, hi, hsl⟩ := hS k hk
  have hlay := hts _ (hin _ (u_in_lay hk))
  unfold u_lay at hlay
  have hst := (u_facts hfc hkC (u_lays hts hin hk) hi).1
  rcases hfin with hfin | ⟨hfin, hin2, hdecl⟩
  · rw [if_neg (by rw [hfin]; decide)] at hlay
    have h6 := u_store hfc hkC hkind hlay hi (hty k hk) hn hfit
    refine W.putK hexec hb (f := f) ⟨hown, hlink, ⟨_, _, _, hi⟩, hst⟩ (by rw [q2]; exact h6) q1 q3 (by rw [hsl]; exact k2_hasslot (q4 k hk)) rfl rfl hdg fun H' e1 e2 e3 => ?_
    rw [hsl] at e1
    exact kk H' _ ⟨_, hc, t_OB.to (V := updV (vp_V fs) k v) ⟨_, e1, q2, q3, t_set q4 hap hk v⟩ (fun j _ => vp_updV_set hl v j)⟩ e2 e3
  · rw [if_pos hfin] at hlay
    have hcf : m.cls = cf := by
      obtain ⟨_, _, c', _, _, _, -, -, hf', -, -, -, hown2, -⟩ := Cond.laysFinal_spec hlay
      have e1 : c' = cf := by have := hi.symm.trans hf'; simp at this; exact this.1.symm
      rw [hdecl] at hown2
      rw [← e1]; exact Option.some.inj (hown.symm.trans hown2)
    have h6 := u_fits hfc hkC hkind (Or.inr hlay) hi (hty k hk) hn hfit
    refine W.putFinK hexec hb hown hlink hi hst hcf hin2 (by rw [q2]; exact h6) q1 q3 (by rw [hsl]; exact k2_hasslot (q4 k hk)) rfl rfl hdg fun H' e1 e2 e3 => ?_
    rw [hsl] at e1
    exact kk H' _ ⟨_, hc, t_OB.to (V := updV (vp_V fs) k v) ⟨_, e1, q2, q3, t_set q4 hap hk v⟩ (fun j _ => vp_updV_set hl v j)⟩ e2 e3
theorem jj_S.put {A : Nat → Prop} {H0 H1 : Heap} {j : Nat} (h : va_S A H0 H locs) (z : H1.size = H.size) (oq : ∀ q : Nat, q ≠ a → H1[q]? = H[q]?) (ha : A a) : va_S A H0 H1 (locs ++ [⟨a, j⟩]) := va_S.put h z oq ha
end JPUT
