section JMAKE
variable {d : jj_D} {K : jj_M} {bc bs pc : Nat} {L : List (Nat × Value)} {st : List Value} {h : jj_H} {Q : Value → jj_H → Prop}
def jj_dv (t : Nat) : Value := if t = 1 then .long 0 else if t = 2 then .null else .int 0
theorem jj_S.push {A : Nat → Prop} {H0 H H1 : Heap} {locs : List Loc} (hS : va_S A H0 H locs) (z : H1.size = H.size + 1) (o1 : ∀ q : Nat, q < H.size → H1[q]? = H[q]?) : va_S A H0 H1 locs :=
  ⟨Nat.le_trans hS.1 (by omega), fun x h1 h2 => (o1 x (Nat.lt_of_lt_of_le h1 hS.1)).trans (hS.2.1 x h1 h2), hS.2.2⟩
theorem jj_rv_new {d : jj_D} {h : jj_H} {H : Heap} (hP : jj_P d.1 d.2.1 d.2.2.1 h H) : jj_rv d.2.2.1 d.2.2.2.1 (.ref (jZ h + 1)) = .ref H.size := by
  show Value.ref (d.2.2.1 + jZ h) = _
  rw [hP.1]
theorem j_new {ci : Nat} {C0 : String} {T : u_T} {N : Nat} {ty : Nat → FieldType} {idx : Nat} (hc : jj_cls ci C0 T N ty) (hdv : ∀ k, k < N → defaultValue (ty k) = jj_dv ((jj_T ci).getD k 0)) (hl : Cond.classLink K.1.cls idx C0 ∈ jj_tb) (hin : Cond.instantiable C0 N ∈ jj_tb) (hit : Cond.initialized C0 ∈ jj_tb) (dg : decode K.2.1 pc = .ok (.new idx, 3)) (k : jj_WP d K bc bs (pc + 3) L (.ref (jZ h + 1) :: st) (wA h (ci + 1) 0) Q) : jj_WP d K (bc + 1) (bs + N) pc L st h Q := by
  intro p l e R s m args below meth c mc ms Z C RR H locs cells slots ls S
  have hts := C.2.2.2.2.2.2.1
  have hKn := C.2.2.2.2.2.2.2.1.1.1 ci _ hc.1
  have b1 := S.2.2.1
  have b2 := S.2.2.2.1
  have b3 := C.2.2.2.2.2.2.2.2.2.2.1
  have b4 := C.2.2.2.2.2.2.2.2.2.2.2.1
  refine W.newcK C.1 C.2.1 C.2.2.2.2.2.1 (hts _ hl) (hts _ hin) (hts _ hit) rfl dg (by omega) (by omega) hKn.2.1 rfl fun H1 kC hkC e1 z1 o1 => ?_
  have kk := k p l e R s m args below meth c mc ms Z C RR H1 locs (cells + 1) (slots + N) ls ⟨S.1.push (e' := .inr (ci, jj_fs d.2.2.1 (wA h (ci + 1) 0) ci (jZ h + 1))) (jj_E_obj (by rw [jK_wA, if_pos rfl]) hc.2.2.2.2.2.1) z1 ⟨_, hc.1, (u_born ty hts hc.2.1 hKn hkC e1 hc.2.2.1).to fun j hj => ?_⟩ o1, jj_S.push S.2.1 z1 o1, by omega, by omega, S.2.2.2.2⟩
  · rw [List.map_cons, jj_rv_new S.1] at kk
    exact kk
  · have hj' : j < N := hj
    rw [hdv j hj']
    have e3 : vp_V (jj_fs d.2.2.1 (wA h (ci + 1) 0) ci (jZ h + 1)) j = jj_fv d.2.2.1 (wA h (ci + 1) 0) ((jj_T ci).getD j 0) (50 * ci + j) (jZ h + 1) := by
      unfold vp_V
      rw [List.getD_eq_getElem?_getD, jj_fs_get (by have := hc.2.2.2.2.1; omega)]
      rfl
    show jj_dv ((jj_T ci).getD j 0) = vp_V (jj_fs d.2.2.1 (wA h (ci + 1) 0) ci (jZ h + 1)) j
    rw [e3]
    simp only [jj_fv, jL_wA, jI_wA, jR_wA, if_pos]
    rfl
theorem jj_arrV_congr {cA : ClassId} {n : Nat} {F G : Nat → Value} (h : ∀ j, j < n → F j = G j) : arrV cA n F = arrV cA n G := by
  unfold arrV
  congr 2
  funext j
  exact h j.val j.isLt
theorem jj_ac_new {B : Nat} {h : jj_H} {k n : Nat} (cA : ClassId) : vp_cell cA (n, jj_ac B (wA h k n) k (jZ h + 1)) = arrV cA n (fun _ => if k = 22 then .long 0 else if k < 24 then .int 0 else .null) := by
  unfold jj_ac
  simp only [jI_wA, jL_wA, jR_wA, if_pos]
  by_cases h1 : k = 22
  · simp only [h1, if_pos]
    rfl
  · by_cases h2 : k < 24
    · simp only [h1, h2, if_pos, if_false]
      rfl
    · simp only [h1, h2, if_false]
      rfl
theorem j_newI {n : Int32} {N : Nat} (hw : Cond.arrayClass .int ∈ jj_tb) (dg : decode K.2.1 pc = .ok (.newarray .int, 2)) (hn : ¬ n < 0) (hN : n.toNatClampNeg = N) (hbytes : N ≤ 134217728) (k : jj_WP d K bc bs (pc + 2) L (.ref (jZ h + 1) :: st) (wA h 21 N) Q) : jj_WP d K (bc + 1) (bs + N) pc L (.int n :: st) h Q := by
  intro p l e R s m args below meth c mc ms Z C RR H locs cells slots ls S
  have b1 := S.2.2.1
  have b2 := S.2.2.2.1
  have b3 := C.2.2.2.2.2.2.2.2.2.2.1
  have b4 := C.2.2.2.2.2.2.2.2.2.2.2.1
  refine va_newaK C.1 C.2.1 (atype := .int) (C.2.2.2.2.2.2.1 _ hw) rfl dg rfl hn hN (by show N * 4 ≤ _; omega) (by omega) (by omega) rfl fun H1 cA e1 z1 o1 hAr hNm => ?_
  have hcA : cA = d.2.1 21 := Option.some.inj (hNm.symm.trans (C.2.2.2.2.2.2.2.1.1.2 0 _ rfl).2)
  subst hcA
  have kk := k p l e R s m args below meth c mc ms Z C RR H1 locs (cells + 1) (slots + N) ls ⟨S.1.push rfl z1 (by
    rw [jj_E_arr (by rw [jK_wA, if_pos rfl]) (by omega)]
    show H1[H.size]? = some (vp_cell _ _)
    rw [e1, jN_wA, if_pos rfl]
    exact congrArg some (jj_ac_new (B := d.2.2.1) (h := h) (k := 21) (n := N) (d.2.1 21)).symm) o1, jj_S.push S.2.1 z1 o1, by omega, by omega, S.2.2.2.2⟩
  rw [List.map_cons, jj_rv_new S.1] at kk
  exact kk
theorem j_newL {n : Int32} {N : Nat} (hw : Cond.arrayClass .long ∈ jj_tb) (dg : decode K.2.1 pc = .ok (.newarray .long, 2)) (hn : ¬ n < 0) (hN : n.toNatClampNeg = N) (hbytes : N ≤ 67108864) (k : jj_WP d K bc bs (pc + 2) L (.ref (jZ h + 1) :: st) (wA h 22 N) Q) : jj_WP d K (bc + 1) (bs + N) pc L (.int n :: st) h Q := by
  intro p l e R s m args below meth c mc ms Z C RR H locs cells slots ls S
  have b1 := S.2.2.1
  have b2 := S.2.2.2.1
  have b3 := C.2.2.2.2.2.2.2.2.2.2.1
  have b4 := C.2.2.2.2.2.2.2.2.2.2.2.1
  refine va_newaK C.1 C.2.1 (atype := .long) (C.2.2.2.2.2.2.1 _ hw) rfl dg rfl hn hN (by show N * 8 ≤ _; omega) (by omega) (by omega) rfl fun H1 cA e1 z1 o1 hAr hNm => ?_
  have hcA : cA = d.2.1 22 := Option.some.inj (hNm.symm.trans (C.2.2.2.2.2.2.2.1.1.2 1 _ rfl).2)
  subst hcA
  have kk := k p l e R s m args below meth c mc ms Z C RR H1 locs (cells + 1) (slots + N) ls ⟨S.1.push rfl z1 (by
    rw [jj_E_arr (by rw [jK_wA, if_pos rfl]) (by omega)]
    show H1[H.size]? = some (vp_cell _ _)
    rw [e1, jN_wA, if_pos rfl]
    exact congrArg some (jj_ac_new (B := d.2.2.1) (h := h) (k := 22) (n := N) (d.2.1 22)).symm) o1, jj_S.push S.2.1 z1 o1, by omega, by omega, S.2.2.2.2⟩
  rw [List.map_cons, jj_rv_new S.1] at kk
  exact kk
theorem j_newZ {n : Int32} {N : Nat} (hw : Cond.arrayClass .boolean ∈ jj_tb) (dg : decode K.2.1 pc = .ok (.newarray .boolean, 2)) (hn : ¬ n < 0) (hN : n.toNatClampNeg = N) (hbytes : N ≤ 536870912) (k : jj_WP d K bc bs (pc + 2) L (.ref (jZ h + 1) :: st) (wA h 23 N) Q) : jj_WP d K (bc + 1) (bs + N) pc L (.int n :: st) h Q := by
  intro p l e R s m args below meth c mc ms Z C RR H locs cells slots ls S
  have b1 := S.2.2.1
  have b2 := S.2.2.2.1
  have b3 := C.2.2.2.2.2.2.2.2.2.2.1
  have b4 := C.2.2.2.2.2.2.2.2.2.2.2.1
  refine va_newaK C.1 C.2.1 (atype := .boolean) (C.2.2.2.2.2.2.1 _ hw) rfl dg rfl hn hN (by show N * 1 ≤ _; omega) (by omega) (by omega) rfl fun H1 cA e1 z1 o1 hAr hNm => ?_
  have hcA : cA = d.2.1 23 := Option.some.inj (hNm.symm.trans (C.2.2.2.2.2.2.2.1.1.2 2 _ rfl).2)
  subst hcA
  have kk := k p l e R s m args below meth c mc ms Z C RR H1 locs (cells + 1) (slots + N) ls ⟨S.1.push rfl z1 (by
    rw [jj_E_arr (by rw [jK_wA, if_pos rfl]) (by omega)]
    show H1[H.size]? = some (vp_cell _ _)
    rw [e1, jN_wA, if_pos rfl]
    exact congrArg some (jj_ac_new (B := d.2.2.1) (h := h) (k := 23) (n := N) (d.2.1 23)).symm) o1, jj_S.push S.2.1 z1 o1, by omega, by omega, S.2.2.2.2⟩
  rw [List.map_cons, jj_rv_new S.1] at kk
  exact kk
theorem j_newQ {n : Int32} {N kd t0 : Nat} {C0 : String} {idx : Nat} (hC : C0 ∈ [RX0, RX3, RX6, RX7]) (hkd : 24 ≤ kd) (ht : ∀ dA : Nat → ClassId, (jj_ty dA)[t0]? = some (dA kd, .object C0)) (hl : Cond.classLink K.1.cls idx C0 ∈ jj_tb) (dg : decode K.2.1 pc = .ok (.anewarray idx, 3)) (hn : ¬ n < 0) (hN : n.toNatClampNeg = N) (hbytes : N ≤ 134217728) (k : jj_WP d K bc bs (pc + 3) L (.ref (jZ h + 1) :: st) (wA h kd N) Q) : jj_WP d K (bc + 1) (bs + N) pc L (.int n :: st) h Q := by
  intro p l e R s m args below meth c mc ms Z C RR H locs cells slots ls S
  have b1 := S.2.2.1
  have b2 := S.2.2.2.1
  have b3 := C.2.2.2.2.2.2.2.2.2.2.1
  have b4 := C.2.2.2.2.2.2.2.2.2.2.2.1
  subst hN
  refine W.anew C.1 C.2.1 C.2.2.2.2.2.1 (C.2.2.2.2.2.2.1 _ hl) (va_AO.use (C.2.2.2.2.2.2.2.1.2.2.1 C0 hC)) rfl dg rfl hn (by omega) (by omega) (by omega) fun cA kA comp f1 f2 f3 f4 => ?_
  generalize hH1 : H.push ({ cls := cA, slots := Array.replicate n.toNatClampNeg .null, vm := .none } : Cell) = H1
  have z1 : H1.size = H.size + 1 := by rw [← hH1, Array.size_push]
  have e1 : H1[H.size]? = some (arrV cA n.toNatClampNeg (fun _ => .null)) := by rw [← hH1, Array.getElem?_push_size, ← arrV_new]
  have o1 : ∀ q : Nat, q < H.size → H1[q]? = H[q]? := fun q hq => by rw [← hH1, Array.getElem?_push, if_neg (Nat.ne_of_lt hq)]
  obtain ⟨kA', comp', g1, g2, g3, g4⟩ := (C.2.2.2.2.2.2.2.1.1.2 t0 _ (ht d.2.1)).2
  have hcA : cA = d.2.1 kd := Option.some.inj (f1.symm.trans g4)
  subst hcA
  have kk := k p l e R s m args below meth c mc ms Z C RR H1 locs (cells + 1) (slots + n.toNatClampNeg) ls ⟨S.1.push rfl z1 (by
    rw [jj_E_arr (by rw [jK_wA, if_pos rfl]) (by omega)]
    show H1[H.size]? = some (vp_cell _ _)
    rw [e1, jN_wA, if_pos rfl]
    refine congrArg some ((jj_ac_new _).trans ?_).symm
    rw [if_neg (by omega), if_neg (by omega)]) o1, jj_S.push S.2.1 z1 o1, by omega, by omega, S.2.2.2.2⟩
  rw [List.map_cons, jj_rv_new S.1] at kk
  exact kk
/-! calls -/
def jj_pu (ret : Option FieldType) (v : Value) (st : List Value) : List Value := match ret with
  | none => st
  | some _ => v :: st
theorem jj_pu_map (d : jj_D) (ret : Option FieldType) (v : Value) (st : List Value) : (jj_pu ret v st).map (jj_rv d.2.2.1 d.2.2.2.1) = (jj_ro d ret v).toList ++ st.map (jj_rv d.2.2.1 d.2.2.2.1) := by cases ret <;> rfl
theorem jj_callW {p : Program} {l : Launch} {e : Env} {R : Room} {s : State} {m : MethodId} {args : Array Value} {below : List Frame} {meth : Method} {c : Code} {H : Heap} {locs : List Loc} {cells slots cj sj : Nat} {Z : State → Prop} {pc : Nat} {ls : Array Slot} {st0 rest : List Value} {a : Array Value} {K' : jj_M} {d : jj_D} {Q' : Value → jj_H → Prop}
    (hr : va_Run p l e R s m args below meth c H locs cells slots cj sj (F0 m pc ls st0) rest (jj_Q K' d Q' a) (fun q => d.2.2.1 ≤ q)) (hS : va_S (fun q => d.2.2.1 ≤ q) s.heap H locs)
    (kk : ∀ (v : Value) (h1 : jj_H) (H1 : Heap) (locs1 : List Loc), Q' v h1 → jj_P d.1 d.2.1 d.2.2.1 h1 H1 → va_S (fun q => d.2.2.1 ≤ q) s.heap H1 locs1 → W p l e R s m args below meth c H1 locs1 (cells + cj) (slots + sj) Z (F0 m (pc + 3) ls ((jj_ro d K'.2.2.2.1 v).toList ++ rest))) : W p l e R s m args below meth c H locs cells slots Z (F0 m pc ls st0) := by
  intro T hT X
  obtain ⟨v, st₀, t, T', L, h0, X', hL, e1, e2, ⟨⟨v1, h1, hv, hq, hp⟩, hz, hk⟩, step⟩ := hr T hT X
  cases hv
  rw [h0] at hz hk
  obtain ⟨t2, a1, b1⟩ := kk v1 h1 T'.heap (locs ++ L) hq (by rw [e1]; exact hp) ⟨Nat.le_trans hS.1 (by rw [e1]; exact hz), fun q g1 g2 => by rw [e1, hk q (Nat.lt_of_lt_of_le g1 hS.1) g2]; exact hS.2.1 q g1 g2, fun q hq' => by
      rcases List.mem_append.mp hq' with g | g
      · exact hS.2.2 q g
      · exact hL q g⟩ T' rfl X'
  exact ⟨t2, step t2 a1, b1⟩
/-- what a call asks of the tables: the code, the class, the number of parameters -/
def jj_cm (K' : jj_M) (n : Nat) : Prop := Cond.code K'.1 K'.2.1 K'.2.2.1 K'.2.2.2.1 ∈ jj_tb ∧ Cond.initialized K'.1.cls ∈ jj_tb ∧ K'.1.cls ≠ "java/lang/invoke/MethodHandle" ∧ K'.1.cls ≠ "java/lang/invoke/VarHandle" ∧ (parseMethodDescriptor K'.1.desc).map (fun d => d.parameters.length) = some n
def jj_rm (K' K : jj_M) : Prop := K'.2.2.2.2.1 + 1 ≤ K.2.2.2.2.1 ∧ 8 + (K'.2.2.1 + 11) + K'.2.2.2.2.2 ≤ K.2.2.2.2.2
theorem jj_gi {K' : jj_M} (hc : Cond.code K'.1 K'.2.1 K'.2.2.1 K'.2.2.2.1 ∈ jj_tb) : GoodIn jj_tb (jj_ws K') := fun w hw => by
  rcases List.mem_cons.mp hw with rfl | hw
  · exact jj_good _ hc
  · exact jj_good _ hw
theorem jj_bl {d : jj_D} {h : jj_H} {as : List Value} : FrameBlind (va_Pc as (fun U => jj_I d h U)) := by
  intro a U g mk hq
  obtain ⟨q0, ⟨qK, qN, qA, qC⟩, qX, q3, q4, q5⟩ := hq
  exact ⟨q0, ⟨va_K.moved (u := U) (U := U.calling g mk a) (Vm.Alike.refl U.vm) qK, fun q hq => va_Nw.same rfl (u := U) (U := U.calling g mk a) rfl (qN q hq), fun C hC => va_AO.moved (u := U) (U := U.calling g mk a) (Vm.Alike.refl U.vm) (qA C hC), va_Nw.same rfl (u := U) (U := U.calling g mk a) rfl qC⟩, va_X.moved (u := U) (U := U.calling g mk a) (Vm.Alike.refl U.vm) qX, q3, q4, q5⟩
theorem jj_pre {K : jj_M} {d : jj_D} {p : Program} {R : Room} {s : State} {m : MethodId} {args : Array Value} {meth : Method} {c : Code} {mc ms : Nat} {L : List (Nat × Value)} {h : jj_H} {bc bs : Nat} {H : Heap} {locs : List Loc} {cells slots : Nat} {ls : Array Slot} (C : jj_X K d p R s m args meth c mc ms) (S : jj_S K d s L h mc ms bc bs H locs cells slots ls) (U : State) (hU : U.heap = H) (hW : s.WarmedH U.vm) : jj_I d h U := by
  have hB := C.2.2.2.2.2.2.2.2.2.2.2.2.1
  have hX := C.2.2.2.2.2.2.2.2.2.2.2.2.2.2.1
  have hb := C.2.2.2.2.2.2.2.2.2.2.2.2.2.2.2
  refine ⟨jj_K.moved hW C.2.2.2.2.2.2.2.1, ?_, hb, by rw [hU]; exact Nat.le_trans hB S.2.1.1, by rw [hU]; exact S.1⟩
  have h2 : va_X d.2.2.2.1 d.2.2.2.2.1 d.2.2.2.2.2 s H := jj_scr hX hb hB S.2.1
  rw [hU]
  exact va_X.moved hW.alike h2
theorem jj_sum (d : jj_D) (st : List Value) : ((st.map (jj_rv d.2.2.1 d.2.2.2.1)).map fun v => v.category).sum = (st.map fun v => v.category).sum := by
  rw [List.map_map]
  congr 1
  apply List.map_congr_left
  intro v _
  exact jj_rv_cat _ _ v
theorem j_callV {K' : jj_M} {n ci idx a cj sj : Nat} {T : u_T} {N : Nat} {as stk : List Value} (cm : jj_cm K' n) (hi : Cond.instanceMethod K'.1 ∈ jj_tb) (hs : Cond.selects K'.1.cls K'.1 K'.1 ∈ jj_tb) (hcl : jj_cl[ci]? = some (K'.1.cls, T, N)) (hci : ci < 19) (hl : Cond.methodLink K.1.cls idx K'.1 ∈ jj_tb) (hR : jj_rm K' K) (dg : decode K.2.1 pc = .ok (.invokevirtual idx, 3)) (hn : as.length = n) (hstk : stk = as.reverse ++ .ref a :: st) (hro : (st.map fun v => v.category).sum ≤ 8) (hk : jK h a = ci + 1)
    (k : jj_C K' cj sj (.ref a :: as) h (fun v h1 => jj_WP d K bc bs (pc + 3) L (jj_pu K'.2.2.2.1 v st) h1 Q)) : jj_WP d K (bc + cj) (bs + sj) pc L stk h Q := by
  intro p l e R s m args below meth c mc ms Z C RR H locs cells slots ls S
  subst hstk
  have hts := C.2.2.2.2.2.2.1
  have b1 := S.2.2.1
  have b2 := S.2.2.2.1
  have b3 := C.2.2.2.2.2.2.2.2.2.2.1
  have b4 := C.2.2.2.2.2.2.2.2.2.2.2.1
  have b5 := C.2.2.2.2.2.2.2.2.1
  have b6 := C.2.2.2.2.2.2.2.2.2.1
  obtain ⟨r1, r2⟩ := hR
  obtain ⟨i, rfl, hil, r', hr', cellB, g1, g2, g3, -⟩ := S.1.obj hk hci
  have hcls := (C.2.2.2.2.2.2.2.1.1.1 ci _ hcl).2
  have hrun := va_runV (S := ⟨C.1, C.2.1, C.2.2.1, C.2.2.2.2.2.1, hts⟩) (C := K'.1.cls) (As := as.map (jj_rv d.2.2.1 d.2.2.2.1)) (rest := st.map (jj_rv d.2.2.1 d.2.2.2.1)) (R := R) (e := e) (below := below) (meth := meth) (H := H) (locs := locs) (cells := cells) (slots := slots) (index := idx) (bytes := K'.2.1) (maxL := K'.2.2.1) (ret := K'.2.2.2.1) (b := d.2.2.1 + i) (g := F0 m pc ls ((as.reverse ++ .ref (i + 1) :: st).map (jj_rv d.2.2.1 d.2.2.2.1))) (k l d) ⟨callB_of n hts (jj_gi cm.1) rfl rfl rfl (hts _ cm.2.1) (hts _ hl) cm.2.2 ⟨by show K'.2.2.2.2.1 + 1 ≤ _; omega, by show 8 + (K'.2.2.1 + 11) + K'.2.2.2.2.2 ≤ _; omega⟩, hts _ hi, hts _ hs⟩ ⟨jj_bl, ⟨cellB, g1, by rw [g3]; rfl, by rw [g2]; exact hcls.1⟩, fun U hU hW => ⟨rfl, jj_pre C S U hU hW⟩⟩ rfl (by simpa using hn) S.2.2.2.2.1 (by simp [jj_rv]) (by rw [show (F0 m pc ls ((as.reverse ++ .ref (i + 1) :: st).map (jj_rv d.2.2.1 d.2.2.2.1))).monitorRoom = 0 from rfl, jj_sum]; omega) dg ⟨by omega, by omega⟩
  refine jj_callW hrun S.2.1 fun v h1 H1 locs1 hq hP1 hS1 => ?_
  have kk := hq p l e R s m args below meth c mc ms Z C RR H1 locs1 (cells + cj) (slots + sj) ls ⟨hP1, hS1, by omega, by omega, S.2.2.2.2⟩
  rw [jj_pu_map] at kk
  exact kk
theorem j_callS {K' : jj_M} {n idx cj sj : Nat} {as stk : List Value} (cm : jj_cm K' n) (hi : Cond.static K'.1 ∈ jj_tb) (hl : Cond.methodLink K.1.cls idx K'.1 ∈ jj_tb) (hR : jj_rm K' K) (dg : decode K.2.1 pc = .ok (.invokestatic idx, 3)) (hn : as.length = n) (hstk : stk = as.reverse ++ st) (hro : (st.map fun v => v.category).sum ≤ 8)
    (k : jj_C K' cj sj as h (fun v h1 => jj_WP d K bc bs (pc + 3) L (jj_pu K'.2.2.2.1 v st) h1 Q)) : jj_WP d K (bc + cj) (bs + sj) pc L stk h Q := by
  intro p l e R s m args below meth c mc ms Z C RR H locs cells slots ls S
  subst hstk
  have hts := C.2.2.2.2.2.2.1
  have b1 := S.2.2.1
  have b2 := S.2.2.2.1
  have b3 := C.2.2.2.2.2.2.2.2.2.2.1
  have b4 := C.2.2.2.2.2.2.2.2.2.2.2.1
  have b5 := C.2.2.2.2.2.2.2.2.1
  have b6 := C.2.2.2.2.2.2.2.2.2.1
  obtain ⟨r1, r2⟩ := hR
  have hrun := va_runS (S := ⟨C.1, C.2.1, C.2.2.1, C.2.2.2.2.2.1, hts⟩) (As := as.map (jj_rv d.2.2.1 d.2.2.2.1)) (rest := st.map (jj_rv d.2.2.1 d.2.2.2.1)) (R := R) (e := e) (below := below) (meth := meth) (H := H) (locs := locs) (cells := cells) (slots := slots) (index := idx) (bytes := K'.2.1) (maxL := K'.2.2.1) (ret := K'.2.2.2.1) (g := F0 m pc ls ((as.reverse ++ st).map (jj_rv d.2.2.1 d.2.2.2.1))) (k l d) ⟨callB_of n hts (jj_gi cm.1) rfl rfl rfl (hts _ cm.2.1) (hts _ hl) cm.2.2 ⟨by show K'.2.2.2.2.1 + 1 ≤ _; omega, by show 8 + (K'.2.2.1 + 11) + K'.2.2.2.2.2 ≤ _; omega⟩, hts _ hi⟩ ⟨jj_bl, fun U hU hW => ⟨rfl, jj_pre C S U hU hW⟩⟩ rfl (by simpa using hn) S.2.2.2.2.1 (by simp) (by rw [show (F0 m pc ls ((as.reverse ++ st).map (jj_rv d.2.2.1 d.2.2.2.1))).monitorRoom = 0 from rfl, jj_sum]; omega) dg ⟨by omega, by omega⟩
  refine jj_callW hrun S.2.1 fun v h1 H1 locs1 hq hP1 hS1 => ?_
  have kk := hq p l e R s m args below meth c mc ms Z C RR H1 locs1 (cells + cj) (slots + sj) ls ⟨hP1, hS1, by omega, by omega, S.2.2.2.2⟩
  rw [jj_pu_map] at kk
  exact kk
theorem j_callSN {K' : jj_M} {n idx cj sj : Nat} {host : String} {as stk : List Value} (cm : jj_cm K' n) (hi : Cond.static K'.1 ∈ jj_tb) (hl : (K.1.cls, idx, K'.1, host) ∈ jj_nl) (hR : jj_rm K' K) (dg : decode K.2.1 pc = .ok (.invokestatic idx, 3)) (hn : as.length = n) (hstk : stk = as.reverse ++ st) (hro : (st.map fun v => v.category).sum ≤ 8)
    (k : jj_C K' cj sj as h (fun v h1 => jj_WP d K bc bs (pc + 3) L (jj_pu K'.2.2.2.1 v st) h1 Q)) : jj_WP d K (bc + cj) (bs + sj) pc L stk h Q := by
  intro p l e R s m args below meth c mc ms Z C RR H locs cells slots ls S
  subst hstk
  have hts := C.2.2.2.2.2.2.1
  have b1 := S.2.2.1
  have b2 := S.2.2.2.1
  have b3 := C.2.2.2.2.2.2.2.2.2.2.1
  have b4 := C.2.2.2.2.2.2.2.2.2.2.2.1
  have b5 := C.2.2.2.2.2.2.2.2.1
  have b6 := C.2.2.2.2.2.2.2.2.2.1
  obtain ⟨r1, r2⟩ := hR
  have hrun := va_runSN (S := ⟨C.1, C.2.1, C.2.2.1, C.2.2.2.2.2.1, hts⟩) (As := as.map (jj_rv d.2.2.1 d.2.2.2.1)) (rest := st.map (jj_rv d.2.2.1 d.2.2.2.1)) (R := R) (e := e) (below := below) (meth := meth) (H := H) (locs := locs) (cells := cells) (slots := slots) (index := idx) (bytes := K'.2.1) (maxL := K'.2.2.1) (ret := K'.2.2.2.1) (g := F0 m pc ls ((as.reverse ++ st).map (jj_rv d.2.2.1 d.2.2.2.1))) (k l d) ⟨va_cnB n hts (jj_gi cm.1) rfl rfl rfl (C.2.2.2.2.2.2.2.1.2.1 _ hl) (hts _ cm.2.1) cm.2.2 ⟨by show K'.2.2.2.2.1 + 1 ≤ _; omega, by show 8 + (K'.2.2.1 + 11) + K'.2.2.2.2.2 ≤ _; omega⟩, hts _ hi, trivial⟩ ⟨jj_bl, fun U hU hW => ⟨rfl, jj_pre C S U hU hW⟩⟩ rfl (by simpa using hn) S.2.2.2.2.1 (by simp) (by rw [show (F0 m pc ls ((as.reverse ++ st).map (jj_rv d.2.2.1 d.2.2.2.1))).monitorRoom = 0 from rfl, jj_sum]; omega) dg ⟨by omega, by omega⟩
  refine jj_callW hrun S.2.1 fun v h1 H1 locs1 hq hP1 hS1 => ?_
  have kk := hq p l e R s m args below meth c mc ms Z C RR H1 locs1 (cells + cj) (slots + sj) ls ⟨hP1, hS1, by omega, by omega, S.2.2.2.2⟩
  rw [jj_pu_map] at kk
  exact kk
theorem j_callI {K' : jj_M} {n idx a cj sj : Nat} {as stk : List Value} (cm : jj_cm K' n) (hi : Cond.instanceMethod K'.1 ∈ jj_tb) (hy : K'.1.name = "<init>") (hr0 : K'.2.2.2.1 = none) (hl : Cond.methodLink K.1.cls idx K'.1 ∈ jj_tb) (hR : jj_rm K' K) (dg : decode K.2.1 pc = .ok (.invokespecial idx, 3)) (hn : as.length = n) (hstk : stk = as.reverse ++ .ref a :: st) (hro : (st.map fun v => v.category).sum ≤ 8) (ha : a ≠ 0)
    (k : jj_C K' cj sj (.ref a :: as) h (fun v h1 => jj_WP d K bc bs (pc + 3) L (jj_pu K'.2.2.2.1 v st) h1 Q)) : jj_WP d K (bc + cj) (bs + sj) pc L stk h Q := by
  intro p l e R s m args below meth c mc ms Z C RR H locs cells slots ls S
  subst hstk
  have hts := C.2.2.2.2.2.2.1
  have b1 := S.2.2.1
  have b2 := S.2.2.2.1
  have b3 := C.2.2.2.2.2.2.2.2.2.2.1
  have b4 := C.2.2.2.2.2.2.2.2.2.2.2.1
  have b5 := C.2.2.2.2.2.2.2.2.1
  have b6 := C.2.2.2.2.2.2.2.2.2.1
  obtain ⟨r1, r2⟩ := hR
  obtain ⟨i, rfl⟩ : ∃ i, a = i + 1 := ⟨a - 1, by omega⟩
  have hcw : CallB R s args K.1.cls idx K'.1 K'.2.1 K'.2.2.1 none (jj_ws K') ({ frames := K'.2.2.2.2.1, cells := cj, slots := sj, locals := K'.2.2.2.2.2 } : Room) cj sj n := by
    have := callB_of (R := R) (s := s) (args := args) (own := K.1.cls) (index := idx) (y := K'.1) (bytes := K'.2.1) (maxL := K'.2.2.1) (ret := K'.2.2.2.1) (ws := jj_ws K') (rm := ({ frames := K'.2.2.2.2.1, cells := cj, slots := sj, locals := K'.2.2.2.2.2 } : Room)) (mc := cj) (ms := sj) n hts (jj_gi cm.1) rfl rfl rfl (hts _ cm.2.1) (hts _ hl) cm.2.2 ⟨by show K'.2.2.2.2.1 + 1 ≤ _; omega, by show 8 + (K'.2.2.1 + 11) + K'.2.2.2.2.2 ≤ _; omega⟩
    rwa [hr0] at this
  have hrun := va_runI (S := ⟨C.1, C.2.1, C.2.2.1, C.2.2.2.2.2.1, hts⟩) (As := as.map (jj_rv d.2.2.1 d.2.2.2.1)) (rest := st.map (jj_rv d.2.2.1 d.2.2.2.1)) (R := R) (e := e) (below := below) (meth := meth) (H := H) (locs := locs) (cells := cells) (slots := slots) (index := idx) (b := d.2.2.1 + i) (g := F0 m pc ls ((as.reverse ++ .ref (i + 1) :: st).map (jj_rv d.2.2.1 d.2.2.2.1))) (k l d) ⟨hcw, hy, hts _ hi⟩ ⟨jj_bl, fun U hU hW => ⟨rfl, jj_pre C S U hU hW⟩⟩ rfl (by simpa using hn) S.2.2.2.2.1 (by simp [jj_rv]) (by rw [show (F0 m pc ls ((as.reverse ++ .ref (i + 1) :: st).map (jj_rv d.2.2.1 d.2.2.2.1))).monitorRoom = 0 from rfl, jj_sum]; omega) dg ⟨by omega, by omega⟩
  refine jj_callW hrun S.2.1 fun v h1 H1 locs1 hq hP1 hS1 => ?_
  have kk := hq p l e R s m args below meth c mc ms Z C RR H1 locs1 (cells + cj) (slots + sj) ls ⟨hP1, hS1, by omega, by omega, S.2.2.2.2⟩
  rw [jj_pu_map] at kk
  exact kk
theorem j_callIN {K' : jj_M} {n idx a cj sj : Nat} {host : String} {as stk : List Value} (cm : jj_cm K' n) (hi : Cond.instanceMethod K'.1 ∈ jj_tb) (hy : K'.1.name = "<init>") (hr0 : K'.2.2.2.1 = none) (hl : (K.1.cls, idx, K'.1, host) ∈ jj_nl) (hR : jj_rm K' K) (dg : decode K.2.1 pc = .ok (.invokespecial idx, 3)) (hn : as.length = n) (hstk : stk = as.reverse ++ .ref a :: st) (hro : (st.map fun v => v.category).sum ≤ 8) (ha : a ≠ 0)
    (k : jj_C K' cj sj (.ref a :: as) h (fun v h1 => jj_WP d K bc bs (pc + 3) L (jj_pu K'.2.2.2.1 v st) h1 Q)) : jj_WP d K (bc + cj) (bs + sj) pc L stk h Q := by
  intro p l e R s m args below meth c mc ms Z C RR H locs cells slots ls S
  subst hstk
  have hts := C.2.2.2.2.2.2.1
  have b1 := S.2.2.1
  have b2 := S.2.2.2.1
  have b3 := C.2.2.2.2.2.2.2.2.2.2.1
  have b4 := C.2.2.2.2.2.2.2.2.2.2.2.1
  have b5 := C.2.2.2.2.2.2.2.2.1
  have b6 := C.2.2.2.2.2.2.2.2.2.1
  obtain ⟨r1, r2⟩ := hR
  obtain ⟨i, rfl⟩ : ∃ i, a = i + 1 := ⟨a - 1, by omega⟩
  have hcw : va_CN R s args K.1.cls idx K'.1 host K'.2.1 K'.2.2.1 none (jj_ws K') ({ frames := K'.2.2.2.2.1, cells := cj, slots := sj, locals := K'.2.2.2.2.2 } : Room) cj sj n := by
    have := va_cnB (R := R) (s := s) (args := args) (own := K.1.cls) (index := idx) (y := K'.1) (host := host) (bytes := K'.2.1) (maxL := K'.2.2.1) (ret := K'.2.2.2.1) (ws := jj_ws K') (rm := ({ frames := K'.2.2.2.2.1, cells := cj, slots := sj, locals := K'.2.2.2.2.2 } : Room)) (mc := cj) (ms := sj) n hts (jj_gi cm.1) rfl rfl rfl (C.2.2.2.2.2.2.2.1.2.1 _ hl) (hts _ cm.2.1) cm.2.2 ⟨by show K'.2.2.2.2.1 + 1 ≤ _; omega, by show 8 + (K'.2.2.1 + 11) + K'.2.2.2.2.2 ≤ _; omega⟩
    rwa [hr0] at this
  have hrun := va_runIN (S := ⟨C.1, C.2.1, C.2.2.1, C.2.2.2.2.2.1, hts⟩) (As := as.map (jj_rv d.2.2.1 d.2.2.2.1)) (rest := st.map (jj_rv d.2.2.1 d.2.2.2.1)) (R := R) (e := e) (below := below) (meth := meth) (H := H) (locs := locs) (cells := cells) (slots := slots) (index := idx) (b := d.2.2.1 + i) (g := F0 m pc ls ((as.reverse ++ .ref (i + 1) :: st).map (jj_rv d.2.2.1 d.2.2.2.1))) (k l d) ⟨hcw, hy, hts _ hi⟩ ⟨jj_bl, fun U hU hW => ⟨rfl, jj_pre C S U hU hW⟩⟩ rfl (by simpa using hn) S.2.2.2.2.1 (by simp [jj_rv]) (by rw [show (F0 m pc ls ((as.reverse ++ .ref (i + 1) :: st).map (jj_rv d.2.2.1 d.2.2.2.1))).monitorRoom = 0 from rfl, jj_sum]; omega) dg ⟨by omega, by omega⟩
  refine jj_callW hrun S.2.1 fun v h1 H1 locs1 hq hP1 hS1 => ?_
  have kk := hq p l e R s m args below meth c mc ms Z C RR H1 locs1 (cells + cj) (slots + sj) ls ⟨hP1, hS1, by omega, by omega, S.2.2.2.2⟩
  rw [jj_pu_map] at kk
  exact kk
theorem j_objInit {idx a : Nat} (hl : Cond.methodLink K.1.cls idx objectInit ∈ jj_tb) (hi : Cond.instanceMethod objectInit ∈ jj_tb) (hc : Cond.code objectInit ⟨#[0xb1]⟩ 1 none ∈ jj_tb) (dg : decode K.2.1 pc = .ok (.invokespecial idx, 3)) (hro : (st.map fun v => v.category).sum ≤ 8) (hfr : 1 ≤ K.2.2.2.2.1) (hlo : 20 ≤ K.2.2.2.2.2) (ha : a ≠ 0) (k : jj_WP d K bc bs (pc + 3) L st h Q) : jj_WP d K bc bs pc L (.ref a :: st) h Q := by
  intro p l e R s m args below meth c mc ms Z C RR H locs cells slots ls S
  obtain ⟨i, rfl⟩ : ∃ i, a = i + 1 := ⟨a - 1, by omega⟩
  have hts := C.2.2.2.2.2.2.1
  have b5 := C.2.2.2.2.2.2.2.2.1
  have b6 := C.2.2.2.2.2.2.2.2.2.1
  exact W.objInit C.1 C.2.1 C.2.2.2.2.2.1 (hts _ hl) (hts _ hi) (hts _ hc) rfl (by rw [C.2.2.1]; exact S.2.2.2.2.1) rfl dg (by omega) (by rw [show (F0 m pc ls ((Value.ref (i + 1) :: st).map (jj_rv d.2.2.1 d.2.2.2.1))).monitorRoom = 0 from rfl, jj_sum]; omega) (k p l e R s m args below meth c mc ms Z C RR H locs cells slots ls S)
end JMAKE
