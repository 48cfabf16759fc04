/-! The small heap: ints, longs and references (0: null, i + 1: the i-th cell that was made) by field or 1000 for an array, cell and place; kinds, lengths, how many cells -/
abbrev jj_H : Type := (Nat → Nat → Nat → Int32) × (Nat → Nat → Nat → Int64) × (Nat → Nat → Nat → Nat) × (Nat → Nat) × (Nat → Nat) × Nat
def jI (h : jj_H) (t a i : Nat) : Int32 := h.1 t a i
def jL (h : jj_H) (t a i : Nat) : Int64 := h.2.1 t a i
def jR (h : jj_H) (t a i : Nat) : Nat := h.2.2.1 t a i
def jK (h : jj_H) (a : Nat) : Nat := h.2.2.2.1 a
def jN (h : jj_H) (a : Nat) : Nat := h.2.2.2.2.1 a
def jZ (h : jj_H) : Nat := h.2.2.2.2.2
def wI (h : jj_H) (t a i : Nat) (v : Int32) : jj_H := (fun t' a' i' => if t' = t ∧ a' = a ∧ i' = i then v else h.1 t' a' i', h.2)
def wL (h : jj_H) (t a i : Nat) (v : Int64) : jj_H := (h.1, fun t' a' i' => if t' = t ∧ a' = a ∧ i' = i then v else h.2.1 t' a' i', h.2.2)
def wR (h : jj_H) (t a i : Nat) (v : Nat) : jj_H := (h.1, h.2.1, fun t' a' i' => if t' = t ∧ a' = a ∧ i' = i then v else h.2.2.1 t' a' i', h.2.2.2)
/-- a new cell of a kind and a length, all 0 -/
def wA (h : jj_H) (k n : Nat) : jj_H := (fun t a i => if a = jZ h + 1 then 0 else h.1 t a i, fun t a i => if a = jZ h + 1 then 0 else h.2.1 t a i, fun t a i => if a = jZ h + 1 then 0 else h.2.2.1 t a i, fun a => if a = jZ h + 1 then k else h.2.2.2.1 a, fun a => if a = jZ h + 1 then n else h.2.2.2.2.1 a, jZ h + 1)
/-- ints of one array copied into another -/
def wC (h : jj_H) (a sp b dp n : Nat) : jj_H := (fun t c i => if t = 1000 ∧ c = b then va_cpy (h.1 1000 a) (h.1 1000 b) sp dp n i else h.1 t c i, h.2)
theorem jI_wI (h : jj_H) (t a i : Nat) (v : Int32) (t' a' i' : Nat) : jI (wI h t a i v) t' a' i' = if t' = t ∧ a' = a ∧ i' = i then v else jI h t' a' i' := rfl
theorem jI_wL (h : jj_H) (t a i : Nat) (v : Int64) (t' a' i' : Nat) : jI (wL h t a i v) t' a' i' = jI h t' a' i' := rfl
theorem jI_wR (h : jj_H) (t a i : Nat) (v : Nat) (t' a' i' : Nat) : jI (wR h t a i v) t' a' i' = jI h t' a' i' := rfl
theorem jL_wI (h : jj_H) (t a i : Nat) (v : Int32) (t' a' i' : Nat) : jL (wI h t a i v) t' a' i' = jL h t' a' i' := rfl
theorem jL_wL (h : jj_H) (t a i : Nat) (v : Int64) (t' a' i' : Nat) : jL (wL h t a i v) t' a' i' = if t' = t ∧ a' = a ∧ i' = i then v else jL h t' a' i' := rfl
theorem jL_wR (h : jj_H) (t a i : Nat) (v : Nat) (t' a' i' : Nat) : jL (wR h t a i v) t' a' i' = jL h t' a' i' := rfl
theorem jR_wI (h : jj_H) (t a i : Nat) (v : Int32) (t' a' i' : Nat) : jR (wI h t a i v) t' a' i' = jR h t' a' i' := rfl
theorem jR_wL (h : jj_H) (t a i : Nat) (v : Int64) (t' a' i' : Nat) : jR (wL h t a i v) t' a' i' = jR h t' a' i' := rfl
theorem jR_wR (h : jj_H) (t a i : Nat) (v : Nat) (t' a' i' : Nat) : jR (wR h t a i v) t' a' i' = if t' = t ∧ a' = a ∧ i' = i then v else jR h t' a' i' := rfl
theorem jK_wI (h : jj_H) (t a i : Nat) (v : Int32) (b : Nat) : jK (wI h t a i v) b = jK h b := rfl
theorem jK_wL (h : jj_H) (t a i : Nat) (v : Int64) (b : Nat) : jK (wL h t a i v) b = jK h b := rfl
theorem jK_wR (h : jj_H) (t a i : Nat) (v : Nat) (b : Nat) : jK (wR h t a i v) b = jK h b := rfl
theorem jN_wI (h : jj_H) (t a i : Nat) (v : Int32) (b : Nat) : jN (wI h t a i v) b = jN h b := rfl
theorem jN_wL (h : jj_H) (t a i : Nat) (v : Int64) (b : Nat) : jN (wL h t a i v) b = jN h b := rfl
theorem jN_wR (h : jj_H) (t a i : Nat) (v : Nat) (b : Nat) : jN (wR h t a i v) b = jN h b := rfl
theorem jZ_wI (h : jj_H) (t a i : Nat) (v : Int32) : jZ (wI h t a i v) = jZ h := rfl
theorem jZ_wL (h : jj_H) (t a i : Nat) (v : Int64) : jZ (wL h t a i v) = jZ h := rfl
theorem jZ_wR (h : jj_H) (t a i : Nat) (v : Nat) : jZ (wR h t a i v) = jZ h := rfl
theorem jI_wA (h : jj_H) (k n t a i : Nat) : jI (wA h k n) t a i = if a = jZ h + 1 then 0 else jI h t a i := rfl
theorem jL_wA (h : jj_H) (k n t a i : Nat) : jL (wA h k n) t a i = if a = jZ h + 1 then 0 else jL h t a i := rfl
theorem jR_wA (h : jj_H) (k n t a i : Nat) : jR (wA h k n) t a i = if a = jZ h + 1 then 0 else jR h t a i := rfl
theorem jK_wA (h : jj_H) (k n a : Nat) : jK (wA h k n) a = if a = jZ h + 1 then k else jK h a := rfl
theorem jN_wA (h : jj_H) (k n a : Nat) : jN (wA h k n) a = if a = jZ h + 1 then n else jN h a := rfl
theorem jZ_wA (h : jj_H) (k n : Nat) : jZ (wA h k n) = jZ h + 1 := rfl
theorem jI_wC (h : jj_H) (a sp b dp n t c i : Nat) : jI (wC h a sp b dp n) t c i = if t = 1000 ∧ c = b then va_cpy (jI h 1000 a) (jI h 1000 b) sp dp n i else jI h t c i := rfl
theorem jL_wC (h : jj_H) (a sp b dp n t c i : Nat) : jL (wC h a sp b dp n) t c i = jL h t c i := rfl
theorem jR_wC (h : jj_H) (a sp b dp n t c i : Nat) : jR (wC h a sp b dp n) t c i = jR h t c i := rfl
theorem jK_wC (h : jj_H) (a sp b dp n c : Nat) : jK (wC h a sp b dp n) c = jK h c := rfl
theorem jN_wC (h : jj_H) (a sp b dp n c : Nat) : jN (wC h a sp b dp n) c = jN h c := rfl
theorem jZ_wC (h : jj_H) (a sp b dp n : Nat) : jZ (wC h a sp b dp n) = jZ h := rfl
/-! how the machine holds it: cells from B on; the script at b -/
def jj_o (B : Nat) : Nat → Option Nat
  | 0 => none
  | n + 1 => some (B + n)
def jj_rv (B b : Nat) : Value → Value
  | .ref 0 => .null
  | .ref (n + 1) => .ref (B + n)
  | .float _ => .ref b
  | v => v
theorem jj_rv_ref (B b r : Nat) : jj_rv B b (.ref r) = va_rf (jj_o B r) := by cases r <;> rfl
theorem jj_rv_cat (B b : Nat) (v : Value) : (jj_rv B b v).category = v.category := by
  cases v with
  | ref r => cases r <;> rfl
  | _ => rfl
def jj_fv (B : Nat) (h : jj_H) (ty f a : Nat) : Value := if ty = 1 then .long (jL h f a 0) else if ty = 2 then va_rf (jj_o B (jR h f a 0)) else .int (jI h f a 0)
def jj_fs (B : Nat) (h : jj_H) (ci a : Nat) : List Value := (List.range (jj_T ci).length).map (fun k => jj_fv B h ((jj_T ci).getD k 0) (50 * ci + k) a)
def jj_ac (B : Nat) (h : jj_H) (k a : Nat) : (Nat → Int32) ⊕ (Nat → Int64) ⊕ (Nat → UInt32) ⊕ (Nat → UInt64) ⊕ (Nat → Option Nat) := if k = 22 then .inr (.inl (fun i => jL h 1000 a i)) else if k < 24 then .inl (fun i => jI h 1000 a i) else .inr (.inr (.inr (.inr (fun i => jj_o B (jR h 1000 a i)))))
def jj_E (dA : Nat → ClassId) (B : Nat) (h : jj_H) (a : Nat) : va_E := if jK h a < 20 then .inr (jK h a - 1, jj_fs B h (jK h a - 1) a) else .inl (dA (jK h a), jN h a, jj_ac B h (jK h a) a)
def jj_V (h : jj_H) : Prop := ∀ a, jK h a ≠ 0 → ∃ i, a = i + 1 ∧ i < jZ h
def jj_P (D : va_G) (dA : Nat → ClassId) (B : Nat) (h : jj_H) (H : Heap) : Prop := H.size = B + jZ h ∧ jj_V h ∧ ∀ i, i < jZ h → va_at D jj_cl (B + i, jj_E dA B h (i + 1)) H
/-- D, the arrays' classes, B, b, the script's length and ints -/
abbrev jj_D : Type := va_G × (Nat → ClassId) × Nat × Nat × Nat × (Nat → Int32)
def jj_ty (dA : Nat → ClassId) : List (ClassId × FieldType) := [(dA 21, .int), (dA 22, .long), (dA 23, .boolean), (dA 24, .object RX0), (dA 25, .object RX3), (dA 26, .object RX6), (dA 27, .object RX7)]
def jj_nl : List (String × Nat × MethodName × String) := [(RX9, 27, yX8_init, RX9), (RX9, 34, yX4_init, RX9), (RX9, 57, yX1_init, RX9), (RX7, 54, yX3_init, RX9), (RX4, 91, yX3_init, RX9), (RX6, 38, yX9_isColumn, RX9), (RX5, 21, yX9_isBranch, RX9)]
def jj_tb : List Cond := lw_tbl.filter goodWord
def jj_K (d : jj_D) (U : State) : Prop := va_K d.1 jj_cl (jj_ty d.2.1) U ∧ (∀ q ∈ jj_nl, va_Nw (.methodLinkNest q.1 q.2.1 q.2.2.1 q.2.2.2) U) ∧ (∀ C ∈ [RX0, RX3, RX6, RX7], va_AO C U) ∧ va_Nw (.castable "[I" "java/lang/Cloneable") U
theorem jj_K.moved {d : jj_D} {s U : State} (hW : s.WarmedH U.vm) (h : jj_K d s) : jj_K d U := ⟨va_K.moved hW.alike h.1, fun q hq => va_Nw.warmM hW (h.2.1 q hq), fun C hC => va_AO.moved hW.alike (h.2.2.1 C hC), va_Nw.warmC hW h.2.2.2⟩
theorem jj_good : GoodIn jj_tb jj_tb := fun w h => ⟨h, good_of_word (List.mem_filter.mp h).2⟩
theorem jj_in {w : Cond} (i : Nat) (h : lw_tbl[i]? = some w) (hg : goodWord w = true) : w ∈ jj_tb := List.mem_filter.mpr ⟨List.mem_of_getElem? h, hg⟩
def jj_ws (K : jj_M) : List Cond := .code K.1 K.2.1 K.2.2.1 K.2.2.2.1 :: jj_tb
/-- what holds of the machine while a method runs -/
def jj_X (K : jj_M) (d : jj_D) (p : Program) (R : Room) (s : State) (m : MethodId) (args : Array Value) (meth : Method) (c : Code) (mc ms : Nat) : Prop :=
  p.tables.exec = Jvm.exec ∧ c.code = K.2.1 ∧ c.maxLocals = K.2.2.1 ∧ meth.sig.returnType = K.2.2.2.1 ∧ meth.locks = false ∧ s.vm.findClass K.1.cls = some m.cls ∧ (∀ w ∈ jj_tb, w.before args s = true) ∧ jj_K d s ∧ K.2.2.2.2.1 ≤ R.frames ∧ K.2.2.2.2.2 ≤ R.locals ∧ mc ≤ R.cells ∧ ms ≤ R.slots ∧ d.2.2.1 ≤ s.heap.size ∧ meth.name = K.1.name ∧ va_X d.2.2.2.1 d.2.2.2.2.1 d.2.2.2.2.2 s s.heap ∧ d.2.2.2.1 < d.2.2.1
def jj_l (d : jj_D) (L : List (Nat × Value)) : List (Nat × Value) := L.map (fun q => (q.1, jj_rv d.2.2.1 d.2.2.2.1 q.2))
def jj_S (K : jj_M) (d : jj_D) (s : State) (L : List (Nat × Value)) (h : jj_H) (mc ms bc bs : Nat) (H : Heap) (locs : List Loc) (cells slots : Nat) (ls : Array Slot) : Prop :=
  jj_P d.1 d.2.1 d.2.2.1 h H ∧ va_S (fun q => d.2.2.1 ≤ q) s.heap H locs ∧ cells + bc ≤ mc ∧ slots + bs ≤ ms ∧ lv_has ls K.2.2.1 (jj_l d L)
/-- the instruction that ends a method, and the value that it wants -/
def jj_rt (ret : Option FieldType) (v : Value) (i : Except DecodeError (Instr × Nat)) : Prop := match ret with
  | none => i = .ok (.return_, 1)
  | some .int => i = .ok (.ireturn, 1) ∧ ∃ x, v = .int x
  | some .boolean => i = .ok (.ireturn, 1) ∧ ∃ x, v = .int x ∧ (x = 0 ∨ x = 1)
  | some .long => i = .ok (.lreturn, 1) ∧ ∃ x, v = .long x
  | some (.object _) => i = .ok (.areturn, 1) ∧ ∃ x, v = .ref x
  | some (.array _) => i = .ok (.areturn, 1) ∧ ∃ x, v = .ref x
  | _ => False
def jj_rs (d : jj_D) (ret : Option FieldType) (v : Value) : List Value := match ret with
  | none => []
  | some _ => [jj_rv d.2.2.1 d.2.2.2.1 v]
def jj_ro (d : jj_D) (ret : Option FieldType) (v : Value) : Option Value := match ret with
  | none => none
  | some _ => some (jj_rv d.2.2.1 d.2.2.2.1 v)
def jj_R (K : jj_M) (d : jj_D) (p : Program) (l : Launch) (e : Env) (R : Room) (s : State) (m : MethodId) (args : Array Value) (below : List Frame) (meth : Method) (c : Code) (mc ms : Nat) (Q : Value → jj_H → Prop) (Z : State → Prop) : Prop :=
  ∀ (pc : Nat) (v : Value) (h : jj_H) (H : Heap) (locs : List Loc) (cells slots : Nat) (ls : Array Slot), Q v h → jj_P d.1 d.2.1 d.2.2.1 h H → va_S (fun q => d.2.2.1 ≤ q) s.heap H locs → cells ≤ mc → slots ≤ ms → jj_rt K.2.2.2.1 v (decode K.2.1 pc) → W p l e R s m args below meth c H locs cells slots Z (F0 m pc ls (jj_rs d K.2.2.2.1 v))
/-- from here the method comes to its end with Q; bc cells of bs slots are still to be had -/
def jj_WP (d : jj_D) (K : jj_M) (bc bs : Nat) (pc : Nat) (L : List (Nat × Value)) (st : List Value) (h : jj_H) (Q : Value → jj_H → Prop) : Prop :=
  ∀ (p : Program) (l : Launch) (e : Env) (R : Room) (s : State) (m : MethodId) (args : Array Value) (below : List Frame) (meth : Method) (c : Code) (mc ms : Nat) (Z : State → Prop), jj_X K d p R s m args meth c mc ms → jj_R K d p l e R s m args below meth c mc ms Q Z →
    ∀ (H : Heap) (locs : List Loc) (cells slots : Nat) (ls : Array Slot), jj_S K d s L h mc ms bc bs H locs cells slots ls → W p l e R s m args below meth c H locs cells slots Z (F0 m pc ls (st.map (jj_rv d.2.2.1 d.2.2.2.1)))
/-- a method's contract: with these arguments on this heap it ends with Q -/
def jj_I (d : jj_D) (h : jj_H) (U : State) : Prop := jj_K d U ∧ va_X d.2.2.2.1 d.2.2.2.2.1 d.2.2.2.2.2 U U.heap ∧ d.2.2.2.1 < d.2.2.1 ∧ d.2.2.1 ≤ U.heap.size ∧ jj_P d.1 d.2.1 d.2.2.1 h U.heap
def jj_Q (K : jj_M) (d : jj_D) (Q : Value → jj_H → Prop) : Array Value → State → Outcome → State → Prop := fun _ st oc t => (∃ (v : Value) (h' : jj_H), oc = .returned (jj_ro d K.2.2.2.1 v) ∧ Q v h' ∧ jj_P d.1 d.2.1 d.2.2.1 h' t.heap) ∧ va_F (fun q => d.2.2.1 ≤ q) st t
def jj_C (K : jj_M) (bc bs : Nat) (as : List Value) (h : jj_H) (Q : Value → jj_H → Prop) : Prop :=
  ∀ (l : Launch) (d : jj_D), Met l K.1 (jj_ws K) ({ frames := K.2.2.2.2.1, cells := bc, slots := bs, locals := K.2.2.2.2.2 } : Room) (va_Pc (as.map (jj_rv d.2.2.1 d.2.2.2.1)) (fun U => jj_I d h U)) (jj_Q K d Q) bc bs (fun q => d.2.2.1 ≤ q)
/-! small rows on them -/
theorem jj_at {d : jj_D} {ls : Array Slot} {nL : Nat} {L : List (Nat × Value)} (h : lv_has ls nL (jj_l d L)) (j : Nat) {i : Nat} {v : Value} (hj : L[j]? = some (i, v)) : ls[i]? = some (.val (jj_rv d.2.2.1 d.2.2.2.1 v)) :=
  h.2.2 (i, jj_rv d.2.2.1 d.2.2.2.1 v) (List.mem_map.mpr ⟨(i, v), List.mem_of_getElem? hj, rfl⟩)
theorem jj_fil (d : jj_D) (L : List (Nat × Value)) (i : Nat) : (jj_l d L).filter (fun q => !(q.1 == i) && !(q.1 + 1 == i && q.2.category == 2)) = jj_l d (L.filter (fun q => !(q.1 == i) && !(q.1 + 1 == i && q.2.category == 2))) := by
  unfold jj_l
  rw [List.filter_map]
  congr 1
  apply List.filter_congr
  intro q _
  simp [jj_rv_cat]
theorem jj_fil2 (d : jj_D) (L : List (Nat × Value)) (i : Nat) : (jj_l d L).filter (fun q => !(q.1 == i) && (!(q.1 == i + 1) && !(q.1 + 1 == i && q.2.category == 2))) = jj_l d (L.filter (fun q => !(q.1 == i) && (!(q.1 == i + 1) && !(q.1 + 1 == i && q.2.category == 2)))) := by
  unfold jj_l
  rw [List.filter_map]
  congr 1
  apply List.filter_congr
  intro q _
  simp [jj_rv_cat]
theorem jj_S.sub {K : jj_M} {d : jj_D} {s : State} {L L' : List (Nat × Value)} {h : jj_H} {mc ms bc bs : Nat} {H : Heap} {locs : List Loc} {cells slots : Nat} {ls : Array Slot} (S : jj_S K d s L h mc ms bc bs H locs cells slots ls) (hL : ∀ q ∈ L', q ∈ L) : jj_S K d s L' h mc ms bc bs H locs cells slots ls := by
  obtain ⟨h1, h2, h3, h4, h5, h6, h7⟩ := S
  refine ⟨h1, h2, h3, h4, h5, h6, fun q hq => ?_⟩
  obtain ⟨x, hx, rfl⟩ := List.mem_map.mp hq
  exact h7 _ (List.mem_map.mpr ⟨x, hL x hx, rfl⟩)
/-- fewer locals, in another order -/
theorem j_sub {d : jj_D} {K : jj_M} {bc bs pc : Nat} {L L' : List (Nat × Value)} {st : List Value} {h : jj_H} {Q : Value → jj_H → Prop} (ks : List Nat) (hL : ks.filterMap (fun k => L[k]?) = L') (k : jj_WP d K bc bs pc L' st h Q) : jj_WP d K bc bs pc L st h Q := by
  intro p l e R s m args below meth c mc ms Z C RR H locs cells slots ls S
  refine k p l e R s m args below meth c mc ms Z C RR H locs cells slots ls (S.sub fun q hq => ?_)
  rw [← hL] at hq
  obtain ⟨i, -, hi⟩ := List.mem_filterMap.mp hq
  exact List.mem_of_getElem? hi
theorem jj_WP.mono {d : jj_D} {K : jj_M} {bc bs pc : Nat} {L : List (Nat × Value)} {st : List Value} {h : jj_H} {Q Q' : Value → jj_H → Prop} (k : jj_WP d K bc bs pc L st h Q') (hq : ∀ v h, Q' v h → Q v h) : jj_WP d K bc bs pc L st h Q := by
  intro p l e R s m args below meth c mc ms Z C RR H locs cells slots ls S
  exact k p l e R s m args below meth c mc ms Z C (fun pc v h H locs cells slots ls hQ => RR pc v h H locs cells slots ls (hq v h hQ)) H locs cells slots ls S
theorem jj_WP.less {d : jj_D} {K : jj_M} {bc bs bc' bs' pc : Nat} {L : List (Nat × Value)} {st : List Value} {h : jj_H} {Q : Value → jj_H → Prop} (h1 : bc' ≤ bc) (h2 : bs' ≤ bs) (k : jj_WP d K bc' bs' pc L st h Q) : jj_WP d K bc bs pc L st h Q := by
  intro p l e R s m args below meth c mc ms Z C RR H locs cells slots ls S
  exact k p l e R s m args below meth c mc ms Z C RR H locs cells slots ls ⟨S.1, S.2.1, by have := S.2.2.1; omega, by have := S.2.2.2.1; omega, S.2.2.2.2⟩
theorem jj_args (d : jj_D) (as : List Value) (i : Nat) : lv_args i (as.map (jj_rv d.2.2.1 d.2.2.2.1)) = jj_l d (lv_args i as) := by
  induction as generalizing i with
  | nil => rfl
  | cons v vs ih => simp only [List.map_cons, lv_args, jj_l, List.map_cons, jj_rv_cat]; rw [ih]; rfl
theorem jj_slots (d : jj_D) (as : List Value) : (lg_sl (as.map (jj_rv d.2.2.1 d.2.2.2.1))).length = (lg_sl as).length := by
  induction as with
  | nil => rfl
  | cons v vs ih =>
    unfold lg_sl at ih ⊢
    simp only [List.map_cons, List.flatMap_cons, List.length_append, jj_rv_cat, ih]
    by_cases hv : v.category = 2 <;> simp [hv]
/-- a method from its first instruction -/
theorem j_enter {K : jj_M} {bc bs : Nat} {as : List Value} {h : jj_H} {Q : Value → jj_H → Prop} {L : List (Nat × Value)} (hy : plainName K.1.cls = true) (hn : (lg_sl as).length ≤ K.2.2.1) (hL : lv_args 0 as = L) (k : ∀ d : jj_D, jj_WP d K bc bs 0 L [] h Q) : jj_C K bc bs as h Q := by
  intro l d
  refine Met.ofW (cc := K.2.1) (maxL := K.2.2.1) (ret := K.2.2.2.1) hy rfl ?_
  intro p e s m args below meth c s₁ B hml hv
  obtain ⟨rfl, hK, hX, hbB, hBs, hP⟩ := hv
  have hts : ∀ w ∈ jj_ws K, w.before _ s = true := atoms_spec (ws := jj_ws K) B.pre
  have hown : s.vm.findClass K.1.cls = some m.cls := findClass_of_methodNamed B.named
  have hnm : meth.name = K.1.name := (name_of_methodNamed B.named B.method).1
  have hl := lv_entry (as.map (jj_rv d.2.2.1 d.2.2.2.1)) (n := K.2.2.1) (by rw [jj_slots]; exact hn)
  rw [lg_entry_eq]
  generalize (lg_sl (as.map (jj_rv d.2.2.1 d.2.2.2.1)) ++ List.replicate (K.2.2.1 - (lg_sl (as.map (jj_rv d.2.2.1 d.2.2.2.1))).length) Slot.unset).toArray = ls at hl ⊢
  rw [jj_args, hL] at hl
  have hlk := B.notSynchronized
  have hb := B.bytes
  have hx := B.exec
  have hr := B.returns
  refine k d p l e (headSpec (jj_ws K) _).room s m _ below meth c bc bs _ ⟨hx, hb, hml, hr, hlk, hown, fun w hw => hts w (List.mem_cons_of_mem _ hw), hK, Nat.le_refl _, Nat.le_refl _, Nat.le_refl _, Nat.le_refl _, hBs, hnm, hX, hbB⟩ ?_ s.heap [] 0 0 ls ⟨hP, va_S.rf, by omega, by omega, hl⟩
  intro pc v h2 H locs cells slots ls hQ hP2 hS h1 h3 hrt
  refine W.widen (k := bc) (n := bs) h1 h3 ?_
  have hq : ∀ t : State, t.heap = H → jj_Q K d Q (as.map (jj_rv d.2.2.1 d.2.2.2.1)).toArray s (.returned (jj_ro d K.2.2.2.1 v)) t := fun t ht => ⟨⟨v, h2, rfl, hQ, by rw [ht]; exact hP2⟩, hS.F ht⟩
  generalize hre : K.2.2.2.1 = rt at hrt hr hq ⊢
  cases rt with
  | none => exact W.vret hx hb hr (fun t ht _ => hq t ht) hS.2.2 hrt
  | some t =>
    cases t with
    | int =>
      obtain ⟨hd, x, rfl⟩ := hrt
      exact W.iret hx hb hr (fun t ht _ => hq t ht) hS.2.2 hd
    | boolean =>
      obtain ⟨hd, x, rfl, hx01⟩ := hrt
      exact W.zret hx hb hr (by rcases hx01 with rfl | rfl <;> decide) (fun t ht _ => hq t ht) hS.2.2 hd
    | long =>
      obtain ⟨hd, x, rfl⟩ := hrt
      exact W.lret hx hb hr (fun t ht _ => hq t ht) hS.2.2 hd
    | object n =>
      obtain ⟨hd, x, rfl⟩ := hrt
      exact W.aret hx hb hr (Or.inl ⟨n, rfl⟩) (by cases x with | zero => exact Or.inl rfl | succ x => exact Or.inr ⟨_, rfl⟩) (fun t ht _ => hq t ht) hS.2.2 hd
    | array n =>
      obtain ⟨hd, x, rfl⟩ := hrt
      exact W.aret hx hb hr (Or.inr ⟨n, rfl⟩) (by cases x with | zero => exact Or.inl rfl | succ x => exact Or.inr ⟨_, rfl⟩) (fun t ht _ => hq t ht) hS.2.2 hd
    | _ => exact absurd hrt (by simp [jj_rt])
