section JRULES
variable {d : jj_D} {K : jj_M} {bc bs pc : Nat} {L : List (Nat × Value)} {st : List Value} {h : jj_H} {Q : Value → jj_H → Prop}
theorem j_iconst {n : Int} {v : Int32} (dg : decode K.2.1 pc = .ok (.iconst n, 1)) (hv : Int32.ofInt n = v) (k : jj_WP d K bc bs (pc + 1) L (.int v :: st) h Q) : jj_WP d K bc bs pc L (st) h Q := by
  intro p l e R s m args below meth c mc ms Z C RR H locs cells slots ls S
  exact lv_iconst C.1 C.2.1 dg hv (k p l e R s m args below meth c mc ms Z C RR H locs cells slots ls S)
theorem j_bipush {n : Int} {v : Int32} (dg : decode K.2.1 pc = .ok (.bipush n, 2)) (hv : (Int8.ofInt n).toInt32 = v) (k : jj_WP d K bc bs (pc + 2) L (.int v :: st) h Q) : jj_WP d K bc bs pc L (st) h Q := by
  intro p l e R s m args below meth c mc ms Z C RR H locs cells slots ls S
  exact lv_bipush C.1 C.2.1 dg hv (k p l e R s m args below meth c mc ms Z C RR H locs cells slots ls S)
theorem j_sipush {n : Int} {v : Int32} (dg : decode K.2.1 pc = .ok (.sipush n, 3)) (hv : (Int16.ofInt n).toInt32 = v) (k : jj_WP d K bc bs (pc + 3) L (.int v :: st) h Q) : jj_WP d K bc bs pc L (st) h Q := by
  intro p l e R s m args below meth c mc ms Z C RR H locs cells slots ls S
  exact lv_sipush C.1 C.2.1 dg hv (k p l e R s m args below meth c mc ms Z C RR H locs cells slots ls S)
theorem j_lconst {n : Fin 2} {v : Int64} (dg : decode K.2.1 pc = .ok (.lconst n, 1)) (hv : Int64.ofNat (n : Nat) = v) (k : jj_WP d K bc bs (pc + 1) L (.long v :: st) h Q) : jj_WP d K bc bs pc L (st) h Q := by
  intro p l e R s m args below meth c mc ms Z C RR H locs cells slots ls S
  exact lv_lconst C.1 C.2.1 dg hv (k p l e R s m args below meth c mc ms Z C RR H locs cells slots ls S)
theorem j_iadd {x y : Int32} (dg : decode K.2.1 pc = .ok (.iadd, 1)) (k : jj_WP d K bc bs (pc + 1) L (.int (x + y) :: st) h Q) : jj_WP d K bc bs pc L (.int y :: .int x :: st) h Q := by
  intro p l e R s m args below meth c mc ms Z C RR H locs cells slots ls S
  exact lv_iadd C.1 C.2.1 dg (k p l e R s m args below meth c mc ms Z C RR H locs cells slots ls S)
theorem j_isub {x y : Int32} (dg : decode K.2.1 pc = .ok (.isub, 1)) (k : jj_WP d K bc bs (pc + 1) L (.int (x - y) :: st) h Q) : jj_WP d K bc bs pc L (.int y :: .int x :: st) h Q := by
  intro p l e R s m args below meth c mc ms Z C RR H locs cells slots ls S
  exact lv_isub C.1 C.2.1 dg (k p l e R s m args below meth c mc ms Z C RR H locs cells slots ls S)
theorem j_imul {x y : Int32} (dg : decode K.2.1 pc = .ok (.imul, 1)) (k : jj_WP d K bc bs (pc + 1) L (.int (x * y) :: st) h Q) : jj_WP d K bc bs pc L (.int y :: .int x :: st) h Q := by
  intro p l e R s m args below meth c mc ms Z C RR H locs cells slots ls S
  exact lv_imul C.1 C.2.1 dg (k p l e R s m args below meth c mc ms Z C RR H locs cells slots ls S)
theorem j_iand {x y : Int32} (dg : decode K.2.1 pc = .ok (.iand, 1)) (k : jj_WP d K bc bs (pc + 1) L (.int (x &&& y) :: st) h Q) : jj_WP d K bc bs pc L (.int y :: .int x :: st) h Q := by
  intro p l e R s m args below meth c mc ms Z C RR H locs cells slots ls S
  exact lv_iand C.1 C.2.1 dg (k p l e R s m args below meth c mc ms Z C RR H locs cells slots ls S)
theorem j_ior {x y : Int32} (dg : decode K.2.1 pc = .ok (.ior, 1)) (k : jj_WP d K bc bs (pc + 1) L (.int (x ||| y) :: st) h Q) : jj_WP d K bc bs pc L (.int y :: .int x :: st) h Q := by
  intro p l e R s m args below meth c mc ms Z C RR H locs cells slots ls S
  exact lv_ior C.1 C.2.1 dg (k p l e R s m args below meth c mc ms Z C RR H locs cells slots ls S)
theorem j_ixor {x y : Int32} (dg : decode K.2.1 pc = .ok (.ixor, 1)) (k : jj_WP d K bc bs (pc + 1) L (.int (x ^^^ y) :: st) h Q) : jj_WP d K bc bs pc L (.int y :: .int x :: st) h Q := by
  intro p l e R s m args below meth c mc ms Z C RR H locs cells slots ls S
  exact lv_ixor C.1 C.2.1 dg (k p l e R s m args below meth c mc ms Z C RR H locs cells slots ls S)
theorem j_ishl {x y : Int32} (dg : decode K.2.1 pc = .ok (.ishl, 1)) (k : jj_WP d K bc bs (pc + 1) L (.int (x <<< (y &&& 31)) :: st) h Q) : jj_WP d K bc bs pc L (.int y :: .int x :: st) h Q := by
  intro p l e R s m args below meth c mc ms Z C RR H locs cells slots ls S
  exact lv_ishl C.1 C.2.1 dg (k p l e R s m args below meth c mc ms Z C RR H locs cells slots ls S)
theorem j_ishr {x y : Int32} (dg : decode K.2.1 pc = .ok (.ishr, 1)) (k : jj_WP d K bc bs (pc + 1) L (.int (x >>> (y &&& 31)) :: st) h Q) : jj_WP d K bc bs pc L (.int y :: .int x :: st) h Q := by
  intro p l e R s m args below meth c mc ms Z C RR H locs cells slots ls S
  exact lv_ishr C.1 C.2.1 dg (k p l e R s m args below meth c mc ms Z C RR H locs cells slots ls S)
theorem j_iushr {x y : Int32} (dg : decode K.2.1 pc = .ok (.iushr, 1)) (k : jj_WP d K bc bs (pc + 1) L (.int (x.toUInt32 >>> (y.toUInt32 &&& Int32.toUInt32 31)).toInt32 :: st) h Q) : jj_WP d K bc bs pc L (.int y :: .int x :: st) h Q := by
  intro p l e R s m args below meth c mc ms Z C RR H locs cells slots ls S
  exact lv_iushr C.1 C.2.1 dg rfl (k p l e R s m args below meth c mc ms Z C RR H locs cells slots ls S)
theorem j_idiv {x y : Int32} (dg : decode K.2.1 pc = .ok (.idiv, 1)) (hne : ¬ y = 0) (k : jj_WP d K bc bs (pc + 1) L (.int (x / y) :: st) h Q) : jj_WP d K bc bs pc L (.int y :: .int x :: st) h Q := by
  intro p l e R s m args below meth c mc ms Z C RR H locs cells slots ls S
  exact lv_idiv C.1 C.2.1 dg hne (k p l e R s m args below meth c mc ms Z C RR H locs cells slots ls S)
theorem j_irem {x y : Int32} (dg : decode K.2.1 pc = .ok (.irem, 1)) (hne : ¬ y = 0) (k : jj_WP d K bc bs (pc + 1) L (.int (x - x / y * y) :: st) h Q) : jj_WP d K bc bs pc L (.int y :: .int x :: st) h Q := by
  intro p l e R s m args below meth c mc ms Z C RR H locs cells slots ls S
  exact lv_irem C.1 C.2.1 dg hne (k p l e R s m args below meth c mc ms Z C RR H locs cells slots ls S)
theorem j_ineg {x : Int32} (dg : decode K.2.1 pc = .ok (.ineg, 1)) (k : jj_WP d K bc bs (pc + 1) L (.int (-x) :: st) h Q) : jj_WP d K bc bs pc L (.int x :: st) h Q := by
  intro p l e R s m args below meth c mc ms Z C RR H locs cells slots ls S
  exact lv_ineg C.1 C.2.1 dg (k p l e R s m args below meth c mc ms Z C RR H locs cells slots ls S)
theorem j_ladd {x y : Int64} (dg : decode K.2.1 pc = .ok (.ladd, 1)) (k : jj_WP d K bc bs (pc + 1) L (.long (x + y) :: st) h Q) : jj_WP d K bc bs pc L (.long y :: .long x :: st) h Q := by
  intro p l e R s m args below meth c mc ms Z C RR H locs cells slots ls S
  exact lv_ladd C.1 C.2.1 dg (k p l e R s m args below meth c mc ms Z C RR H locs cells slots ls S)
theorem j_lsub {x y : Int64} (dg : decode K.2.1 pc = .ok (.lsub, 1)) (k : jj_WP d K bc bs (pc + 1) L (.long (x - y) :: st) h Q) : jj_WP d K bc bs pc L (.long y :: .long x :: st) h Q := by
  intro p l e R s m args below meth c mc ms Z C RR H locs cells slots ls S
  exact lv_lsub C.1 C.2.1 dg (k p l e R s m args below meth c mc ms Z C RR H locs cells slots ls S)
theorem j_lmul {x y : Int64} (dg : decode K.2.1 pc = .ok (.lmul, 1)) (k : jj_WP d K bc bs (pc + 1) L (.long (x * y) :: st) h Q) : jj_WP d K bc bs pc L (.long y :: .long x :: st) h Q := by
  intro p l e R s m args below meth c mc ms Z C RR H locs cells slots ls S
  exact lv_lmul C.1 C.2.1 dg (k p l e R s m args below meth c mc ms Z C RR H locs cells slots ls S)
theorem j_land {x y : Int64} (dg : decode K.2.1 pc = .ok (.land, 1)) (k : jj_WP d K bc bs (pc + 1) L (.long (x &&& y) :: st) h Q) : jj_WP d K bc bs pc L (.long y :: .long x :: st) h Q := by
  intro p l e R s m args below meth c mc ms Z C RR H locs cells slots ls S
  exact lv_land C.1 C.2.1 dg (k p l e R s m args below meth c mc ms Z C RR H locs cells slots ls S)
theorem j_lor {x y : Int64} (dg : decode K.2.1 pc = .ok (.lor, 1)) (k : jj_WP d K bc bs (pc + 1) L (.long (x ||| y) :: st) h Q) : jj_WP d K bc bs pc L (.long y :: .long x :: st) h Q := by
  intro p l e R s m args below meth c mc ms Z C RR H locs cells slots ls S
  exact lv_lor C.1 C.2.1 dg (k p l e R s m args below meth c mc ms Z C RR H locs cells slots ls S)
theorem j_lxor {x y : Int64} (dg : decode K.2.1 pc = .ok (.lxor, 1)) (k : jj_WP d K bc bs (pc + 1) L (.long (x ^^^ y) :: st) h Q) : jj_WP d K bc bs pc L (.long y :: .long x :: st) h Q := by
  intro p l e R s m args below meth c mc ms Z C RR H locs cells slots ls S
  exact lv_lxor C.1 C.2.1 dg (k p l e R s m args below meth c mc ms Z C RR H locs cells slots ls S)
theorem j_lushr {x : Int64} {y : Int32} (dg : decode K.2.1 pc = .ok (.lushr, 1)) (k : jj_WP d K bc bs (pc + 1) L (.long (x.toUInt64 >>> (y.toInt64.toUInt64 &&& Int64.toUInt64 63)).toInt64 :: st) h Q) : jj_WP d K bc bs pc L (.int y :: .long x :: st) h Q := by
  intro p l e R s m args below meth c mc ms Z C RR H locs cells slots ls S
  exact lv_lushr C.1 C.2.1 dg rfl (k p l e R s m args below meth c mc ms Z C RR H locs cells slots ls S)
theorem j_lshl {x : Int64} {y : Int32} (dg : decode K.2.1 pc = .ok (.lshl, 1)) (k : jj_WP d K bc bs (pc + 1) L (.long (x <<< (y.toInt64 &&& 63)) :: st) h Q) : jj_WP d K bc bs pc L (.int y :: .long x :: st) h Q := by
  intro p l e R s m args below meth c mc ms Z C RR H locs cells slots ls S
  exact lv_lshl C.1 C.2.1 dg rfl (k p l e R s m args below meth c mc ms Z C RR H locs cells slots ls S)
theorem j_lshr {x : Int64} {y : Int32} (dg : decode K.2.1 pc = .ok (.lshr, 1)) (k : jj_WP d K bc bs (pc + 1) L (.long (x >>> (y.toInt64 &&& 63)) :: st) h Q) : jj_WP d K bc bs pc L (.int y :: .long x :: st) h Q := by
  intro p l e R s m args below meth c mc ms Z C RR H locs cells slots ls S
  exact lv_lshr C.1 C.2.1 dg rfl (k p l e R s m args below meth c mc ms Z C RR H locs cells slots ls S)
theorem j_i2l {x : Int32} (dg : decode K.2.1 pc = .ok (.i2l, 1)) (k : jj_WP d K bc bs (pc + 1) L (.long x.toInt64 :: st) h Q) : jj_WP d K bc bs pc L (.int x :: st) h Q := by
  intro p l e R s m args below meth c mc ms Z C RR H locs cells slots ls S
  exact lv_i2l C.1 C.2.1 dg rfl (k p l e R s m args below meth c mc ms Z C RR H locs cells slots ls S)
theorem j_l2i {x : Int64} (dg : decode K.2.1 pc = .ok (.l2i, 1)) (k : jj_WP d K bc bs (pc + 1) L (.int x.toInt32 :: st) h Q) : jj_WP d K bc bs pc L (.long x :: st) h Q := by
  intro p l e R s m args below meth c mc ms Z C RR H locs cells slots ls S
  exact lv_l2i C.1 C.2.1 dg rfl (k p l e R s m args below meth c mc ms Z C RR H locs cells slots ls S)
theorem j_lcmp {x y : Int64} (dg : decode K.2.1 pc = .ok (.lcmp, 1)) (k : jj_WP d K bc bs (pc + 1) L (.int (lg_cmp x y) :: st) h Q) : jj_WP d K bc bs pc L (.long y :: .long x :: st) h Q := by
  intro p l e R s m args below meth c mc ms Z C RR H locs cells slots ls S
  exact W.lcmp C.1 C.2.1 dg (k p l e R s m args below meth c mc ms Z C RR H locs cells slots ls S)
theorem j_dup {v : Value} (dg : decode K.2.1 pc = .ok (.dup, 1)) (hv : v.category = 1) (k : jj_WP d K bc bs (pc + 1) L (v :: v :: st) h Q) : jj_WP d K bc bs pc L (v :: st) h Q := by
  intro p l e R s m args below meth c mc ms Z C RR H locs cells slots ls S
  exact lv_dup C.1 C.2.1 dg (by rw [jj_rv_cat]; exact hv) (k p l e R s m args below meth c mc ms Z C RR H locs cells slots ls S)
theorem j_pop {v : Value} (dg : decode K.2.1 pc = .ok (.pop, 1)) (hv : v.category = 1) (k : jj_WP d K bc bs (pc + 1) L st h Q) : jj_WP d K bc bs pc L (v :: st) h Q := by
  intro p l e R s m args below meth c mc ms Z C RR H locs cells slots ls S
  exact lv_pop C.1 C.2.1 dg (by rw [jj_rv_cat]; exact hv) (k p l e R s m args below meth c mc ms Z C RR H locs cells slots ls S)
theorem j_dup2 {v w : Value} (dg : decode K.2.1 pc = .ok (.dup2, 1)) (hv : v.category = 1) (hw : w.category = 1) (k : jj_WP d K bc bs (pc + 1) L (v :: w :: v :: w :: st) h Q) : jj_WP d K bc bs pc L (v :: w :: st) h Q := by
  intro p l e R s m args below meth c mc ms Z C RR H locs cells slots ls S
  exact lv_dup2_11 C.1 C.2.1 dg (by rw [jj_rv_cat]; exact hv) (by rw [jj_rv_cat]; exact hw) (k p l e R s m args below meth c mc ms Z C RR H locs cells slots ls S)
theorem j_ldc {index : Nat} {v : Int32} (dg : decode K.2.1 pc = .ok (.ldc index, 2)) (hw : Cond.constant K.1.cls index v ∈ jj_tb) (k : jj_WP d K bc bs (pc + 2) L (.int v :: st) h Q) : jj_WP d K bc bs pc L st h Q := by
  intro p l e R s m args below meth c mc ms Z C RR H locs cells slots ls S
  exact lv_ldc C.1 C.2.1 C.2.2.2.2.2.1 (C.2.2.2.2.2.2.1 _ hw) dg (k p l e R s m args below meth c mc ms Z C RR H locs cells slots ls S)
theorem j_ldcw {index : Nat} {v : Int32} (dg : decode K.2.1 pc = .ok (.ldc_w index, 3)) (hw : Cond.constant K.1.cls index v ∈ jj_tb) (k : jj_WP d K bc bs (pc + 3) L (.int v :: st) h Q) : jj_WP d K bc bs pc L st h Q := by
  intro p l e R s m args below meth c mc ms Z C RR H locs cells slots ls S
  exact lv_ldcw C.1 C.2.1 C.2.2.2.2.2.1 (C.2.2.2.2.2.2.1 _ hw) dg (k p l e R s m args below meth c mc ms Z C RR H locs cells slots ls S)
theorem j_ldc2 {index : Nat} {v : Int64} (dg : decode K.2.1 pc = .ok (.ldc2_w index, 3)) (hw : Cond.constantLong K.1.cls index v ∈ jj_tb) (k : jj_WP d K bc bs (pc + 3) L (.long v :: st) h Q) : jj_WP d K bc bs pc L st h Q := by
  intro p l e R s m args below meth c mc ms Z C RR H locs cells slots ls S
  exact lv_ldc2 C.1 C.2.1 C.2.2.2.2.2.1 (C.2.2.2.2.2.2.1 _ hw) dg (k p l e R s m args below meth c mc ms Z C RR H locs cells slots ls S)
theorem j_null (dg : decode K.2.1 pc = .ok (.aconst_null, 1)) (k : jj_WP d K bc bs (pc + 1) L (.ref 0 :: st) h Q) : jj_WP d K bc bs pc L st h Q := by
  intro p l e R s m args below meth c mc ms Z C RR H locs cells slots ls S
  exact lv_null C.1 C.2.1 dg (k p l e R s m args below meth c mc ms Z C RR H locs cells slots ls S)
theorem j_if_eq {x : Int32} {off : Int} {tgt : Nat} (dg : decode K.2.1 pc = .ok (.ifCond .eq off, 3)) (ht : (pc : Int) + off = (tgt : Int)) (kt : x = 0 → jj_WP d K bc bs tgt L st h Q) (kf : ¬ x = 0 → jj_WP d K bc bs (pc + 3) L st h Q) : jj_WP d K bc bs pc L (.int x :: st) h Q := by
  intro p l e R s m args below meth c mc ms Z C RR H locs cells slots ls S
  exact lv_if_eq C.1 C.2.1 dg ht (fun c0 => kt c0 p l e R s m args below meth c mc ms Z C RR H locs cells slots ls S) (fun c0 => kf c0 p l e R s m args below meth c mc ms Z C RR H locs cells slots ls S)
theorem j_icmp_eq {x y : Int32} {off : Int} {tgt : Nat} (dg : decode K.2.1 pc = .ok (.if_icmp .eq off, 3)) (ht : (pc : Int) + off = (tgt : Int)) (kt : x = y → jj_WP d K bc bs tgt L st h Q) (kf : ¬ x = y → jj_WP d K bc bs (pc + 3) L st h Q) : jj_WP d K bc bs pc L (.int y :: .int x :: st) h Q := by
  intro p l e R s m args below meth c mc ms Z C RR H locs cells slots ls S
  exact lv_icmp_eq C.1 C.2.1 dg ht (fun c0 => kt c0 p l e R s m args below meth c mc ms Z C RR H locs cells slots ls S) (fun c0 => kf c0 p l e R s m args below meth c mc ms Z C RR H locs cells slots ls S)
theorem j_if_ne {x : Int32} {off : Int} {tgt : Nat} (dg : decode K.2.1 pc = .ok (.ifCond .ne off, 3)) (ht : (pc : Int) + off = (tgt : Int)) (kt : ¬ x = 0 → jj_WP d K bc bs tgt L st h Q) (kf : x = 0 → jj_WP d K bc bs (pc + 3) L st h Q) : jj_WP d K bc bs pc L (.int x :: st) h Q := by
  intro p l e R s m args below meth c mc ms Z C RR H locs cells slots ls S
  exact lv_if_ne C.1 C.2.1 dg ht (fun c0 => kt c0 p l e R s m args below meth c mc ms Z C RR H locs cells slots ls S) (fun c0 => kf c0 p l e R s m args below meth c mc ms Z C RR H locs cells slots ls S)
theorem j_icmp_ne {x y : Int32} {off : Int} {tgt : Nat} (dg : decode K.2.1 pc = .ok (.if_icmp .ne off, 3)) (ht : (pc : Int) + off = (tgt : Int)) (kt : ¬ x = y → jj_WP d K bc bs tgt L st h Q) (kf : x = y → jj_WP d K bc bs (pc + 3) L st h Q) : jj_WP d K bc bs pc L (.int y :: .int x :: st) h Q := by
  intro p l e R s m args below meth c mc ms Z C RR H locs cells slots ls S
  exact lv_icmp_ne C.1 C.2.1 dg ht (fun c0 => kt c0 p l e R s m args below meth c mc ms Z C RR H locs cells slots ls S) (fun c0 => kf c0 p l e R s m args below meth c mc ms Z C RR H locs cells slots ls S)
theorem j_if_lt {x : Int32} {off : Int} {tgt : Nat} (dg : decode K.2.1 pc = .ok (.ifCond .lt off, 3)) (ht : (pc : Int) + off = (tgt : Int)) (kt : x < 0 → jj_WP d K bc bs tgt L st h Q) (kf : ¬ x < 0 → jj_WP d K bc bs (pc + 3) L st h Q) : jj_WP d K bc bs pc L (.int x :: st) h Q := by
  intro p l e R s m args below meth c mc ms Z C RR H locs cells slots ls S
  exact lv_if_lt C.1 C.2.1 dg ht (fun c0 => kt c0 p l e R s m args below meth c mc ms Z C RR H locs cells slots ls S) (fun c0 => kf c0 p l e R s m args below meth c mc ms Z C RR H locs cells slots ls S)
theorem j_icmp_lt {x y : Int32} {off : Int} {tgt : Nat} (dg : decode K.2.1 pc = .ok (.if_icmp .lt off, 3)) (ht : (pc : Int) + off = (tgt : Int)) (kt : x < y → jj_WP d K bc bs tgt L st h Q) (kf : ¬ x < y → jj_WP d K bc bs (pc + 3) L st h Q) : jj_WP d K bc bs pc L (.int y :: .int x :: st) h Q := by
  intro p l e R s m args below meth c mc ms Z C RR H locs cells slots ls S
  exact lv_icmp_lt C.1 C.2.1 dg ht (fun c0 => kt c0 p l e R s m args below meth c mc ms Z C RR H locs cells slots ls S) (fun c0 => kf c0 p l e R s m args below meth c mc ms Z C RR H locs cells slots ls S)
theorem j_if_ge {x : Int32} {off : Int} {tgt : Nat} (dg : decode K.2.1 pc = .ok (.ifCond .ge off, 3)) (ht : (pc : Int) + off = (tgt : Int)) (kt : 0 ≤ x → jj_WP d K bc bs tgt L st h Q) (kf : ¬ 0 ≤ x → jj_WP d K bc bs (pc + 3) L st h Q) : jj_WP d K bc bs pc L (.int x :: st) h Q := by
  intro p l e R s m args below meth c mc ms Z C RR H locs cells slots ls S
  exact lv_if_ge C.1 C.2.1 dg ht (fun c0 => kt c0 p l e R s m args below meth c mc ms Z C RR H locs cells slots ls S) (fun c0 => kf c0 p l e R s m args below meth c mc ms Z C RR H locs cells slots ls S)
theorem j_icmp_ge {x y : Int32} {off : Int} {tgt : Nat} (dg : decode K.2.1 pc = .ok (.if_icmp .ge off, 3)) (ht : (pc : Int) + off = (tgt : Int)) (kt : y ≤ x → jj_WP d K bc bs tgt L st h Q) (kf : ¬ y ≤ x → jj_WP d K bc bs (pc + 3) L st h Q) : jj_WP d K bc bs pc L (.int y :: .int x :: st) h Q := by
  intro p l e R s m args below meth c mc ms Z C RR H locs cells slots ls S
  exact lv_icmp_ge C.1 C.2.1 dg ht (fun c0 => kt c0 p l e R s m args below meth c mc ms Z C RR H locs cells slots ls S) (fun c0 => kf c0 p l e R s m args below meth c mc ms Z C RR H locs cells slots ls S)
theorem j_if_gt {x : Int32} {off : Int} {tgt : Nat} (dg : decode K.2.1 pc = .ok (.ifCond .gt off, 3)) (ht : (pc : Int) + off = (tgt : Int)) (kt : 0 < x → jj_WP d K bc bs tgt L st h Q) (kf : ¬ 0 < x → jj_WP d K bc bs (pc + 3) L st h Q) : jj_WP d K bc bs pc L (.int x :: st) h Q := by
  intro p l e R s m args below meth c mc ms Z C RR H locs cells slots ls S
  exact lv_if_gt C.1 C.2.1 dg ht (fun c0 => kt c0 p l e R s m args below meth c mc ms Z C RR H locs cells slots ls S) (fun c0 => kf c0 p l e R s m args below meth c mc ms Z C RR H locs cells slots ls S)
theorem j_icmp_gt {x y : Int32} {off : Int} {tgt : Nat} (dg : decode K.2.1 pc = .ok (.if_icmp .gt off, 3)) (ht : (pc : Int) + off = (tgt : Int)) (kt : y < x → jj_WP d K bc bs tgt L st h Q) (kf : ¬ y < x → jj_WP d K bc bs (pc + 3) L st h Q) : jj_WP d K bc bs pc L (.int y :: .int x :: st) h Q := by
  intro p l e R s m args below meth c mc ms Z C RR H locs cells slots ls S
  exact lv_icmp_gt C.1 C.2.1 dg ht (fun c0 => kt c0 p l e R s m args below meth c mc ms Z C RR H locs cells slots ls S) (fun c0 => kf c0 p l e R s m args below meth c mc ms Z C RR H locs cells slots ls S)
theorem j_if_le {x : Int32} {off : Int} {tgt : Nat} (dg : decode K.2.1 pc = .ok (.ifCond .le off, 3)) (ht : (pc : Int) + off = (tgt : Int)) (kt : x ≤ 0 → jj_WP d K bc bs tgt L st h Q) (kf : ¬ x ≤ 0 → jj_WP d K bc bs (pc + 3) L st h Q) : jj_WP d K bc bs pc L (.int x :: st) h Q := by
  intro p l e R s m args below meth c mc ms Z C RR H locs cells slots ls S
  exact lv_if_le C.1 C.2.1 dg ht (fun c0 => kt c0 p l e R s m args below meth c mc ms Z C RR H locs cells slots ls S) (fun c0 => kf c0 p l e R s m args below meth c mc ms Z C RR H locs cells slots ls S)
theorem j_icmp_le {x y : Int32} {off : Int} {tgt : Nat} (dg : decode K.2.1 pc = .ok (.if_icmp .le off, 3)) (ht : (pc : Int) + off = (tgt : Int)) (kt : x ≤ y → jj_WP d K bc bs tgt L st h Q) (kf : ¬ x ≤ y → jj_WP d K bc bs (pc + 3) L st h Q) : jj_WP d K bc bs pc L (.int y :: .int x :: st) h Q := by
  intro p l e R s m args below meth c mc ms Z C RR H locs cells slots ls S
  exact lv_icmp_le C.1 C.2.1 dg ht (fun c0 => kt c0 p l e R s m args below meth c mc ms Z C RR H locs cells slots ls S) (fun c0 => kf c0 p l e R s m args below meth c mc ms Z C RR H locs cells slots ls S)
theorem j_goto {off : Int} {tgt : Nat} (dg : decode K.2.1 pc = .ok (.goto off, 3)) (ht : (pc : Int) + off = (tgt : Int)) (k : jj_WP d K bc bs tgt L st h Q) : jj_WP d K bc bs pc L st h Q := by
  intro p l e R s m args below meth c mc ms Z C RR H locs cells slots ls S
  exact lv_goto C.1 C.2.1 dg ht (k p l e R s m args below meth c mc ms Z C RR H locs cells slots ls S)
theorem j_ifnull {r : Nat} {off : Int} {tgt : Nat} (dg : decode K.2.1 pc = .ok (.ifnull off, 3)) (ht : (pc : Int) + off = (tgt : Int)) (kt : r = 0 → jj_WP d K bc bs tgt L st h Q) (kf : ¬ r = 0 → jj_WP d K bc bs (pc + 3) L st h Q) : jj_WP d K bc bs pc L (.ref r :: st) h Q := by
  intro p l e R s m args below meth c mc ms Z C RR H locs cells slots ls S
  cases r with
  | zero => exact lv_ifnullN C.1 C.2.1 dg ht (kt rfl p l e R s m args below meth c mc ms Z C RR H locs cells slots ls S)
  | succ r => exact lv_ifnull C.1 C.2.1 dg (kf (by omega) p l e R s m args below meth c mc ms Z C RR H locs cells slots ls S)
theorem j_ifnonnull {r : Nat} {off : Int} {tgt : Nat} (dg : decode K.2.1 pc = .ok (.ifnonnull off, 3)) (ht : (pc : Int) + off = (tgt : Int)) (kt : ¬ r = 0 → jj_WP d K bc bs tgt L st h Q) (kf : r = 0 → jj_WP d K bc bs (pc + 3) L st h Q) : jj_WP d K bc bs pc L (.ref r :: st) h Q := by
  intro p l e R s m args below meth c mc ms Z C RR H locs cells slots ls S
  cases r with
  | zero => exact lv_ifnonnullN C.1 C.2.1 dg (kf rfl p l e R s m args below meth c mc ms Z C RR H locs cells slots ls S)
  | succ r => exact lv_ifnonnull C.1 C.2.1 dg ht (kt (by omega) p l e R s m args below meth c mc ms Z C RR H locs cells slots ls S)
theorem j_iload_n {n : Fin 4} {i : Nat} {x : Int32} (dg : decode K.2.1 pc = .ok (.iload_n n, 1)) (hi : (n : Nat) = i) (j : Nat) (hj : L[j]? = some (i, .int x)) (k : jj_WP d K bc bs (pc + 1) L (.int x :: st) h Q) : jj_WP d K bc bs pc L st h Q := by
  intro p l e R s m args below meth c mc ms Z C RR H locs cells slots ls S
  exact lv_iload_n C.1 C.2.1 dg hi (jj_at S.2.2.2.2 j hj) (k p l e R s m args below meth c mc ms Z C RR H locs cells slots ls S)
theorem j_iload {i : Nat} {x : Int32} (dg : decode K.2.1 pc = .ok (.iload i, 2)) (j : Nat) (hj : L[j]? = some (i, .int x)) (k : jj_WP d K bc bs (pc + 2) L (.int x :: st) h Q) : jj_WP d K bc bs pc L st h Q := by
  intro p l e R s m args below meth c mc ms Z C RR H locs cells slots ls S
  exact lv_iload C.1 C.2.1 dg (jj_at S.2.2.2.2 j hj) (k p l e R s m args below meth c mc ms Z C RR H locs cells slots ls S)
theorem j_lload_n {n : Fin 4} {i : Nat} {x : Int64} (dg : decode K.2.1 pc = .ok (.lload_n n, 1)) (hi : (n : Nat) = i) (j : Nat) (hj : L[j]? = some (i, .long x)) (k : jj_WP d K bc bs (pc + 1) L (.long x :: st) h Q) : jj_WP d K bc bs pc L st h Q := by
  intro p l e R s m args below meth c mc ms Z C RR H locs cells slots ls S
  exact lv_lload_n C.1 C.2.1 dg hi (jj_at S.2.2.2.2 j hj) (k p l e R s m args below meth c mc ms Z C RR H locs cells slots ls S)
theorem j_lload {i : Nat} {x : Int64} (dg : decode K.2.1 pc = .ok (.lload i, 2)) (j : Nat) (hj : L[j]? = some (i, .long x)) (k : jj_WP d K bc bs (pc + 2) L (.long x :: st) h Q) : jj_WP d K bc bs pc L st h Q := by
  intro p l e R s m args below meth c mc ms Z C RR H locs cells slots ls S
  exact lv_lload C.1 C.2.1 dg (jj_at S.2.2.2.2 j hj) (k p l e R s m args below meth c mc ms Z C RR H locs cells slots ls S)
theorem j_aload_n {n : Fin 4} {i r : Nat} (dg : decode K.2.1 pc = .ok (.aload_n n, 1)) (hi : (n : Nat) = i) (j : Nat) (hj : L[j]? = some (i, .ref r)) (k : jj_WP d K bc bs (pc + 1) L (.ref r :: st) h Q) : jj_WP d K bc bs pc L st h Q := by
  intro p l e R s m args below meth c mc ms Z C RR H locs cells slots ls S
  have hl := jj_at S.2.2.2.2 j hj
  have kk := k p l e R s m args below meth c mc ms Z C RR H locs cells slots ls S
  cases r with
  | zero => exact lv_aload_nN C.1 C.2.1 dg hi hl kk
  | succ r => exact lv_aload_n C.1 C.2.1 dg hi hl kk
theorem j_aload {i r : Nat} (dg : decode K.2.1 pc = .ok (.aload i, 2)) (j : Nat) (hj : L[j]? = some (i, .ref r)) (k : jj_WP d K bc bs (pc + 2) L (.ref r :: st) h Q) : jj_WP d K bc bs pc L st h Q := by
  intro p l e R s m args below meth c mc ms Z C RR H locs cells slots ls S
  have hl := jj_at S.2.2.2.2 j hj
  have kk := k p l e R s m args below meth c mc ms Z C RR H locs cells slots ls S
  cases r with
  | zero => exact lv_aloadN C.1 C.2.1 dg hl kk
  | succ r => exact lv_aload C.1 C.2.1 dg hl kk
theorem j_aload_nS {n : Fin 4} {i : Nat} {r : UInt32} (dg : decode K.2.1 pc = .ok (.aload_n n, 1)) (hi : (n : Nat) = i) (j : Nat) (hj : L[j]? = some (i, .float r)) (k : jj_WP d K bc bs (pc + 1) L (.float r :: st) h Q) : jj_WP d K bc bs pc L st h Q := by
  intro p l e R s m args below meth c mc ms Z C RR H locs cells slots ls S
  exact lv_aload_n C.1 C.2.1 dg hi (jj_at S.2.2.2.2 j hj) (k p l e R s m args below meth c mc ms Z C RR H locs cells slots ls S)
theorem j_istore_n {n : Fin 4} {i : Nat} {x : Int32} {L' : List (Nat × Value)} (dg : decode K.2.1 pc = .ok (.istore_n n, 1)) (hi : (n : Nat) = i) (hn : i < K.2.2.1) (hl' : (i, Value.int x) :: L.filter (fun q => !(q.1 == i) && !(q.1 + 1 == i && q.2.category == 2)) = L') (k : jj_WP d K bc bs (pc + 1) L' st h Q) : jj_WP d K bc bs pc L (.int x :: st) h Q := by
  intro p l e R s m args below meth c mc ms Z C RR H locs cells slots ls S
  exact lv_istore_n C.1 C.2.1 dg hi S.2.2.2.2 hn (lv' := jj_l d L') (by rw [jj_fil, ← hl']; rfl) (fun ls hl => k p l e R s m args below meth c mc ms Z C RR H locs cells slots ls ⟨S.1, S.2.1, S.2.2.1, S.2.2.2.1, hl⟩)
theorem j_istore {i : Nat} {x : Int32} {L' : List (Nat × Value)} (dg : decode K.2.1 pc = .ok (.istore i, 2)) (hn : i < K.2.2.1) (hl' : (i, Value.int x) :: L.filter (fun q => !(q.1 == i) && !(q.1 + 1 == i && q.2.category == 2)) = L') (k : jj_WP d K bc bs (pc + 2) L' st h Q) : jj_WP d K bc bs pc L (.int x :: st) h Q := by
  intro p l e R s m args below meth c mc ms Z C RR H locs cells slots ls S
  exact lv_istore C.1 C.2.1 dg S.2.2.2.2 hn (lv' := jj_l d L') (by rw [jj_fil, ← hl']; rfl) (fun ls hl => k p l e R s m args below meth c mc ms Z C RR H locs cells slots ls ⟨S.1, S.2.1, S.2.2.1, S.2.2.2.1, hl⟩)
theorem j_lstore_n {n : Fin 4} {i : Nat} {x : Int64} {L' : List (Nat × Value)} (dg : decode K.2.1 pc = .ok (.lstore_n n, 1)) (hi : (n : Nat) = i) (hn : i + 1 < K.2.2.1) (hl' : (i, Value.long x) :: L.filter (fun q => !(q.1 == i) && (!(q.1 == i + 1) && !(q.1 + 1 == i && q.2.category == 2))) = L') (k : jj_WP d K bc bs (pc + 1) L' st h Q) : jj_WP d K bc bs pc L (.long x :: st) h Q := by
  intro p l e R s m args below meth c mc ms Z C RR H locs cells slots ls S
  exact lv_lstore_n C.1 C.2.1 dg hi S.2.2.2.2 hn (lv' := jj_l d L') (by rw [jj_fil2, ← hl']; rfl) (fun ls hl => k p l e R s m args below meth c mc ms Z C RR H locs cells slots ls ⟨S.1, S.2.1, S.2.2.1, S.2.2.2.1, hl⟩)
theorem j_lstore {i : Nat} {x : Int64} {L' : List (Nat × Value)} (dg : decode K.2.1 pc = .ok (.lstore i, 2)) (hn : i + 1 < K.2.2.1) (hl' : (i, Value.long x) :: L.filter (fun q => !(q.1 == i) && (!(q.1 == i + 1) && !(q.1 + 1 == i && q.2.category == 2))) = L') (k : jj_WP d K bc bs (pc + 2) L' st h Q) : jj_WP d K bc bs pc L (.long x :: st) h Q := by
  intro p l e R s m args below meth c mc ms Z C RR H locs cells slots ls S
  exact lv_lstore C.1 C.2.1 dg S.2.2.2.2 hn (lv' := jj_l d L') (by rw [jj_fil2, ← hl']; rfl) (fun ls hl => k p l e R s m args below meth c mc ms Z C RR H locs cells slots ls ⟨S.1, S.2.1, S.2.2.1, S.2.2.2.1, hl⟩)
theorem j_astore_n {n : Fin 4} {i r : Nat} {L' : List (Nat × Value)} (dg : decode K.2.1 pc = .ok (.astore_n n, 1)) (hi : (n : Nat) = i) (hn : i < K.2.2.1) (hl' : (i, Value.ref r) :: L.filter (fun q => !(q.1 == i) && !(q.1 + 1 == i && q.2.category == 2)) = L') (k : jj_WP d K bc bs (pc + 1) L' st h Q) : jj_WP d K bc bs pc L (.ref r :: st) h Q := by
  intro p l e R s m args below meth c mc ms Z C RR H locs cells slots ls S
  cases r with
  | zero => exact lv_astore_nN C.1 C.2.1 dg hi S.2.2.2.2 hn (lv' := jj_l d L') (by rw [jj_fil, ← hl']; rfl) (fun ls hl => k p l e R s m args below meth c mc ms Z C RR H locs cells slots ls ⟨S.1, S.2.1, S.2.2.1, S.2.2.2.1, hl⟩)
  | succ r => exact lv_astore_n C.1 C.2.1 dg hi S.2.2.2.2 hn (lv' := jj_l d L') (by rw [jj_fil, ← hl']; rfl) (fun ls hl => k p l e R s m args below meth c mc ms Z C RR H locs cells slots ls ⟨S.1, S.2.1, S.2.2.1, S.2.2.2.1, hl⟩)
theorem j_astore {i r : Nat} {L' : List (Nat × Value)} (dg : decode K.2.1 pc = .ok (.astore i, 2)) (hn : i < K.2.2.1) (hl' : (i, Value.ref r) :: L.filter (fun q => !(q.1 == i) && !(q.1 + 1 == i && q.2.category == 2)) = L') (k : jj_WP d K bc bs (pc + 2) L' st h Q) : jj_WP d K bc bs pc L (.ref r :: st) h Q := by
  intro p l e R s m args below meth c mc ms Z C RR H locs cells slots ls S
  cases r with
  | zero => exact lv_astoreN C.1 C.2.1 dg S.2.2.2.2 hn (lv' := jj_l d L') (by rw [jj_fil, ← hl']; rfl) (fun ls hl => k p l e R s m args below meth c mc ms Z C RR H locs cells slots ls ⟨S.1, S.2.1, S.2.2.1, S.2.2.2.1, hl⟩)
  | succ r => exact lv_astore C.1 C.2.1 dg S.2.2.2.2 hn (lv' := jj_l d L') (by rw [jj_fil, ← hl']; rfl) (fun ls hl => k p l e R s m args below meth c mc ms Z C RR H locs cells slots ls ⟨S.1, S.2.1, S.2.2.1, S.2.2.2.1, hl⟩)
theorem j_iinc {i : Nat} {n : Int} {x v : Int32} {L' : List (Nat × Value)} (dg : decode K.2.1 pc = .ok (.iinc i n, 3)) (j : Nat) (hj : L[j]? = some (i, .int x)) (hv : x + Int32.ofInt n = v) (hn : i < K.2.2.1) (hl' : (i, Value.int v) :: L.filter (fun q => !(q.1 == i) && !(q.1 + 1 == i && q.2.category == 2)) = L') (k : jj_WP d K bc bs (pc + 3) L' st h Q) : jj_WP d K bc bs pc L st h Q := by
  intro p l e R s m args below meth c mc ms Z C RR H locs cells slots ls S
  exact lv_iinc C.1 C.2.1 dg S.2.2.2.2 (k := j) (by unfold jj_l; rw [List.getElem?_map, hj]; rfl) hv hn (lv' := jj_l d L') (by rw [jj_fil, ← hl']; rfl) (fun ls hl => k p l e R s m args below meth c mc ms Z C RR H locs cells slots ls ⟨S.1, S.2.1, S.2.2.1, S.2.2.2.1, hl⟩)
/-- one after the other: if x is k, k + 1 .. -/
def jj_sw (x : Int32) (P : Nat → Prop) : Int → List Nat → Prop
  | _, [] => True
  | k, t :: ts => (x.toInt = k → P t) ∧ jj_sw x P (k + 1) ts
theorem jj_sw_at {x : Int32} {P : Nat → Prop} : ∀ (ts : List Nat) (k : Int) (i t : Nat), jj_sw x P k ts → ts[i]? = some t → x.toInt = k + i → P t := by
  intro ts
  induction ts with
  | nil => intro k i t _ h; simp at h
  | cons a as ih =>
    intro k i t h hi hx
    cases i with
    | zero => simp at hi; subst hi; exact h.1 (by simpa using hx)
    | succ i => exact ih (k + 1) i t h.2 (by simpa using hi) (by rw [hx]; push_cast; omega)
def jj_lw (x : Int32) (P : Nat → Prop) (dt : Nat) : List (Int × Nat) → Prop
  | [] => P dt
  | (k, t) :: ps => (x.toInt = k → P t) ∧ (¬ x.toInt = k → jj_lw x P dt ps)
theorem jj_lw_at {x : Int32} {P : Nat → Prop} {pc dt : Nat} {dflt : Int} (hd : (pc : Int) + dflt = (dt : Int)) : ∀ (ps : List (Int × Int)) (ts : List (Int × Nat)), ps.map (fun q => (q.1, (pc : Int) + q.2)) = ts.map (fun q => (q.1, (q.2 : Int))) → jj_lw x P dt ts → ∃ t : Nat, (pc : Int) + Op.lookupswitch.offset ps dflt x.toInt = (t : Int) ∧ P t := by
  intro ps
  induction ps with
  | nil =>
    intro ts h H
    cases ts with
    | nil => exact ⟨dt, hd, H⟩
    | cons a as => simp at h
  | cons a as ih =>
    intro ts h H
    cases ts with
    | nil => simp at h
    | cons b bs =>
      obtain ⟨a1, a2⟩ := a
      obtain ⟨b1, b2⟩ := b
      simp only [List.map_cons, List.cons.injEq, Prod.mk.injEq] at h
      obtain ⟨⟨e1, e2⟩, e3⟩ := h
      subst e1
      rw [Op.lookupswitch.offset_cons]
      by_cases hx : x.toInt = a1
      · rw [if_pos hx.symm]
        exact ⟨b2, e2, H.1 hx⟩
      · rw [if_neg (fun q => hx q.symm)]
        exact ih bs e3 (H.2 hx)
theorem j_tsw {x : Int32} {dflt lo hi : Int} {offs : Array Int} {len : Nat} (ts : List Nat) (td : Nat) (dg : decode K.2.1 pc = .ok (.tableswitch dflt lo hi offs, len)) (hd : (pc : Int) + dflt = (td : Int)) (hts : offs.toList.map (fun q => (pc : Int) + q) = ts.map (fun q : Nat => (q : Int))) (hlen : hi - lo + 1 = (ts.length : Int)) (k : jj_sw x (fun t => jj_WP d K bc bs t L st h Q) lo ts) (ko : (x.toInt < lo ∨ hi < x.toInt) → jj_WP d K bc bs td L st h Q) : jj_WP d K bc bs pc L (.int x :: st) h Q := by
  intro p l e R s m args below meth c mc ms Z C RR H locs cells slots ls S
  by_cases h1 : x.toInt < lo ∨ hi < x.toInt
  · exact lv_tableOut C.1 C.2.1 dg h1 hd (ko h1 p l e R s m args below meth c mc ms Z C RR H locs cells slots ls S)
  · have hi1 : (x.toInt - lo).toNat < ts.length := by omega
    have ht : ts[(x.toInt - lo).toNat]? = some ts[(x.toInt - lo).toNat] := List.getElem?_eq_getElem hi1
    have hlo : offs.toList.length = ts.length := by have := congrArg List.length hts; simpa using this
    have ho : offs[(x.toInt - lo).toNat]? = some offs.toList[(x.toInt - lo).toNat] := by rw [← Array.getElem?_toList]; exact List.getElem?_eq_getElem _
    have ee := congrArg (fun q => q[(x.toInt - lo).toNat]?) hts
    simp only [List.getElem?_map, ht, Option.map_some] at ee
    rw [List.getElem?_eq_getElem (by omega)] at ee
    simp only [Option.map_some, Option.some.injEq] at ee
    exact lv_tableIn C.1 C.2.1 dg (fun q => h1 (Or.inl q)) (fun q => h1 (Or.inr q)) ho ee (jj_sw_at ts lo _ _ k ht (by omega) p l e R s m args below meth c mc ms Z C RR H locs cells slots ls S)
theorem j_lsw {x : Int32} {dflt : Int} {ps : Array (Int × Int)} {len : Nat} (ts : List (Int × Nat)) (td : Nat) (dg : decode K.2.1 pc = .ok (.lookupswitch dflt ps, len)) (hp : (ps.toList.zip (ps.toList.drop 1)).all (fun (a, next) => a.1 < next.1) = true) (hd : (pc : Int) + dflt = (td : Int)) (hts : ps.toList.map (fun q => (q.1, (pc : Int) + q.2)) = ts.map (fun q => (q.1, (q.2 : Int)))) (k : jj_lw x (fun t => jj_WP d K bc bs t L st h Q) td ts) : jj_WP d K bc bs pc L (.int x :: st) h Q := by
  intro p l e R s m args below meth c mc ms Z C RR H locs cells slots ls S
  obtain ⟨t, e1, e2⟩ := jj_lw_at hd ps.toList ts hts k
  exact lv_lookup C.1 C.2.1 dg hp rfl e1 (e2 p l e R s m args below meth c mc ms Z C RR H locs cells slots ls S)
theorem j_ret {v : Value} (hrt : jj_rt K.2.2.2.1 v (decode K.2.1 pc)) (hst : st = (match K.2.2.2.1 with | none => [] | some _ => [v])) (hq : Q v h) : jj_WP d K bc bs pc L st h Q := by
  intro p l e R s m args below meth c mc ms Z C RR H locs cells slots ls S
  have := RR pc v h H locs cells slots ls hq S.1 S.2.1 (by have := S.2.2.1; omega) (by have := S.2.2.2.1; omega) hrt
  subst hst
  unfold jj_rs at this
  cases hre : K.2.2.2.1 with
  | none => rw [hre] at this; exact this
  | some t => rw [hre] at this; exact this
theorem j_getI {ci : Nat} {C0 : String} {T : u_T} {N : Nat} {ty : Nat → FieldType} {idx a f : Nat} (hc : jj_cls ci C0 T N ty) (n : Nat) (hn : n < N) (hl : Cond.fieldLink K.1.cls idx C0 (T n).2.1 (T n).2.2.1 ∈ jj_tb) (hf : 50 * ci + n = f) (ht : (jj_T ci).getD n 0 ≠ 1 ∧ (jj_T ci).getD n 0 ≠ 2) (dg : decode K.2.1 pc = .ok (.getfield idx, 3)) (hk : jK h a = ci + 1) (k : jj_WP d K bc bs (pc + 3) L (.int (jI h f a 0) :: st) h Q) : jj_WP d K bc bs pc L (.ref a :: st) h Q := by
  intro p l e R s m args below meth c mc ms Z C RR H locs cells slots ls S
  obtain ⟨i, rfl, hi, ha⟩ := S.1.obj hk hc.2.2.2.2.2.1
  have hlen := hc.2.2.2.2.1
  have hlink : (Cond.fieldLink K.1.cls idx (T n).1 (T n).2.1 (T n).2.2.1).before args s = true := C.2.2.2.2.2.2.1 _ (by rw [hc.2.2.2.2.2.2 n hn]; exact hl)
  have kk := k p l e R s m args below meth c mc ms Z C RR H locs cells slots ls S
  exact va_get (D := d.1) (ci := ci) (v := .int (jI h f (i + 1) 0)) C.1 C.2.1 C.2.2.2.2.2.2.1 hc.2.1 C.2.2.2.2.2.1 C.2.2.2.2.2.2.2.1.1 (jj_one ha) 0 rfl hc.1 n hn hlink (fun _ h9 => h9) (by rw [jj_fs_get (by omega), ← hf]; unfold jj_fv; rw [if_neg ht.1, if_neg ht.2]) dg kk
theorem j_getL {ci : Nat} {C0 : String} {T : u_T} {N : Nat} {ty : Nat → FieldType} {idx a f : Nat} (hc : jj_cls ci C0 T N ty) (n : Nat) (hn : n < N) (hl : Cond.fieldLink K.1.cls idx C0 (T n).2.1 (T n).2.2.1 ∈ jj_tb) (hf : 50 * ci + n = f) (ht : (jj_T ci).getD n 0 = 1) (dg : decode K.2.1 pc = .ok (.getfield idx, 3)) (hk : jK h a = ci + 1) (k : jj_WP d K bc bs (pc + 3) L (.long (jL h f a 0) :: st) h Q) : jj_WP d K bc bs pc L (.ref a :: st) h Q := by
  intro p l e R s m args below meth c mc ms Z C RR H locs cells slots ls S
  obtain ⟨i, rfl, hi, ha⟩ := S.1.obj hk hc.2.2.2.2.2.1
  have hlen := hc.2.2.2.2.1
  have hlink : (Cond.fieldLink K.1.cls idx (T n).1 (T n).2.1 (T n).2.2.1).before args s = true := C.2.2.2.2.2.2.1 _ (by rw [hc.2.2.2.2.2.2 n hn]; exact hl)
  have kk := k p l e R s m args below meth c mc ms Z C RR H locs cells slots ls S
  exact va_get (D := d.1) (ci := ci) (v := .long (jL h f (i + 1) 0)) C.1 C.2.1 C.2.2.2.2.2.2.1 hc.2.1 C.2.2.2.2.2.1 C.2.2.2.2.2.2.2.1.1 (jj_one ha) 0 rfl hc.1 n hn hlink (fun _ h9 => h9) (by rw [jj_fs_get (by omega), ← hf]; unfold jj_fv; rw [if_pos ht]) dg kk
theorem j_getR {ci : Nat} {C0 : String} {T : u_T} {N : Nat} {ty : Nat → FieldType} {idx a f : Nat} (hc : jj_cls ci C0 T N ty) (n : Nat) (hn : n < N) (hl : Cond.fieldLink K.1.cls idx C0 (T n).2.1 (T n).2.2.1 ∈ jj_tb) (hf : 50 * ci + n = f) (ht : (jj_T ci).getD n 0 = 2) (dg : decode K.2.1 pc = .ok (.getfield idx, 3)) (hk : jK h a = ci + 1) (k : jj_WP d K bc bs (pc + 3) L (.ref (jR h f a 0) :: st) h Q) : jj_WP d K bc bs pc L (.ref a :: st) h Q := by
  intro p l e R s m args below meth c mc ms Z C RR H locs cells slots ls S
  obtain ⟨i, rfl, hi, ha⟩ := S.1.obj hk hc.2.2.2.2.2.1
  have hlen := hc.2.2.2.2.1
  have hlink : (Cond.fieldLink K.1.cls idx (T n).1 (T n).2.1 (T n).2.2.1).before args s = true := C.2.2.2.2.2.2.1 _ (by rw [hc.2.2.2.2.2.2 n hn]; exact hl)
  have kk := k p l e R s m args below meth c mc ms Z C RR H locs cells slots ls S
  rw [List.map_cons, jj_rv_ref] at kk
  exact va_get (D := d.1) (ci := ci) (v := va_rf (jj_o d.2.2.1 (jR h f (i + 1) 0))) C.1 C.2.1 C.2.2.2.2.2.2.1 hc.2.1 C.2.2.2.2.2.1 C.2.2.2.2.2.2.2.1.1 (jj_one ha) 0 rfl hc.1 n hn hlink (fun _ h9 => h9) (by rw [jj_fs_get (by omega), ← hf]; unfold jj_fv; rw [if_neg (by omega), if_pos ht]) dg kk
theorem j_putI {ci : Nat} {C0 : String} {T : u_T} {N : Nat} {ty : Nat → FieldType} {idx a f : Nat} {v : Int32} (hc : jj_cls ci C0 T N ty) (n : Nat) (hn : n < N) (hl : Cond.fieldLink K.1.cls idx C0 (T n).2.1 (T n).2.2.1 ∈ jj_tb) (hf : 50 * ci + n = f) (ht : (jj_T ci).getD n 0 = 0) (hty : ty n = .int) (hfin : (T n).2.2.2 = false ∨ ((T n).2.2.2 = true ∧ K.1.name = "<init>" ∧ C0 = K.1.cls)) (dg : decode K.2.1 pc = .ok (.putfield idx, 3)) (hk : jK h a = ci + 1) (k : jj_WP d K bc bs (pc + 3) L st (wI h f a 0 v) Q) : jj_WP d K bc bs pc L (.int v :: .ref a :: st) h Q := by
  intro p l e R s m args below meth c mc ms Z C RR H locs cells slots ls S
  obtain ⟨i, rfl, hi, ha⟩ := S.1.obj hk hc.2.2.2.2.2.1
  have hlen := hc.2.2.2.2.1
  have hlink : (Cond.fieldLink K.1.cls idx (T n).1 (T n).2.1 (T n).2.2.1).before args s = true := C.2.2.2.2.2.2.1 _ (by rw [hc.2.2.2.2.2.2 n hn]; exact hl)
  subst hf
  refine jj_putW (D := d.1) (ci := ci) C.1 C.2.1 C.2.2.2.2.2.2.1 hc.2.1 ty hc.2.2.1 hc.2.2.2.1 C.2.2.2.2.2.1 C.2.2.2.2.2.2.2.1.1 ha hc.1 n hn hlink (hfin.imp id fun q => ⟨q.1, C.2.2.2.2.2.2.2.2.2.2.2.2.2.1.trans q.2.1, by rw [hc.2.2.2.2.2.2 n hn]; exact q.2.2⟩) (v := .int v) (by rw [hty]; rfl) (by rw [hty]; rfl) (by rw [jj_fs_len]; omega) dg fun H1 j a1 z oq => ?_
  refine k p l e R s m args below meth c mc ms Z C RR H1 _ cells slots ls ⟨S.1.upd (i := i) rfl (fun _ => rfl) (fun b hb => jj_E_wI hb) ?_ z a1 oq, S.2.1.put z oq (Nat.le_add_right _ _), S.2.2.1, S.2.2.2.1, S.2.2.2.2⟩
  rw [jj_E_obj (ci := ci) (show jK (wI h (50 * ci + n) (i + 1) 0 v) (i + 1) = ci + 1 from hk) hc.2.2.2.2.2.1, jj_fs_wI (by omega)]
theorem j_putZ {ci : Nat} {C0 : String} {T : u_T} {N : Nat} {ty : Nat → FieldType} {idx a f : Nat} {v : Int32} (hc : jj_cls ci C0 T N ty) (n : Nat) (hn : n < N) (hl : Cond.fieldLink K.1.cls idx C0 (T n).2.1 (T n).2.2.1 ∈ jj_tb) (hf : 50 * ci + n = f) (ht : (jj_T ci).getD n 0 = 3) (hty : ty n = .boolean ∧ (v = 0 ∨ v = 1)) (hfin : (T n).2.2.2 = false ∨ ((T n).2.2.2 = true ∧ K.1.name = "<init>" ∧ C0 = K.1.cls)) (dg : decode K.2.1 pc = .ok (.putfield idx, 3)) (hk : jK h a = ci + 1) (k : jj_WP d K bc bs (pc + 3) L st (wI h f a 0 v) Q) : jj_WP d K bc bs pc L (.int v :: .ref a :: st) h Q := by
  intro p l e R s m args below meth c mc ms Z C RR H locs cells slots ls S
  obtain ⟨i, rfl, hi, ha⟩ := S.1.obj hk hc.2.2.2.2.2.1
  have hlen := hc.2.2.2.2.1
  have hlink : (Cond.fieldLink K.1.cls idx (T n).1 (T n).2.1 (T n).2.2.1).before args s = true := C.2.2.2.2.2.2.1 _ (by rw [hc.2.2.2.2.2.2 n hn]; exact hl)
  subst hf
  refine jj_putW (D := d.1) (ci := ci) C.1 C.2.1 C.2.2.2.2.2.2.1 hc.2.1 ty hc.2.2.1 hc.2.2.2.1 C.2.2.2.2.2.1 C.2.2.2.2.2.2.2.1.1 ha hc.1 n hn hlink (hfin.imp id fun q => ⟨q.1, C.2.2.2.2.2.2.2.2.2.2.2.2.2.1.trans q.2.1, by rw [hc.2.2.2.2.2.2 n hn]; exact q.2.2⟩) (v := .int v) (by rw [hty.1]; rcases hty.2 with rfl | rfl <;> decide) (by rw [hty.1]; rcases hty.2 with rfl | rfl <;> decide) (by rw [jj_fs_len]; omega) dg fun H1 j a1 z oq => ?_
  refine k p l e R s m args below meth c mc ms Z C RR H1 _ cells slots ls ⟨S.1.upd (i := i) rfl (fun _ => rfl) (fun b hb => jj_E_wI hb) ?_ z a1 oq, S.2.1.put z oq (Nat.le_add_right _ _), S.2.2.1, S.2.2.2.1, S.2.2.2.2⟩
  rw [jj_E_obj (ci := ci) (show jK (wI h (50 * ci + n) (i + 1) 0 v) (i + 1) = ci + 1 from hk) hc.2.2.2.2.2.1, jj_fs_wI (by omega)]
theorem j_putL {ci : Nat} {C0 : String} {T : u_T} {N : Nat} {ty : Nat → FieldType} {idx a f : Nat} {v : Int64} (hc : jj_cls ci C0 T N ty) (n : Nat) (hn : n < N) (hl : Cond.fieldLink K.1.cls idx C0 (T n).2.1 (T n).2.2.1 ∈ jj_tb) (hf : 50 * ci + n = f) (ht : (jj_T ci).getD n 0 = 1) (hty : ty n = .long) (hfin : (T n).2.2.2 = false ∨ ((T n).2.2.2 = true ∧ K.1.name = "<init>" ∧ C0 = K.1.cls)) (dg : decode K.2.1 pc = .ok (.putfield idx, 3)) (hk : jK h a = ci + 1) (k : jj_WP d K bc bs (pc + 3) L st (wL h f a 0 v) Q) : jj_WP d K bc bs pc L (.long v :: .ref a :: st) h Q := by
  intro p l e R s m args below meth c mc ms Z C RR H locs cells slots ls S
  obtain ⟨i, rfl, hi, ha⟩ := S.1.obj hk hc.2.2.2.2.2.1
  have hlen := hc.2.2.2.2.1
  have hlink : (Cond.fieldLink K.1.cls idx (T n).1 (T n).2.1 (T n).2.2.1).before args s = true := C.2.2.2.2.2.2.1 _ (by rw [hc.2.2.2.2.2.2 n hn]; exact hl)
  subst hf
  refine jj_putW (D := d.1) (ci := ci) C.1 C.2.1 C.2.2.2.2.2.2.1 hc.2.1 ty hc.2.2.1 hc.2.2.2.1 C.2.2.2.2.2.1 C.2.2.2.2.2.2.2.1.1 ha hc.1 n hn hlink (hfin.imp id fun q => ⟨q.1, C.2.2.2.2.2.2.2.2.2.2.2.2.2.1.trans q.2.1, by rw [hc.2.2.2.2.2.2 n hn]; exact q.2.2⟩) (v := .long v) (by rw [hty]; rfl) (by rw [hty]; rfl) (by rw [jj_fs_len]; omega) dg fun H1 j a1 z oq => ?_
  refine k p l e R s m args below meth c mc ms Z C RR H1 _ cells slots ls ⟨S.1.upd (i := i) rfl (fun _ => rfl) (fun b hb => jj_E_wL hb) ?_ z a1 oq, S.2.1.put z oq (Nat.le_add_right _ _), S.2.2.1, S.2.2.2.1, S.2.2.2.2⟩
  rw [jj_E_obj (ci := ci) (show jK (wL h (50 * ci + n) (i + 1) 0 v) (i + 1) = ci + 1 from hk) hc.2.2.2.2.2.1, jj_fs_wL ht]
theorem j_putR {ci : Nat} {C0 : String} {T : u_T} {N : Nat} {ty : Nat → FieldType} {idx a f : Nat} {v : Nat} (hc : jj_cls ci C0 T N ty) (n : Nat) (hn : n < N) (hl : Cond.fieldLink K.1.cls idx C0 (T n).2.1 (T n).2.2.1 ∈ jj_tb) (hf : 50 * ci + n = f) (ht : (jj_T ci).getD n 0 = 2) (hty : (∃ C1, ty n = .object C1) ∨ ∃ t1, ty n = .array t1) (hfin : (T n).2.2.2 = false ∨ ((T n).2.2.2 = true ∧ K.1.name = "<init>" ∧ C0 = K.1.cls)) (dg : decode K.2.1 pc = .ok (.putfield idx, 3)) (hk : jK h a = ci + 1) (k : jj_WP d K bc bs (pc + 3) L st (wR h f a 0 v) Q) : jj_WP d K bc bs pc L (.ref v :: .ref a :: st) h Q := by
  intro p l e R s m args below meth c mc ms Z C RR H locs cells slots ls S
  obtain ⟨i, rfl, hi, ha⟩ := S.1.obj hk hc.2.2.2.2.2.1
  have hlen := hc.2.2.2.2.1
  have hlink : (Cond.fieldLink K.1.cls idx (T n).1 (T n).2.1 (T n).2.2.1).before args s = true := C.2.2.2.2.2.2.1 _ (by rw [hc.2.2.2.2.2.2 n hn]; exact hl)
  subst hf
  rw [List.map_cons, jj_rv_ref]
  refine jj_putW (D := d.1) (ci := ci) C.1 C.2.1 C.2.2.2.2.2.2.1 hc.2.1 ty hc.2.2.1 hc.2.2.2.1 C.2.2.2.2.2.1 C.2.2.2.2.2.2.2.1.1 ha hc.1 n hn hlink (hfin.imp id fun q => ⟨q.1, C.2.2.2.2.2.2.2.2.2.2.2.2.2.1.trans q.2.1, by rw [hc.2.2.2.2.2.2 n hn]; exact q.2.2⟩) (v := va_rf (jj_o d.2.2.1 v)) (by rcases hty with ⟨_, e⟩ | ⟨_, e⟩ <;> rw [e] <;> cases v <;> rfl) (by rcases hty with ⟨_, e⟩ | ⟨_, e⟩ <;> rw [e] <;> cases v <;> rfl) (by rw [jj_fs_len]; omega) dg fun H1 j a1 z oq => ?_
  refine k p l e R s m args below meth c mc ms Z C RR H1 _ cells slots ls ⟨S.1.upd (i := i) rfl (fun _ => rfl) (fun b hb => jj_E_wR hb) ?_ z a1 oq, S.2.1.put z oq (Nat.le_add_right _ _), S.2.2.1, S.2.2.2.1, S.2.2.2.2⟩
  rw [jj_E_obj (ci := ci) (show jK (wR h (50 * ci + n) (i + 1) 0 v) (i + 1) = ci + 1 from hk) hc.2.2.2.2.2.1, jj_fs_wR ht]
end JRULES
