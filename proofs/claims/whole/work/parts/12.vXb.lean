theorem dX5_init_0 : decode cX5_init 0 = .ok (.aload_n 0, 1) := by decide +kernel
theorem dX5_init_1 : decode cX5_init 1 = .ok (.invokespecial 3, 3) := by decide +kernel
theorem dX5_init_4 : decode cX5_init 4 = .ok (.aload_n 0, 1) := by decide +kernel
theorem dX5_init_5 : decode cX5_init 5 = .ok (.bipush 6, 2) := by decide +kernel
theorem dX5_init_7 : decode cX5_init 7 = .ok (.newarray .int, 2) := by decide +kernel
theorem dX5_init_9 : decode cX5_init 9 = .ok (.putfield 9, 3) := by decide +kernel
theorem dX5_init_12 : decode cX5_init 12 = .ok (.aload_n 0, 1) := by decide +kernel
theorem dX5_init_13 : decode cX5_init 13 = .ok (.getfield 9, 3) := by decide +kernel
theorem dX5_init_16 : decode cX5_init 16 = .ok (.iconst (-1), 1) := by decide +kernel
theorem dX5_init_17 : decode cX5_init 17 = .ok (.invokestatic 15, 3) := by decide +kernel
theorem dX5_init_20 : decode cX5_init 20 = .ok (.return_, 1) := by decide +kernel
theorem EX5_init {bc bs : Nat} {h : jj_H} {Q : Value → jj_H → Prop} (r0 : Nat) (H : ∀ d : jj_D, r0 ≠ 0 ∧ (1 ≤ bc ∧ 6 ≤ bs ∧ (∀ h1, h1 = wA h 21 6 → (jK h1 r0 = 6 ∧ (∀ h2, h2 = wR h1 250 r0 0 (jZ h + 1) → (jj_C mJ7_fill_53178 0 0 [.ref (jR h2 250 r0 0), .int (-1)] h2 (fun v4 h3 => Q (.int 0) h3))))))) : jj_C mX5_init bc bs [.ref r0] h Q := j_enter (by decide +kernel) (Nat.le_of_ble_eq_true rfl) rfl fun d => have H := H d; j_aload_n dX5_init_0 rfl 0 rfl (j_objInit ml_X5_3 im_Object co_Object dX5_init_1 (Nat.le_of_ble_eq_true rfl) (by decide) (by decide) H.1 (j_aload_n dX5_init_4 rfl 0 rfl (j_bipush (v := 6) dX5_init_5 rfl (jj_bud (cj := 1) (sj := 6) H.2.1 H.2.2.1 (j_newI (bc := (bc - 1)) (bs := (bs - 6)) (N := 6) ac_int dX5_init_7 (by decide) rfl (by decide) (j_putR (f := 250) cls_X5 0 (by decide) fl_X5_9 rfl rfl (Or.inr ⟨_, rfl⟩) (Or.inr ⟨rfl, rfl, rfl⟩) dX5_init_9 (H.2.2.2 _ rfl).1 (j_aload_n dX5_init_12 rfl 0 rfl (j_getR (f := 250) cls_X5 0 (by decide) fl_X5_9 rfl rfl dX5_init_13 (H.2.2.2 _ rfl).1 (j_iconst (v := (-1)) dX5_init_16 rfl (j_callS0 (as := [.ref (jR (wR (wA h 21 6) 250 r0 0 (jZ h + 1)) 250 r0 0), .int (-1)]) cm_J7_fill_53178 sm_J7_fill_53178 ml_X5_15 ⟨by decide, by decide⟩ dX5_init_17 rfl rfl (Nat.le_of_ble_eq_true rfl) (jj_C.mono ((H.2.2.2 _ rfl).2 _ rfl) (fun v4 h3 H5 => j_ret (v := .int 0) dX5_init_20 rfl (H5)))))))))))))
theorem dX5_hasBranch_0 : decode cX5_hasBranch 0 = .ok (.iload_n 1, 1) := by decide +kernel
theorem dX5_hasBranch_1 : decode cX5_hasBranch 1 = .ok (.invokestatic 21, 3) := by decide +kernel
theorem dX5_hasBranch_4 : decode cX5_hasBranch 4 = .ok (.ifCond .eq 17, 3) := by decide +kernel
theorem dX5_hasBranch_7 : decode cX5_hasBranch 7 = .ok (.aload_n 0, 1) := by decide +kernel
theorem dX5_hasBranch_8 : decode cX5_hasBranch 8 = .ok (.getfield 9, 3) := by decide +kernel
theorem dX5_hasBranch_11 : decode cX5_hasBranch 11 = .ok (.iload_n 1, 1) := by decide +kernel
theorem dX5_hasBranch_12 : decode cX5_hasBranch 12 = .ok (.iaload, 1) := by decide +kernel
theorem dX5_hasBranch_13 : decode cX5_hasBranch 13 = .ok (.iconst (-1), 1) := by decide +kernel
theorem dX5_hasBranch_14 : decode cX5_hasBranch 14 = .ok (.if_icmp .eq 7, 3) := by decide +kernel
theorem dX5_hasBranch_17 : decode cX5_hasBranch 17 = .ok (.iconst 1, 1) := by decide +kernel
theorem dX5_hasBranch_18 : decode cX5_hasBranch 18 = .ok (.goto 4, 3) := by decide +kernel
theorem dX5_hasBranch_21 : decode cX5_hasBranch 21 = .ok (.iconst 0, 1) := by decide +kernel
theorem dX5_hasBranch_22 : decode cX5_hasBranch 22 = .ok (.ireturn, 1) := by decide +kernel
theorem EX5_hasBranch {h : jj_H} {Q : Value → jj_H → Prop} (r0 : Nat) (x1 : Int32) (H : ∀ d : jj_D, jj_C mX9_isBranch 0 0 [.int x1] h (fun v2 h1 => jj_vi (fun y3 => (y3 = 0 → Q (.int 0) h1) ∧ (¬ y3 = 0 → jK h1 r0 = 6 ∧ (jK h1 (jR h1 250 r0 0) = 21 ∧ (vp_in x1 (jN h1 (jR h1 250 r0 0)) ∧ (((jI h1 1000 (jR h1 250 r0 0) (Int32.toNatClampNeg x1)) = (-1) → Q (.int 0) h1) ∧ (¬ (jI h1 1000 (jR h1 250 r0 0) (Int32.toNatClampNeg x1)) = (-1) → Q (.int 1) h1)))))) v2)) : jj_C mX5_hasBranch 0 0 [.ref r0, .int x1] h Q := j_enter (by decide +kernel) (Nat.le_of_ble_eq_true rfl) rfl fun d => have H := H d; j_iload_n dX5_hasBranch_0 rfl 1 rfl (j_callSN0 (as := [.int x1]) cm_X9_isBranch sm_X9_isBranch ml_X5_21 ⟨by decide, by decide⟩ dX5_hasBranch_1 rfl rfl (Nat.le_of_ble_eq_true rfl) (jj_C.mono H (fun v2 h1 H4 => jj_vi_e (fun y3 H4 => j_if_eq (tgt := 21) dX5_hasBranch_4 (by decide) (fun c5 => j_iconst (v := 0) dX5_hasBranch_21 rfl (j_ret (v := .int 0) ⟨dX5_hasBranch_22, _, rfl, by decide⟩ rfl ((H4.1 c5)))) (fun c5 => j_aload_n dX5_hasBranch_7 rfl 0 rfl (j_getR (f := 250) cls_X5 0 (by decide) fl_X5_9 rfl rfl dX5_hasBranch_8 (H4.2 c5).1 (j_iload_n dX5_hasBranch_11 rfl 1 rfl (j_iald dX5_hasBranch_12 (H4.2 c5).2.1 (H4.2 c5).2.2.1 (j_iconst (v := (-1)) dX5_hasBranch_13 rfl (j_icmp_eq (tgt := 21) dX5_hasBranch_14 (by decide) (fun c6 => j_iconst (v := 0) dX5_hasBranch_21 rfl (j_ret (v := .int 0) ⟨dX5_hasBranch_22, _, rfl, by decide⟩ rfl (((H4.2 c5).2.2.2.1 c6)))) (fun c6 => j_iconst (v := 1) dX5_hasBranch_17 rfl (j_goto (tgt := 22) dX5_hasBranch_18 (by decide) (j_ret (v := .int 1) ⟨dX5_hasBranch_22, _, rfl, by decide⟩ rfl (((H4.2 c5).2.2.2.2 c6)))))))))))) H4)))
theorem dX5_takeAll_0 : decode cX5_takeAll 0 = .ok (.iconst 0, 1) := by decide +kernel
theorem dX5_takeAll_1 : decode cX5_takeAll 1 = .ok (.istore 4, 2) := by decide +kernel
theorem dX5_takeAll_3 : decode cX5_takeAll 3 = .ok (.iconst 0, 1) := by decide +kernel
theorem dX5_takeAll_4 : decode cX5_takeAll 4 = .ok (.istore 5, 2) := by decide +kernel
theorem dX5_takeAll_6 : decode cX5_takeAll 6 = .ok (.iload 5, 2) := by decide +kernel
theorem dX5_takeAll_8 : decode cX5_takeAll 8 = .ok (.aload_n 1, 1) := by decide +kernel
theorem dX5_takeAll_9 : decode cX5_takeAll 9 = .ok (.arraylength, 1) := by decide +kernel
theorem dX5_takeAll_10 : decode cX5_takeAll 10 = .ok (.if_icmp .ge 81, 3) := by decide +kernel
theorem dX5_takeAll_13 : decode cX5_takeAll 13 = .ok (.lload_n 2, 1) := by decide +kernel
theorem dX5_takeAll_14 : decode cX5_takeAll 14 = .ok (.aload_n 0, 1) := by decide +kernel
theorem dX5_takeAll_15 : decode cX5_takeAll 15 = .ok (.getfield 25, 3) := by decide +kernel
theorem dX5_takeAll_18 : decode cX5_takeAll 18 = .ok (.ldc2_w 29, 3) := by decide +kernel
theorem dX5_takeAll_21 : decode cX5_takeAll 21 = .ok (.lxor, 1) := by decide +kernel
theorem dX5_takeAll_22 : decode cX5_takeAll 22 = .ok (.land, 1) := by decide +kernel
theorem dX5_takeAll_23 : decode cX5_takeAll 23 = .ok (.iload 5, 2) := by decide +kernel
theorem dX5_takeAll_25 : decode cX5_takeAll 25 = .ok (.lushr, 1) := by decide +kernel
theorem dX5_takeAll_26 : decode cX5_takeAll 26 = .ok (.lconst 1, 1) := by decide +kernel
theorem dX5_takeAll_27 : decode cX5_takeAll 27 = .ok (.land, 1) := by decide +kernel
theorem dX5_takeAll_28 : decode cX5_takeAll 28 = .ok (.lconst 0, 1) := by decide +kernel
theorem dX5_takeAll_29 : decode cX5_takeAll 29 = .ok (.lcmp, 1) := by decide +kernel
theorem dX5_takeAll_30 : decode cX5_takeAll 30 = .ok (.ifCond .eq 7, 3) := by decide +kernel
theorem dX5_takeAll_33 : decode cX5_takeAll 33 = .ok (.iconst 1, 1) := by decide +kernel
theorem dX5_takeAll_34 : decode cX5_takeAll 34 = .ok (.goto 4, 3) := by decide +kernel
theorem dX5_takeAll_37 : decode cX5_takeAll 37 = .ok (.iconst 0, 1) := by decide +kernel
theorem dX5_takeAll_38 : decode cX5_takeAll 38 = .ok (.istore 6, 2) := by decide +kernel
theorem dX5_takeAll_40 : decode cX5_takeAll 40 = .ok (.iconst 0, 1) := by decide +kernel
theorem dX5_takeAll_41 : decode cX5_takeAll 41 = .ok (.istore 7, 2) := by decide +kernel
theorem dX5_takeAll_43 : decode cX5_takeAll 43 = .ok (.iload 6, 2) := by decide +kernel
theorem dX5_takeAll_45 : decode cX5_takeAll 45 = .ok (.ifCond .eq 40, 3) := by decide +kernel
theorem dX5_takeAll_48 : decode cX5_takeAll 48 = .ok (.aload_n 1, 1) := by decide +kernel
theorem dX5_takeAll_49 : decode cX5_takeAll 49 = .ok (.iload 5, 2) := by decide +kernel
theorem dX5_takeAll_51 : decode cX5_takeAll 51 = .ok (.aaload, 1) := by decide +kernel
theorem dX5_takeAll_52 : decode cX5_takeAll 52 = .ok (.ifnull 33, 3) := by decide +kernel
theorem dX5_takeAll_55 : decode cX5_takeAll 55 = .ok (.iload 7, 2) := by decide +kernel
theorem dX5_takeAll_57 : decode cX5_takeAll 57 = .ok (.iconst 3, 1) := by decide +kernel
theorem dX5_takeAll_58 : decode cX5_takeAll 58 = .ok (.if_icmp .ge 27, 3) := by decide +kernel
theorem dX5_takeAll_61 : decode cX5_takeAll 61 = .ok (.iload 4, 2) := by decide +kernel
theorem dX5_takeAll_63 : decode cX5_takeAll 63 = .ok (.aload_n 1, 1) := by decide +kernel
theorem dX5_takeAll_64 : decode cX5_takeAll 64 = .ok (.iload 5, 2) := by decide +kernel
theorem dX5_takeAll_66 : decode cX5_takeAll 66 = .ok (.aaload, 1) := by decide +kernel
theorem dX5_takeAll_67 : decode cX5_takeAll 67 = .ok (.getfield 31, 3) := by decide +kernel
theorem dX5_takeAll_70 : decode cX5_takeAll 70 = .ok (.iload 7, 2) := by decide +kernel
theorem dX5_takeAll_72 : decode cX5_takeAll 72 = .ok (.aaload, 1) := by decide +kernel
theorem dX5_takeAll_73 : decode cX5_takeAll 73 = .ok (.invokestatic 37, 3) := by decide +kernel
theorem dX5_takeAll_76 : decode cX5_takeAll 76 = .ok (.iadd, 1) := by decide +kernel
theorem dX5_takeAll_77 : decode cX5_takeAll 77 = .ok (.istore 4, 2) := by decide +kernel
theorem dX5_takeAll_79 : decode cX5_takeAll 79 = .ok (.iinc 7 1, 3) := by decide +kernel
theorem dX5_takeAll_82 : decode cX5_takeAll 82 = .ok (.goto (-39), 3) := by decide +kernel
theorem dX5_takeAll_85 : decode cX5_takeAll 85 = .ok (.iinc 5 1, 3) := by decide +kernel
theorem dX5_takeAll_88 : decode cX5_takeAll 88 = .ok (.goto (-82), 3) := by decide +kernel
theorem dX5_takeAll_91 : decode cX5_takeAll 91 = .ok (.aload_n 0, 1) := by decide +kernel
theorem dX5_takeAll_92 : decode cX5_takeAll 92 = .ok (.dup, 1) := by decide +kernel
theorem dX5_takeAll_93 : decode cX5_takeAll 93 = .ok (.getfield 25, 3) := by decide +kernel
theorem dX5_takeAll_96 : decode cX5_takeAll 96 = .ok (.lload_n 2, 1) := by decide +kernel
theorem dX5_takeAll_97 : decode cX5_takeAll 97 = .ok (.lor, 1) := by decide +kernel
theorem dX5_takeAll_98 : decode cX5_takeAll 98 = .ok (.putfield 25, 3) := by decide +kernel
theorem dX5_takeAll_101 : decode cX5_takeAll 101 = .ok (.aload_n 0, 1) := by decide +kernel
theorem dX5_takeAll_102 : decode cX5_takeAll 102 = .ok (.dup, 1) := by decide +kernel
theorem dX5_takeAll_103 : decode cX5_takeAll 103 = .ok (.getfield 41, 3) := by decide +kernel
theorem dX5_takeAll_106 : decode cX5_takeAll 106 = .ok (.iload 4, 2) := by decide +kernel
theorem dX5_takeAll_108 : decode cX5_takeAll 108 = .ok (.iadd, 1) := by decide +kernel
theorem dX5_takeAll_109 : decode cX5_takeAll 109 = .ok (.putfield 41, 3) := by decide +kernel
theorem dX5_takeAll_112 : decode cX5_takeAll 112 = .ok (.iload 4, 2) := by decide +kernel
theorem dX5_takeAll_114 : decode cX5_takeAll 114 = .ok (.ireturn, 1) := by decide +kernel
theorem EX5_takeAll {h : jj_H} {Q : Value → jj_H → Prop} (r0 : Nat) (r1 : Nat) (l2 : Int64) (H : ∀ d : jj_D, jj_WP d mX5_takeAll 0 0 6 [(0, .ref r0), (1, .ref r1), (2, .long l2), (4, .int 0), (5, .int 0)] [] h Q) : jj_C mX5_takeAll 0 0 [.ref r0, .ref r1, .long l2] h Q := j_enter (by decide +kernel) (Nat.le_of_ble_eq_true rfl) rfl fun d => have H := H d; j_iconst (v := 0) dX5_takeAll_0 rfl (j_istore (L' := [(4, .int 0), (0, .ref r0), (1, .ref r1), (2, .long l2)]) dX5_takeAll_1 (by decide) rfl (j_iconst (v := 0) dX5_takeAll_3 rfl (j_istore (L' := [(5, .int 0), (4, .int 0), (0, .ref r0), (1, .ref r1), (2, .long l2)]) dX5_takeAll_4 (by decide) rfl (j_sub [2, 3, 4, 1, 0] rfl (H)))))
theorem VX5_takeAll_6 {d : jj_D} {h : jj_H} {Q : Value → jj_H → Prop} (r0 : Nat) (r1 : Nat) (l2 : Int64) (x4 : Int32) (x5 : Int32) (H : jK h r1 = 24 ∧ (((nI (jN h r1)) ≤ x5 → jK h r0 = 6 ∧ (∀ h2, h2 = wL h 251 r0 0 ((jL h 251 r0 0) ||| l2) → (∀ h3, h3 = wI h2 252 r0 0 ((jI h2 252 r0 0) + x4) → (Q (.int x4) h3)))) ∧ (¬ (nI (jN h r1)) ≤ x5 → jK h r0 = 6 ∧ ((((Int64.toUInt64 (l2 &&& ((jL h 251 r0 0) ^^^ (-1))) >>> ((Int32.toInt64 x5).toUInt64 &&& Int64.toUInt64 63)).toInt64 &&& 1) = 0 → jj_WP d mX5_takeAll 0 0 43 [(0, .ref r0), (1, .ref r1), (2, .long l2), (4, .int x4), (5, .int x5), (6, .int 0), (7, .int 0)] [] h Q) ∧ (¬ ((Int64.toUInt64 (l2 &&& ((jL h 251 r0 0) ^^^ (-1))) >>> ((Int32.toInt64 x5).toUInt64 &&& Int64.toUInt64 63)).toInt64 &&& 1) = 0 → jj_WP d mX5_takeAll 0 0 43 [(0, .ref r0), (1, .ref r1), (2, .long l2), (4, .int x4), (5, .int x5), (6, .int 1), (7, .int 0)] [] h Q))))) : jj_WP d mX5_takeAll 0 0 6 [(0, .ref r0), (1, .ref r1), (2, .long l2), (4, .int x4), (5, .int x5)] [] h Q := j_iload dX5_takeAll_6 4 rfl (j_aload_n dX5_takeAll_8 rfl 1 rfl (j_alenC dX5_takeAll_9 H.1 (j_icmp_ge (tgt := 91) dX5_takeAll_10 (by decide) (fun c1 => j_aload_n dX5_takeAll_91 rfl 0 rfl (j_dup dX5_takeAll_92 rfl (j_getL (f := 251) cls_X5 1 (by decide) fl_X5_25 rfl rfl dX5_takeAll_93 (H.2.1 c1).1 (j_lload_n dX5_takeAll_96 rfl 2 rfl (j_lor dX5_takeAll_97 (j_putL (f := 251) cls_X5 1 (by decide) fl_X5_25 rfl rfl rfl (Or.inl rfl) dX5_takeAll_98 (H.2.1 c1).1 (j_aload_n dX5_takeAll_101 rfl 0 rfl (j_dup dX5_takeAll_102 rfl (j_getI (f := 252) cls_X5 2 (by decide) fl_X5_41 rfl (by decide) dX5_takeAll_103 (H.2.1 c1).1 (j_iload dX5_takeAll_106 3 rfl (j_iadd dX5_takeAll_108 (j_putI (f := 252) cls_X5 2 (by decide) fl_X5_41 rfl rfl rfl (Or.inl rfl) dX5_takeAll_109 (H.2.1 c1).1 (j_iload dX5_takeAll_112 3 rfl (j_ret (v := .int x4) ⟨dX5_takeAll_114, _, rfl⟩ rfl ((((H.2.1 c1).2 _ rfl) _ rfl)))))))))))))))) (fun c1 => j_lload_n dX5_takeAll_13 rfl 2 rfl (j_aload_n dX5_takeAll_14 rfl 0 rfl (j_getL (f := 251) cls_X5 1 (by decide) fl_X5_25 rfl rfl dX5_takeAll_15 (H.2.2 c1).1 (j_ldc2 (v := (-1)) dX5_takeAll_18 kc_X5_29 (j_lxor dX5_takeAll_21 (j_land dX5_takeAll_22 (j_iload dX5_takeAll_23 4 rfl (j_lushr dX5_takeAll_25 (j_lconst (v := 1) dX5_takeAll_26 rfl (j_land dX5_takeAll_27 (j_lconst (v := 0) dX5_takeAll_28 rfl (j_lcmp dX5_takeAll_29 (j_if_eq (tgt := 37) dX5_takeAll_30 (by decide) (fun c4 => j_iconst (v := 0) dX5_takeAll_37 rfl (j_istore (L' := [(6, .int 0), (0, .ref r0), (1, .ref r1), (2, .long l2), (4, .int x4), (5, .int x5)]) dX5_takeAll_38 (by decide) rfl (j_iconst (v := 0) dX5_takeAll_40 rfl (j_istore (L' := [(7, .int 0), (6, .int 0), (0, .ref r0), (1, .ref r1), (2, .long l2), (4, .int x4), (5, .int x5)]) dX5_takeAll_41 (by decide) rfl (j_sub [2, 3, 4, 5, 6, 1, 0] rfl (((H.2.2 c1).2.1 ((lg_cmp_eq _ _).mp c4)))))))) (fun c4 => j_iconst (v := 1) dX5_takeAll_33 rfl (j_goto (tgt := 38) dX5_takeAll_34 (by decide) (j_istore (L' := [(6, .int 1), (0, .ref r0), (1, .ref r1), (2, .long l2), (4, .int x4), (5, .int x5)]) dX5_takeAll_38 (by decide) rfl (j_iconst (v := 0) dX5_takeAll_40 rfl (j_istore (L' := [(7, .int 0), (6, .int 1), (0, .ref r0), (1, .ref r1), (2, .long l2), (4, .int x4), (5, .int x5)]) dX5_takeAll_41 (by decide) rfl (j_sub [2, 3, 4, 5, 6, 1, 0] rfl (((H.2.2 c1).2.2 (fun z => c4 ((lg_cmp_eq _ _).mpr z))))))))))))))))))))))))))
theorem VX5_takeAll_43 {d : jj_D} {h : jj_H} {Q : Value → jj_H → Prop} (r0 : Nat) (r1 : Nat) (l2 : Int64) (x4 : Int32) (x5 : Int32) (x6 : Int32) (x7 : Int32) (H : (x6 = 0 → jj_WP d mX5_takeAll 0 0 6 [(0, .ref r0), (1, .ref r1), (2, .long l2), (4, .int x4), (5, .int (x5 + 1))] [] h Q) ∧ (¬ x6 = 0 → jK h r1 = 24 ∧ (vp_in x5 (jN h r1) ∧ (((jR h 1000 r1 (Int32.toNatClampNeg x5)) = 0 → jj_WP d mX5_takeAll 0 0 6 [(0, .ref r0), (1, .ref r1), (2, .long l2), (4, .int x4), (5, .int (x5 + 1))] [] h Q) ∧ (¬ (jR h 1000 r1 (Int32.toNatClampNeg x5)) = 0 → (3 ≤ x7 → jj_WP d mX5_takeAll 0 0 6 [(0, .ref r0), (1, .ref r1), (2, .long l2), (4, .int x4), (5, .int (x5 + 1))] [] h Q) ∧ (¬ 3 ≤ x7 → jK h (jR h 1000 r1 (Int32.toNatClampNeg x5)) = 1 ∧ (jK h (jR h 3 (jR h 1000 r1 (Int32.toNatClampNeg x5)) 0) = 27 ∧ (vp_in x7 (jN h (jR h 3 (jR h 1000 r1 (Int32.toNatClampNeg x5)) 0)) ∧ (jj_C mX5_takeNodes 0 0 [.ref (jR h 1000 (jR h 3 (jR h 1000 r1 (Int32.toNatClampNeg x5)) 0) (Int32.toNatClampNeg x7))] h (fun v5 h4 => jj_vi (fun y6 => jj_WP d mX5_takeAll 0 0 43 [(0, .ref r0), (1, .ref r1), (2, .long l2), (4, .int (x4 + y6)), (5, .int x5), (6, .int x6), (7, .int (x7 + 1))] [] h4 Q) v5)))))))))) : jj_WP d mX5_takeAll 0 0 43 [(0, .ref r0), (1, .ref r1), (2, .long l2), (4, .int x4), (5, .int x5), (6, .int x6), (7, .int x7)] [] h Q := j_iload dX5_takeAll_43 5 rfl (j_if_eq (tgt := 85) dX5_takeAll_45 (by decide) (fun c1 => j_iinc (v := (x5 + 1)) (L' := [(5, .int (x5 + 1)), (0, .ref r0), (1, .ref r1), (2, .long l2), (4, .int x4), (6, .int x6), (7, .int x7)]) dX5_takeAll_85 4 rfl rfl (by decide) rfl (j_goto (tgt := 6) dX5_takeAll_88 (by decide) (j_sub [1, 2, 3, 4, 0] rfl ((H.1 c1))))) (fun c1 => j_aload_n dX5_takeAll_48 rfl 1 rfl (j_iload dX5_takeAll_49 4 rfl (j_aaldC dX5_takeAll_51 (H.2 c1).1 (H.2 c1).2.1 (j_ifnull (tgt := 85) dX5_takeAll_52 (by decide) (fun c2 => j_iinc (v := (x5 + 1)) (L' := [(5, .int (x5 + 1)), (0, .ref r0), (1, .ref r1), (2, .long l2), (4, .int x4), (6, .int x6), (7, .int x7)]) dX5_takeAll_85 4 rfl rfl (by decide) rfl (j_goto (tgt := 6) dX5_takeAll_88 (by decide) (j_sub [1, 2, 3, 4, 0] rfl (((H.2 c1).2.2.1 c2))))) (fun c2 => j_iload dX5_takeAll_55 6 rfl (j_iconst (v := 3) dX5_takeAll_57 rfl (j_icmp_ge (tgt := 85) dX5_takeAll_58 (by decide) (fun c3 => j_iinc (v := (x5 + 1)) (L' := [(5, .int (x5 + 1)), (0, .ref r0), (1, .ref r1), (2, .long l2), (4, .int x4), (6, .int x6), (7, .int x7)]) dX5_takeAll_85 4 rfl rfl (by decide) rfl (j_goto (tgt := 6) dX5_takeAll_88 (by decide) (j_sub [1, 2, 3, 4, 0] rfl ((((H.2 c1).2.2.2 c2).1 c3))))) (fun c3 => j_iload dX5_takeAll_61 3 rfl (j_aload_n dX5_takeAll_63 rfl 1 rfl (j_iload dX5_takeAll_64 4 rfl (j_aaldC dX5_takeAll_66 (H.2 c1).1 (H.2 c1).2.1 (j_getR (f := 3) cls_X0 3 (by decide) fl_X5_31 rfl rfl dX5_takeAll_67 (((H.2 c1).2.2.2 c2).2 c3).1 (j_iload dX5_takeAll_70 6 rfl (j_aaldT dX5_takeAll_72 (((H.2 c1).2.2.2 c2).2 c3).2.1 (((H.2 c1).2.2.2 c2).2 c3).2.2.1 (j_callS0 (as := [.ref (jR h 1000 (jR h 3 (jR h 1000 r1 (Int32.toNatClampNeg x5)) 0) (Int32.toNatClampNeg x7))]) cm_X5_takeNodes sm_X5_takeNodes ml_X5_37 ⟨by decide, by decide⟩ dX5_takeAll_73 rfl rfl (Nat.le_of_ble_eq_true rfl) (jj_C.mono (((H.2 c1).2.2.2 c2).2 c3).2.2.2 (fun v5 h4 H7 => jj_vi_e (fun y6 H7 => j_iadd dX5_takeAll_76 (j_istore (L' := [(4, .int (x4 + y6)), (0, .ref r0), (1, .ref r1), (2, .long l2), (5, .int x5), (6, .int x6), (7, .int x7)]) dX5_takeAll_77 (by decide) rfl (j_iinc (v := (x7 + 1)) (L' := [(7, .int (x7 + 1)), (4, .int (x4 + y6)), (0, .ref r0), (1, .ref r1), (2, .long l2), (5, .int x5), (6, .int x6)]) dX5_takeAll_79 6 rfl rfl (by decide) rfl (j_goto (tgt := 43) dX5_takeAll_82 (by decide) (j_sub [2, 3, 4, 1, 5, 6, 0] rfl (H7)))))) H7))))))))))))))))))
theorem dX5_takeNodes_0 : decode cX5_takeNodes 0 = .ok (.iconst 0, 1) := by decide +kernel
theorem dX5_takeNodes_1 : decode cX5_takeNodes 1 = .ok (.istore_n 1, 1) := by decide +kernel
theorem dX5_takeNodes_2 : decode cX5_takeNodes 2 = .ok (.iconst 0, 1) := by decide +kernel
theorem dX5_takeNodes_3 : decode cX5_takeNodes 3 = .ok (.istore_n 2, 1) := by decide +kernel
theorem dX5_takeNodes_4 : decode cX5_takeNodes 4 = .ok (.iload_n 2, 1) := by decide +kernel
theorem dX5_takeNodes_5 : decode cX5_takeNodes 5 = .ok (.aload_n 0, 1) := by decide +kernel
theorem dX5_takeNodes_6 : decode cX5_takeNodes 6 = .ok (.invokevirtual 45, 3) := by decide +kernel
theorem dX5_takeNodes_9 : decode cX5_takeNodes 9 = .ok (.if_icmp .ge 34, 3) := by decide +kernel
theorem dX5_takeNodes_12 : decode cX5_takeNodes 12 = .ok (.aload_n 0, 1) := by decide +kernel
theorem dX5_takeNodes_13 : decode cX5_takeNodes 13 = .ok (.getfield 51, 3) := by decide +kernel
theorem dX5_takeNodes_16 : decode cX5_takeNodes 16 = .ok (.iload_n 2, 1) := by decide +kernel
theorem dX5_takeNodes_17 : decode cX5_takeNodes 17 = .ok (.aaload, 1) := by decide +kernel
theorem dX5_takeNodes_18 : decode cX5_takeNodes 18 = .ok (.getfield 55, 3) := by decide +kernel
theorem dX5_takeNodes_21 : decode cX5_takeNodes 21 = .ok (.ifCond .ne 16, 3) := by decide +kernel
theorem dX5_takeNodes_24 : decode cX5_takeNodes 24 = .ok (.aload_n 0, 1) := by decide +kernel
theorem dX5_takeNodes_25 : decode cX5_takeNodes 25 = .ok (.getfield 51, 3) := by decide +kernel
theorem dX5_takeNodes_28 : decode cX5_takeNodes 28 = .ok (.iload_n 2, 1) := by decide +kernel
theorem dX5_takeNodes_29 : decode cX5_takeNodes 29 = .ok (.aaload, 1) := by decide +kernel
theorem dX5_takeNodes_30 : decode cX5_takeNodes 30 = .ok (.iconst 1, 1) := by decide +kernel
theorem dX5_takeNodes_31 : decode cX5_takeNodes 31 = .ok (.putfield 55, 3) := by decide +kernel
theorem dX5_takeNodes_34 : decode cX5_takeNodes 34 = .ok (.iinc 1 1, 3) := by decide +kernel
theorem dX5_takeNodes_37 : decode cX5_takeNodes 37 = .ok (.iinc 2 1, 3) := by decide +kernel
theorem dX5_takeNodes_40 : decode cX5_takeNodes 40 = .ok (.goto (-36), 3) := by decide +kernel
theorem dX5_takeNodes_43 : decode cX5_takeNodes 43 = .ok (.iload_n 1, 1) := by decide +kernel
theorem dX5_takeNodes_44 : decode cX5_takeNodes 44 = .ok (.ireturn, 1) := by decide +kernel
theorem EX5_takeNodes {h : jj_H} {Q : Value → jj_H → Prop} (r0 : Nat) (H : ∀ d : jj_D, jj_WP d mX5_takeNodes 0 0 4 [(0, .ref r0), (1, .int 0), (2, .int 0)] [] h Q) : jj_C mX5_takeNodes 0 0 [.ref r0] h Q := j_enter (by decide +kernel) (Nat.le_of_ble_eq_true rfl) rfl fun d => have H := H d; j_iconst (v := 0) dX5_takeNodes_0 rfl (j_istore_n (L' := [(1, .int 0), (0, .ref r0)]) dX5_takeNodes_1 rfl (by decide) rfl (j_iconst (v := 0) dX5_takeNodes_2 rfl (j_istore_n (L' := [(2, .int 0), (1, .int 0), (0, .ref r0)]) dX5_takeNodes_3 rfl (by decide) rfl (j_sub [2, 1, 0] rfl (H)))))
theorem VX5_takeNodes_4 {d : jj_D} {h : jj_H} {Q : Value → jj_H → Prop} (r0 : Nat) (x1 : Int32) (x2 : Int32) (H : jK h r0 = 8 ∧ (jj_C mX7_nodesInAll 0 0 [.ref r0] h (fun v2 h1 => jj_vi (fun y3 => (y3 ≤ x2 → Q (.int x1) h1) ∧ (¬ y3 ≤ x2 → jK h1 r0 = 8 ∧ (jK h1 (jR h1 351 r0 0) = 25 ∧ (vp_in x2 (jN h1 (jR h1 351 r0 0)) ∧ (jK h1 (jR h1 1000 (jR h1 351 r0 0) (Int32.toNatClampNeg x2)) = 4 ∧ ((¬ (jI h1 158 (jR h1 1000 (jR h1 351 r0 0) (Int32.toNatClampNeg x2)) 0) = 0 → jj_WP d mX5_takeNodes 0 0 4 [(0, .ref r0), (1, .int x1), (2, .int (x2 + 1))] [] h1 Q) ∧ ((jI h1 158 (jR h1 1000 (jR h1 351 r0 0) (Int32.toNatClampNeg x2)) 0) = 0 → ∀ h7, h7 = wI h1 158 (jR h1 1000 (jR h1 351 r0 0) (Int32.toNatClampNeg x2)) 0 1 → (jj_WP d mX5_takeNodes 0 0 4 [(0, .ref r0), (1, .int (x1 + 1)), (2, .int (x2 + 1))] [] h7 Q)))))))) v2))) : jj_WP d mX5_takeNodes 0 0 4 [(0, .ref r0), (1, .int x1), (2, .int x2)] [] h Q := j_iload_n dX5_takeNodes_4 rfl 2 rfl (j_aload_n dX5_takeNodes_5 rfl 0 rfl (j_callV0 (as := []) cm_X7_nodesInAll im_X7_nodesInAll se_X7_nodesInAll (ci := 7) rfl (by decide) ml_X5_45 ⟨by decide, by decide⟩ dX5_takeNodes_6 rfl rfl (Nat.le_of_ble_eq_true rfl) H.1 (jj_C.mono H.2 (fun v2 h1 H4 => jj_vi_e (fun y3 H4 => j_icmp_ge (tgt := 43) dX5_takeNodes_9 (by decide) (fun c5 => j_iload_n dX5_takeNodes_43 rfl 1 rfl (j_ret (v := .int x1) ⟨dX5_takeNodes_44, _, rfl⟩ rfl ((H4.1 c5)))) (fun c5 => j_aload_n dX5_takeNodes_12 rfl 0 rfl (j_getR (f := 351) cls_X7 1 (by decide) fl_X5_51 rfl rfl dX5_takeNodes_13 (H4.2 c5).1 (j_iload_n dX5_takeNodes_16 rfl 2 rfl (j_aaldN dX5_takeNodes_17 (H4.2 c5).2.1 (H4.2 c5).2.2.1 (j_getI (f := 158) cls_X3 8 (by decide) fl_X5_55 rfl (by decide) dX5_takeNodes_18 (H4.2 c5).2.2.2.1 (j_if_ne (tgt := 37) dX5_takeNodes_21 (by decide) (fun c6 => j_iinc (v := (x2 + 1)) (L' := [(2, .int (x2 + 1)), (0, .ref r0), (1, .int x1)]) dX5_takeNodes_37 2 rfl rfl (by decide) rfl (j_goto (tgt := 4) dX5_takeNodes_40 (by decide) (j_sub [1, 2, 0] rfl (((H4.2 c5).2.2.2.2.1 c6))))) (fun c6 => j_aload_n dX5_takeNodes_24 rfl 0 rfl (j_getR (f := 351) cls_X7 1 (by decide) fl_X5_51 rfl rfl dX5_takeNodes_25 (H4.2 c5).1 (j_iload_n dX5_takeNodes_28 rfl 2 rfl (j_aaldN dX5_takeNodes_29 (H4.2 c5).2.1 (H4.2 c5).2.2.1 (j_iconst (v := 1) dX5_takeNodes_30 rfl (j_putZ (f := 158) cls_X3 8 (by decide) fl_X5_55 rfl rfl ⟨rfl, by decide⟩ (Or.inl rfl) dX5_takeNodes_31 (H4.2 c5).2.2.2.1 (j_iinc (v := (x1 + 1)) (L' := [(1, .int (x1 + 1)), (0, .ref r0), (2, .int x2)]) dX5_takeNodes_34 1 rfl rfl (by decide) rfl (j_iinc (v := (x2 + 1)) (L' := [(2, .int (x2 + 1)), (1, .int (x1 + 1)), (0, .ref r0)]) dX5_takeNodes_37 2 rfl rfl (by decide) rfl (j_goto (tgt := 4) dX5_takeNodes_40 (by decide) (j_sub [2, 1, 0] rfl ((((H4.2 c5).2.2.2.2.2 c6) _ rfl))))))))))))))))))) H4))))
theorem dX6_init_0 : decode cX6_init 0 = .ok (.aload_n 0, 1) := by decide +kernel
theorem dX6_init_1 : decode cX6_init 1 = .ok (.invokespecial 3, 3) := by decide +kernel
theorem dX6_init_4 : decode cX6_init 4 = .ok (.aload_n 0, 1) := by decide +kernel
theorem dX6_init_5 : decode cX6_init 5 = .ok (.iconst 4, 1) := by decide +kernel
theorem dX6_init_6 : decode cX6_init 6 = .ok (.iconst 0, 1) := by decide +kernel
theorem dX6_init_7 : decode cX6_init 7 = .ok (.iload_n 1, 1) := by decide +kernel
theorem dX6_init_8 : decode cX6_init 8 = .ok (.invokestatic 9, 3) := by decide +kernel
theorem dX6_init_11 : decode cX6_init 11 = .ok (.imul, 1) := by decide +kernel
theorem dX6_init_12 : decode cX6_init 12 = .ok (.newarray .int, 2) := by decide +kernel
theorem dX6_init_14 : decode cX6_init 14 = .ok (.putfield 15, 3) := by decide +kernel
theorem dX6_init_17 : decode cX6_init 17 = .ok (.return_, 1) := by decide +kernel
theorem EX6_init {bc bs : Nat} {h : jj_H} {Q : Value → jj_H → Prop} (r0 : Nat) (x1 : Int32) (H : ∀ d : jj_D, r0 ≠ 0 ∧ (1 ≤ bc ∧ (Int32.toNatClampNeg (4 * (if (0 : Int32) < x1 then x1 else 0))) ≤ bs ∧ ¬ (4 * (if (0 : Int32) < x1 then x1 else 0)) < 0 ∧ (Int32.toNatClampNeg (4 * (if (0 : Int32) < x1 then x1 else 0))) ≤ 67108864 ∧ (∀ h1, h1 = wA h 21 (Int32.toNatClampNeg (4 * (if (0 : Int32) < x1 then x1 else 0))) → (jK h1 r0 = 7 ∧ (∀ h2, h2 = wR h1 300 r0 0 (jZ h + 1) → (Q (.int 0) h2)))))) : jj_C mX6_init bc bs [.ref r0, .int x1] h Q := j_enter (by decide +kernel) (Nat.le_of_ble_eq_true rfl) rfl fun d => have H := H d; j_aload_n dX6_init_0 rfl 0 rfl (j_objInit ml_X6_3 im_Object co_Object dX6_init_1 (Nat.le_of_ble_eq_true rfl) (by decide) (by decide) H.1 (j_aload_n dX6_init_4 rfl 0 rfl (j_iconst (v := 4) dX6_init_5 rfl (j_iconst (v := 0) dX6_init_6 rfl (j_iload_n dX6_init_7 rfl 1 rfl (j_mmax ml_max_X6_9 sm_max it_Math co_max (by decide) (by decide) dX6_init_8 (Nat.le_of_ble_eq_true rfl) (j_imul dX6_init_11 (jj_bud (cj := 1) (sj := (Int32.toNatClampNeg (4 * (if (0 : Int32) < x1 then x1 else 0)))) H.2.1 H.2.2.1 (j_newI (bc := (bc - 1)) (bs := (bs - (Int32.toNatClampNeg (4 * (if (0 : Int32) < x1 then x1 else 0))))) (N := (Int32.toNatClampNeg (4 * (if (0 : Int32) < x1 then x1 else 0)))) ac_int dX6_init_12 H.2.2.2.1 rfl (Nat.le_trans H.2.2.2.2.1 (by decide)) (j_putR (f := 300) cls_X6 0 (by decide) fl_X6_15 rfl rfl (Or.inr ⟨_, rfl⟩) (Or.inr ⟨rfl, rfl, rfl⟩) dX6_init_14 (H.2.2.2.2.2 _ rfl).1 (j_ret (v := .int 0) dX6_init_17 rfl (((H.2.2.2.2.2 _ rfl).2 _ rfl)))))))))))))
theorem dX6_keyAt_0 : decode cX6_keyAt 0 = .ok (.iload_n 1, 1) := by decide +kernel
theorem dX6_keyAt_1 : decode cX6_keyAt 1 = .ok (.ifCond .lt 23, 3) := by decide +kernel
theorem dX6_keyAt_4 : decode cX6_keyAt 4 = .ok (.iload_n 1, 1) := by decide +kernel
theorem dX6_keyAt_5 : decode cX6_keyAt 5 = .ok (.aload_n 0, 1) := by decide +kernel
theorem dX6_keyAt_6 : decode cX6_keyAt 6 = .ok (.getfield 21, 3) := by decide +kernel
theorem dX6_keyAt_9 : decode cX6_keyAt 9 = .ok (.if_icmp .ge 15, 3) := by decide +kernel
theorem dX6_keyAt_12 : decode cX6_keyAt 12 = .ok (.aload_n 0, 1) := by decide +kernel
theorem dX6_keyAt_13 : decode cX6_keyAt 13 = .ok (.getfield 15, 3) := by decide +kernel
theorem dX6_keyAt_16 : decode cX6_keyAt 16 = .ok (.iconst 4, 1) := by decide +kernel
theorem dX6_keyAt_17 : decode cX6_keyAt 17 = .ok (.iload_n 1, 1) := by decide +kernel
theorem dX6_keyAt_18 : decode cX6_keyAt 18 = .ok (.imul, 1) := by decide +kernel
theorem dX6_keyAt_19 : decode cX6_keyAt 19 = .ok (.iaload, 1) := by decide +kernel
theorem dX6_keyAt_20 : decode cX6_keyAt 20 = .ok (.i2l, 1) := by decide +kernel
theorem dX6_keyAt_21 : decode cX6_keyAt 21 = .ok (.goto 6, 3) := by decide +kernel
theorem dX6_keyAt_24 : decode cX6_keyAt 24 = .ok (.ldc2_w 25, 3) := by decide +kernel
theorem dX6_keyAt_27 : decode cX6_keyAt 27 = .ok (.lreturn, 1) := by decide +kernel
theorem EX6_keyAt {h : jj_H} {Q : Value → jj_H → Prop} (r0 : Nat) (x1 : Int32) (H : ∀ d : jj_D, (x1 < 0 → Q (.long 4294967296) h) ∧ (¬ x1 < 0 → jK h r0 = 7 ∧ (((jI h 301 r0 0) ≤ x1 → Q (.long 4294967296) h) ∧ (¬ (jI h 301 r0 0) ≤ x1 → jK h (jR h 300 r0 0) = 21 ∧ (vp_in (4 * x1) (jN h (jR h 300 r0 0)) ∧ (Q (.long (Int32.toInt64 (jI h 1000 (jR h 300 r0 0) (Int32.toNatClampNeg (4 * x1))))) h)))))) : jj_C mX6_keyAt 0 0 [.ref r0, .int x1] h Q := j_enter (by decide +kernel) (Nat.le_of_ble_eq_true rfl) rfl fun d => have H := H d; j_iload_n dX6_keyAt_0 rfl 1 rfl (j_if_lt (tgt := 24) dX6_keyAt_1 (by decide) (fun c1 => j_ldc2 (v := 4294967296) dX6_keyAt_24 kc_X6_25 (j_ret (v := .long 4294967296) ⟨dX6_keyAt_27, _, rfl⟩ rfl ((H.1 c1)))) (fun c1 => j_iload_n dX6_keyAt_4 rfl 1 rfl (j_aload_n dX6_keyAt_5 rfl 0 rfl (j_getI (f := 301) cls_X6 1 (by decide) fl_X6_21 rfl (by decide) dX6_keyAt_6 (H.2 c1).1 (j_icmp_ge (tgt := 24) dX6_keyAt_9 (by decide) (fun c2 => j_ldc2 (v := 4294967296) dX6_keyAt_24 kc_X6_25 (j_ret (v := .long 4294967296) ⟨dX6_keyAt_27, _, rfl⟩ rfl (((H.2 c1).2.1 c2)))) (fun c2 => j_aload_n dX6_keyAt_12 rfl 0 rfl (j_getR (f := 300) cls_X6 0 (by decide) fl_X6_15 rfl rfl dX6_keyAt_13 (H.2 c1).1 (j_iconst (v := 4) dX6_keyAt_16 rfl (j_iload_n dX6_keyAt_17 rfl 1 rfl (j_imul dX6_keyAt_18 (j_iald dX6_keyAt_19 ((H.2 c1).2.2 c2).1 ((H.2 c1).2.2 c2).2.1 (j_i2l dX6_keyAt_20 (j_goto (tgt := 27) dX6_keyAt_21 (by decide) (j_ret (v := .long (Int32.toInt64 (jI h 1000 (jR h 300 r0 0) (Int32.toNatClampNeg (4 * x1))))) ⟨dX6_keyAt_27, _, rfl⟩ rfl (((H.2 c1).2.2 c2).2.2)))))))))))))))
theorem dX6_placeOf_0 : decode cX6_placeOf 0 = .ok (.iconst 0, 1) := by decide +kernel
theorem dX6_placeOf_1 : decode cX6_placeOf 1 = .ok (.istore_n 2, 1) := by decide +kernel
theorem dX6_placeOf_2 : decode cX6_placeOf 2 = .ok (.sipush 128, 3) := by decide +kernel
theorem dX6_placeOf_5 : decode cX6_placeOf 5 = .ok (.istore_n 3, 1) := by decide +kernel
theorem dX6_placeOf_6 : decode cX6_placeOf 6 = .ok (.iload_n 3, 1) := by decide +kernel
theorem dX6_placeOf_7 : decode cX6_placeOf 7 = .ok (.ifCond .le 40, 3) := by decide +kernel
theorem dX6_placeOf_10 : decode cX6_placeOf 10 = .ok (.iload_n 2, 1) := by decide +kernel
theorem dX6_placeOf_11 : decode cX6_placeOf 11 = .ok (.iload_n 3, 1) := by decide +kernel
theorem dX6_placeOf_12 : decode cX6_placeOf 12 = .ok (.iadd, 1) := by decide +kernel
theorem dX6_placeOf_13 : decode cX6_placeOf 13 = .ok (.aload_n 0, 1) := by decide +kernel
theorem dX6_placeOf_14 : decode cX6_placeOf 14 = .ok (.getfield 21, 3) := by decide +kernel
theorem dX6_placeOf_17 : decode cX6_placeOf 17 = .ok (.if_icmp .gt 23, 3) := by decide +kernel
theorem dX6_placeOf_20 : decode cX6_placeOf 20 = .ok (.aload_n 0, 1) := by decide +kernel
theorem dX6_placeOf_21 : decode cX6_placeOf 21 = .ok (.getfield 15, 3) := by decide +kernel
theorem dX6_placeOf_24 : decode cX6_placeOf 24 = .ok (.iconst 4, 1) := by decide +kernel
theorem dX6_placeOf_25 : decode cX6_placeOf 25 = .ok (.iload_n 2, 1) := by decide +kernel
theorem dX6_placeOf_26 : decode cX6_placeOf 26 = .ok (.iload_n 3, 1) := by decide +kernel
theorem dX6_placeOf_27 : decode cX6_placeOf 27 = .ok (.iadd, 1) := by decide +kernel
theorem dX6_placeOf_28 : decode cX6_placeOf 28 = .ok (.iconst 1, 1) := by decide +kernel
theorem dX6_placeOf_29 : decode cX6_placeOf 29 = .ok (.isub, 1) := by decide +kernel
theorem dX6_placeOf_30 : decode cX6_placeOf 30 = .ok (.imul, 1) := by decide +kernel
theorem dX6_placeOf_31 : decode cX6_placeOf 31 = .ok (.iaload, 1) := by decide +kernel
theorem dX6_placeOf_32 : decode cX6_placeOf 32 = .ok (.iload_n 1, 1) := by decide +kernel
theorem dX6_placeOf_33 : decode cX6_placeOf 33 = .ok (.if_icmp .ge 7, 3) := by decide +kernel
theorem dX6_placeOf_36 : decode cX6_placeOf 36 = .ok (.iload_n 2, 1) := by decide +kernel
theorem dX6_placeOf_37 : decode cX6_placeOf 37 = .ok (.iload_n 3, 1) := by decide +kernel
theorem dX6_placeOf_38 : decode cX6_placeOf 38 = .ok (.iadd, 1) := by decide +kernel
theorem dX6_placeOf_39 : decode cX6_placeOf 39 = .ok (.istore_n 2, 1) := by decide +kernel
theorem dX6_placeOf_40 : decode cX6_placeOf 40 = .ok (.iload_n 3, 1) := by decide +kernel
theorem dX6_placeOf_41 : decode cX6_placeOf 41 = .ok (.iconst 1, 1) := by decide +kernel
theorem dX6_placeOf_42 : decode cX6_placeOf 42 = .ok (.ishr, 1) := by decide +kernel
theorem dX6_placeOf_43 : decode cX6_placeOf 43 = .ok (.istore_n 3, 1) := by decide +kernel
theorem dX6_placeOf_44 : decode cX6_placeOf 44 = .ok (.goto (-38), 3) := by decide +kernel
theorem dX6_placeOf_47 : decode cX6_placeOf 47 = .ok (.iload_n 2, 1) := by decide +kernel
theorem dX6_placeOf_48 : decode cX6_placeOf 48 = .ok (.ireturn, 1) := by decide +kernel
theorem EX6_placeOf {h : jj_H} {Q : Value → jj_H → Prop} (r0 : Nat) (x1 : Int32) (H : ∀ d : jj_D, jj_WP d mX6_placeOf 0 0 6 [(0, .ref r0), (1, .int x1), (2, .int 0), (3, .int 128)] [] h Q) : jj_C mX6_placeOf 0 0 [.ref r0, .int x1] h Q := j_enter (by decide +kernel) (Nat.le_of_ble_eq_true rfl) rfl fun d => have H := H d; j_iconst (v := 0) dX6_placeOf_0 rfl (j_istore_n (L' := [(2, .int 0), (0, .ref r0), (1, .int x1)]) dX6_placeOf_1 rfl (by decide) rfl (j_sipush (v := 128) dX6_placeOf_2 rfl (j_istore_n (L' := [(3, .int 128), (2, .int 0), (0, .ref r0), (1, .int x1)]) dX6_placeOf_5 rfl (by decide) rfl (j_sub [2, 3, 1, 0] rfl (H)))))
theorem VX6_placeOf_6 {d : jj_D} {h : jj_H} {Q : Value → jj_H → Prop} (r0 : Nat) (x1 : Int32) (x2 : Int32) (x3 : Int32) (H : (x3 ≤ 0 → Q (.int x2) h) ∧ (¬ x3 ≤ 0 → jK h r0 = 7 ∧ (((jI h 301 r0 0) < (x2 + x3) → jj_WP d mX6_placeOf 0 0 6 [(0, .ref r0), (1, .int x1), (2, .int x2), (3, .int (x3 >>> (1 &&& 31)))] [] h Q) ∧ (¬ (jI h 301 r0 0) < (x2 + x3) → jK h (jR h 300 r0 0) = 21 ∧ (vp_in (4 * ((x2 + x3) - 1)) (jN h (jR h 300 r0 0)) ∧ ((x1 ≤ (jI h 1000 (jR h 300 r0 0) (Int32.toNatClampNeg (4 * ((x2 + x3) - 1)))) → jj_WP d mX6_placeOf 0 0 6 [(0, .ref r0), (1, .int x1), (2, .int x2), (3, .int (x3 >>> (1 &&& 31)))] [] h Q) ∧ (¬ x1 ≤ (jI h 1000 (jR h 300 r0 0) (Int32.toNatClampNeg (4 * ((x2 + x3) - 1)))) → jj_WP d mX6_placeOf 0 0 6 [(0, .ref r0), (1, .int x1), (2, .int (x2 + x3)), (3, .int (x3 >>> (1 &&& 31)))] [] h Q))))))) : jj_WP d mX6_placeOf 0 0 6 [(0, .ref r0), (1, .int x1), (2, .int x2), (3, .int x3)] [] h Q := j_iload_n dX6_placeOf_6 rfl 3 rfl (j_if_le (tgt := 47) dX6_placeOf_7 (by decide) (fun c1 => j_iload_n dX6_placeOf_47 rfl 2 rfl (j_ret (v := .int x2) ⟨dX6_placeOf_48, _, rfl⟩ rfl ((H.1 c1)))) (fun c1 => j_iload_n dX6_placeOf_10 rfl 2 rfl (j_iload_n dX6_placeOf_11 rfl 3 rfl (j_iadd dX6_placeOf_12 (j_aload_n dX6_placeOf_13 rfl 0 rfl (j_getI (f := 301) cls_X6 1 (by decide) fl_X6_21 rfl (by decide) dX6_placeOf_14 (H.2 c1).1 (j_icmp_gt (tgt := 40) dX6_placeOf_17 (by decide) (fun c2 => j_iload_n dX6_placeOf_40 rfl 3 rfl (j_iconst (v := 1) dX6_placeOf_41 rfl (j_ishr dX6_placeOf_42 (j_istore_n (L' := [(3, .int (x3 >>> (1 &&& 31))), (0, .ref r0), (1, .int x1), (2, .int x2)]) dX6_placeOf_43 rfl (by decide) rfl (j_goto (tgt := 6) dX6_placeOf_44 (by decide) (j_sub [1, 2, 3, 0] rfl (((H.2 c1).2.1 c2)))))))) (fun c2 => j_aload_n dX6_placeOf_20 rfl 0 rfl (j_getR (f := 300) cls_X6 0 (by decide) fl_X6_15 rfl rfl dX6_placeOf_21 (H.2 c1).1 (j_iconst (v := 4) dX6_placeOf_24 rfl (j_iload_n dX6_placeOf_25 rfl 2 rfl (j_iload_n dX6_placeOf_26 rfl 3 rfl (j_iadd dX6_placeOf_27 (j_iconst (v := 1) dX6_placeOf_28 rfl (j_isub dX6_placeOf_29 (j_imul dX6_placeOf_30 (j_iald dX6_placeOf_31 ((H.2 c1).2.2 c2).1 ((H.2 c1).2.2 c2).2.1 (j_iload_n dX6_placeOf_32 rfl 1 rfl (j_icmp_ge (tgt := 40) dX6_placeOf_33 (by decide) (fun c3 => j_iload_n dX6_placeOf_40 rfl 3 rfl (j_iconst (v := 1) dX6_placeOf_41 rfl (j_ishr dX6_placeOf_42 (j_istore_n (L' := [(3, .int (x3 >>> (1 &&& 31))), (0, .ref r0), (1, .int x1), (2, .int x2)]) dX6_placeOf_43 rfl (by decide) rfl (j_goto (tgt := 6) dX6_placeOf_44 (by decide) (j_sub [1, 2, 3, 0] rfl ((((H.2 c1).2.2 c2).2.2.1 c3)))))))) (fun c3 => j_iload_n dX6_placeOf_36 rfl 2 rfl (j_iload_n dX6_placeOf_37 rfl 3 rfl (j_iadd dX6_placeOf_38 (j_istore_n (L' := [(2, .int (x2 + x3)), (0, .ref r0), (1, .int x1), (3, .int x3)]) dX6_placeOf_39 rfl (by decide) rfl (j_iload_n dX6_placeOf_40 rfl 3 rfl (j_iconst (v := 1) dX6_placeOf_41 rfl (j_ishr dX6_placeOf_42 (j_istore_n (L' := [(3, .int (x3 >>> (1 &&& 31))), (2, .int (x2 + x3)), (0, .ref r0), (1, .int x1)]) dX6_placeOf_43 rfl (by decide) rfl (j_goto (tgt := 6) dX6_placeOf_44 (by decide) (j_sub [2, 3, 1, 0] rfl ((((H.2 c1).2.2 c2).2.2.2 c3)))))))))))))))))))))))))))))))
theorem dX6_find_0 : decode cX6_find 0 = .ok (.aload_n 0, 1) := by decide +kernel
theorem dX6_find_1 : decode cX6_find 1 = .ok (.iload_n 1, 1) := by decide +kernel
theorem dX6_find_2 : decode cX6_find 2 = .ok (.invokevirtual 27, 3) := by decide +kernel
theorem dX6_find_5 : decode cX6_find 5 = .ok (.istore_n 2, 1) := by decide +kernel
theorem dX6_find_6 : decode cX6_find 6 = .ok (.aload_n 0, 1) := by decide +kernel
theorem dX6_find_7 : decode cX6_find 7 = .ok (.iload_n 2, 1) := by decide +kernel
theorem dX6_find_8 : decode cX6_find 8 = .ok (.invokevirtual 31, 3) := by decide +kernel
theorem dX6_find_11 : decode cX6_find 11 = .ok (.iload_n 1, 1) := by decide +kernel
theorem dX6_find_12 : decode cX6_find 12 = .ok (.i2l, 1) := by decide +kernel
theorem dX6_find_13 : decode cX6_find 13 = .ok (.lcmp, 1) := by decide +kernel
theorem dX6_find_14 : decode cX6_find 14 = .ok (.ifCond .ne 7, 3) := by decide +kernel
theorem dX6_find_17 : decode cX6_find 17 = .ok (.iload_n 2, 1) := by decide +kernel
theorem dX6_find_18 : decode cX6_find 18 = .ok (.goto 4, 3) := by decide +kernel
theorem dX6_find_21 : decode cX6_find 21 = .ok (.iconst (-1), 1) := by decide +kernel
theorem dX6_find_22 : decode cX6_find 22 = .ok (.ireturn, 1) := by decide +kernel
theorem EX6_find {h : jj_H} {Q : Value → jj_H → Prop} (r0 : Nat) (x1 : Int32) (H : ∀ d : jj_D, jK h r0 = 7 ∧ (jj_C mX6_placeOf 0 0 [.ref r0, .int x1] h (fun v2 h1 => jj_vi (fun y3 => jK h1 r0 = 7 ∧ (jj_C mX6_keyAt 0 0 [.ref r0, .int y3] h1 (fun v6 h5 => jj_vj (fun k7 => (¬ k7 = (Int32.toInt64 x1) → Q (.int (-1)) h5) ∧ (k7 = (Int32.toInt64 x1) → Q (.int y3) h5)) v6))) v2))) : jj_C mX6_find 0 0 [.ref r0, .int x1] h Q := j_enter (by decide +kernel) (Nat.le_of_ble_eq_true rfl) rfl fun d => have H := H d; j_aload_n dX6_find_0 rfl 0 rfl (j_iload_n dX6_find_1 rfl 1 rfl (j_callV0 (as := [.int x1]) cm_X6_placeOf im_X6_placeOf se_X6_placeOf (ci := 6) rfl (by decide) ml_X6_27 ⟨by decide, by decide⟩ dX6_find_2 rfl rfl (Nat.le_of_ble_eq_true rfl) H.1 (jj_C.mono H.2 (fun v2 h1 H4 => jj_vi_e (fun y3 H4 => j_istore_n (L' := [(2, .int y3), (0, .ref r0), (1, .int x1)]) dX6_find_5 rfl (by decide) rfl (j_aload_n dX6_find_6 rfl 1 rfl (j_iload_n dX6_find_7 rfl 0 rfl (j_callV0 (as := [.int y3]) cm_X6_keyAt im_X6_keyAt se_X6_keyAt (ci := 6) rfl (by decide) ml_X6_31 ⟨by decide, by decide⟩ dX6_find_8 rfl rfl (Nat.le_of_ble_eq_true rfl) H4.1 (jj_C.mono H4.2 (fun v6 h5 H8 => jj_vj_e (fun k7 H8 => j_iload_n dX6_find_11 rfl 2 rfl (j_i2l dX6_find_12 (j_lcmp dX6_find_13 (j_if_ne (tgt := 21) dX6_find_14 (by decide) (fun c9 => j_iconst (v := (-1)) dX6_find_21 rfl (j_ret (v := .int (-1)) ⟨dX6_find_22, _, rfl⟩ rfl ((H8.1 (fun z => c9 ((lg_cmp_eq _ _).mpr z)))))) (fun c9 => j_iload_n dX6_find_17 rfl 0 rfl (j_goto (tgt := 22) dX6_find_18 (by decide) (j_ret (v := .int y3) ⟨dX6_find_22, _, rfl⟩ rfl ((H8.2 ((lg_cmp_eq _ _).mp c9)))))))))) H8)))))) H4))))
theorem dX6_columnOf_0 : decode cX6_columnOf 0 = .ok (.aload_n 0, 1) := by decide +kernel
theorem dX6_columnOf_1 : decode cX6_columnOf 1 = .ok (.iload_n 1, 1) := by decide +kernel
theorem dX6_columnOf_2 : decode cX6_columnOf 2 = .ok (.invokevirtual 35, 3) := by decide +kernel
theorem dX6_columnOf_5 : decode cX6_columnOf 5 = .ok (.istore_n 3, 1) := by decide +kernel
theorem dX6_columnOf_6 : decode cX6_columnOf 6 = .ok (.iload_n 3, 1) := by decide +kernel
theorem dX6_columnOf_7 : decode cX6_columnOf 7 = .ok (.iconst (-1), 1) := by decide +kernel
theorem dX6_columnOf_8 : decode cX6_columnOf 8 = .ok (.if_icmp .eq 10, 3) := by decide +kernel
theorem dX6_columnOf_11 : decode cX6_columnOf 11 = .ok (.iload_n 2, 1) := by decide +kernel
theorem dX6_columnOf_12 : decode cX6_columnOf 12 = .ok (.invokestatic 38, 3) := by decide +kernel
theorem dX6_columnOf_15 : decode cX6_columnOf 15 = .ok (.ifCond .ne 9, 3) := by decide +kernel
theorem dX6_columnOf_18 : decode cX6_columnOf 18 = .ok (.ldc2_w 25, 3) := by decide +kernel
theorem dX6_columnOf_21 : decode cX6_columnOf 21 = .ok (.goto 16, 3) := by decide +kernel
theorem dX6_columnOf_24 : decode cX6_columnOf 24 = .ok (.aload_n 0, 1) := by decide +kernel
theorem dX6_columnOf_25 : decode cX6_columnOf 25 = .ok (.getfield 15, 3) := by decide +kernel
theorem dX6_columnOf_28 : decode cX6_columnOf 28 = .ok (.iconst 4, 1) := by decide +kernel
theorem dX6_columnOf_29 : decode cX6_columnOf 29 = .ok (.iload_n 3, 1) := by decide +kernel
theorem dX6_columnOf_30 : decode cX6_columnOf 30 = .ok (.imul, 1) := by decide +kernel
theorem dX6_columnOf_31 : decode cX6_columnOf 31 = .ok (.iconst 1, 1) := by decide +kernel
theorem dX6_columnOf_32 : decode cX6_columnOf 32 = .ok (.iadd, 1) := by decide +kernel
theorem dX6_columnOf_33 : decode cX6_columnOf 33 = .ok (.iload_n 2, 1) := by decide +kernel
theorem dX6_columnOf_34 : decode cX6_columnOf 34 = .ok (.iadd, 1) := by decide +kernel
theorem dX6_columnOf_35 : decode cX6_columnOf 35 = .ok (.iaload, 1) := by decide +kernel
theorem dX6_columnOf_36 : decode cX6_columnOf 36 = .ok (.i2l, 1) := by decide +kernel
theorem dX6_columnOf_37 : decode cX6_columnOf 37 = .ok (.lreturn, 1) := by decide +kernel
theorem EX6_columnOf {h : jj_H} {Q : Value → jj_H → Prop} (r0 : Nat) (x1 : Int32) (x2 : Int32) (H : ∀ d : jj_D, jK h r0 = 7 ∧ (jj_C mX6_find 0 0 [.ref r0, .int x1] h (fun v2 h1 => jj_vi (fun y3 => (y3 = (-1) → Q (.long 4294967296) h1) ∧ (¬ y3 = (-1) → jj_C mX9_isColumn 0 0 [.int x2] h1 (fun v7 h6 => jj_vi (fun y8 => (¬ y8 = 0 → jK h6 r0 = 7 ∧ (jK h6 (jR h6 300 r0 0) = 21 ∧ (vp_in (((4 * y3) + 1) + x2) (jN h6 (jR h6 300 r0 0)) ∧ (Q (.long (Int32.toInt64 (jI h6 1000 (jR h6 300 r0 0) (Int32.toNatClampNeg (((4 * y3) + 1) + x2))))) h6)))) ∧ (y8 = 0 → Q (.long 4294967296) h6)) v7))) v2))) : jj_C mX6_columnOf 0 0 [.ref r0, .int x1, .int x2] h Q := j_enter (by decide +kernel) (Nat.le_of_ble_eq_true rfl) rfl fun d => have H := H d; j_aload_n dX6_columnOf_0 rfl 0 rfl (j_iload_n dX6_columnOf_1 rfl 1 rfl (j_callV0 (as := [.int x1]) cm_X6_find im_X6_find se_X6_find (ci := 6) rfl (by decide) ml_X6_35 ⟨by decide, by decide⟩ dX6_columnOf_2 rfl rfl (Nat.le_of_ble_eq_true rfl) H.1 (jj_C.mono H.2 (fun v2 h1 H4 => jj_vi_e (fun y3 H4 => j_istore_n (L' := [(3, .int y3), (0, .ref r0), (1, .int x1), (2, .int x2)]) dX6_columnOf_5 rfl (by decide) rfl (j_iload_n dX6_columnOf_6 rfl 0 rfl (j_iconst (v := (-1)) dX6_columnOf_7 rfl (j_icmp_eq (tgt := 18) dX6_columnOf_8 (by decide) (fun c5 => j_ldc2 (v := 4294967296) dX6_columnOf_18 kc_X6_25 (j_goto (tgt := 37) dX6_columnOf_21 (by decide) (j_ret (v := .long 4294967296) ⟨dX6_columnOf_37, _, rfl⟩ rfl ((H4.1 c5))))) (fun c5 => j_iload_n dX6_columnOf_11 rfl 3 rfl (j_callSN0 (as := [.int x2]) cm_X9_isColumn sm_X9_isColumn ml_X6_38 ⟨by decide, by decide⟩ dX6_columnOf_12 rfl rfl (Nat.le_of_ble_eq_true rfl) (jj_C.mono (H4.2 c5) (fun v7 h6 H9 => jj_vi_e (fun y8 H9 => j_if_ne (tgt := 24) dX6_columnOf_15 (by decide) (fun c10 => j_aload_n dX6_columnOf_24 rfl 1 rfl (j_getR (f := 300) cls_X6 0 (by decide) fl_X6_15 rfl rfl dX6_columnOf_25 (H9.1 c10).1 (j_iconst (v := 4) dX6_columnOf_28 rfl (j_iload_n dX6_columnOf_29 rfl 0 rfl (j_imul dX6_columnOf_30 (j_iconst (v := 1) dX6_columnOf_31 rfl (j_iadd dX6_columnOf_32 (j_iload_n dX6_columnOf_33 rfl 3 rfl (j_iadd dX6_columnOf_34 (j_iald dX6_columnOf_35 (H9.1 c10).2.1 (H9.1 c10).2.2.1 (j_i2l dX6_columnOf_36 (j_ret (v := .long (Int32.toInt64 (jI h6 1000 (jR h6 300 r0 0) (Int32.toNatClampNeg (((4 * y3) + 1) + x2))))) ⟨dX6_columnOf_37, _, rfl⟩ rfl ((H9.1 c10).2.2.2))))))))))))) (fun c10 => j_ldc2 (v := 4294967296) dX6_columnOf_18 kc_X6_25 (j_goto (tgt := 37) dX6_columnOf_21 (by decide) (j_ret (v := .long 4294967296) ⟨dX6_columnOf_37, _, rfl⟩ rfl ((H9.2 c10)))))) H9)))))))) H4))))
theorem dX6_setColumn_0 : decode cX6_setColumn 0 = .ok (.aload_n 0, 1) := by decide +kernel
theorem dX6_setColumn_1 : decode cX6_setColumn 1 = .ok (.iload_n 1, 1) := by decide +kernel
theorem dX6_setColumn_2 : decode cX6_setColumn 2 = .ok (.invokevirtual 35, 3) := by decide +kernel
theorem dX6_setColumn_5 : decode cX6_setColumn 5 = .ok (.istore 4, 2) := by decide +kernel
theorem dX6_setColumn_7 : decode cX6_setColumn 7 = .ok (.iload 4, 2) := by decide +kernel
theorem dX6_setColumn_9 : decode cX6_setColumn 9 = .ok (.iconst (-1), 1) := by decide +kernel
theorem dX6_setColumn_10 : decode cX6_setColumn 10 = .ok (.if_icmp .eq 10, 3) := by decide +kernel
theorem dX6_setColumn_13 : decode cX6_setColumn 13 = .ok (.iload_n 2, 1) := by decide +kernel
theorem dX6_setColumn_14 : decode cX6_setColumn 14 = .ok (.invokestatic 38, 3) := by decide +kernel
theorem dX6_setColumn_17 : decode cX6_setColumn 17 = .ok (.ifCond .ne 5, 3) := by decide +kernel
theorem dX6_setColumn_20 : decode cX6_setColumn 20 = .ok (.iconst 0, 1) := by decide +kernel
theorem dX6_setColumn_21 : decode cX6_setColumn 21 = .ok (.ireturn, 1) := by decide +kernel
theorem dX6_setColumn_22 : decode cX6_setColumn 22 = .ok (.aload_n 0, 1) := by decide +kernel
theorem dX6_setColumn_23 : decode cX6_setColumn 23 = .ok (.getfield 15, 3) := by decide +kernel
theorem dX6_setColumn_26 : decode cX6_setColumn 26 = .ok (.iconst 4, 1) := by decide +kernel
theorem dX6_setColumn_27 : decode cX6_setColumn 27 = .ok (.iload 4, 2) := by decide +kernel
theorem dX6_setColumn_29 : decode cX6_setColumn 29 = .ok (.imul, 1) := by decide +kernel
theorem dX6_setColumn_30 : decode cX6_setColumn 30 = .ok (.iconst 1, 1) := by decide +kernel
theorem dX6_setColumn_31 : decode cX6_setColumn 31 = .ok (.iadd, 1) := by decide +kernel
theorem dX6_setColumn_32 : decode cX6_setColumn 32 = .ok (.iload_n 2, 1) := by decide +kernel
theorem dX6_setColumn_33 : decode cX6_setColumn 33 = .ok (.iadd, 1) := by decide +kernel
theorem dX6_setColumn_34 : decode cX6_setColumn 34 = .ok (.iload_n 3, 1) := by decide +kernel
theorem dX6_setColumn_35 : decode cX6_setColumn 35 = .ok (.iastore, 1) := by decide +kernel
theorem dX6_setColumn_36 : decode cX6_setColumn 36 = .ok (.iconst 1, 1) := by decide +kernel
theorem dX6_setColumn_37 : decode cX6_setColumn 37 = .ok (.ireturn, 1) := by decide +kernel
theorem EX6_setColumn {h : jj_H} {Q : Value → jj_H → Prop} (r0 : Nat) (x1 : Int32) (x2 : Int32) (x3 : Int32) (H : ∀ d : jj_D, jK h r0 = 7 ∧ (jj_C mX6_find 0 0 [.ref r0, .int x1] h (fun v2 h1 => jj_vi (fun y3 => (y3 = (-1) → Q (.int 0) h1) ∧ (¬ y3 = (-1) → jj_C mX9_isColumn 0 0 [.int x2] h1 (fun v7 h6 => jj_vi (fun y8 => (¬ y8 = 0 → jK h6 r0 = 7 ∧ (jK h6 (jR h6 300 r0 0) = 21 ∧ (vp_in (((4 * y3) + 1) + x2) (jN h6 (jR h6 300 r0 0)) ∧ (∀ h11, h11 = wI h6 1000 (jR h6 300 r0 0) (Int32.toNatClampNeg (((4 * y3) + 1) + x2)) x3 → (Q (.int 1) h11))))) ∧ (y8 = 0 → Q (.int 0) h6)) v7))) v2))) : jj_C mX6_setColumn 0 0 [.ref r0, .int x1, .int x2, .int x3] h Q := j_enter (by decide +kernel) (Nat.le_of_ble_eq_true rfl) rfl fun d => have H := H d; j_aload_n dX6_setColumn_0 rfl 0 rfl (j_iload_n dX6_setColumn_1 rfl 1 rfl (j_callV0 (as := [.int x1]) cm_X6_find im_X6_find se_X6_find (ci := 6) rfl (by decide) ml_X6_35 ⟨by decide, by decide⟩ dX6_setColumn_2 rfl rfl (Nat.le_of_ble_eq_true rfl) H.1 (jj_C.mono H.2 (fun v2 h1 H4 => jj_vi_e (fun y3 H4 => j_istore (L' := [(4, .int y3), (0, .ref r0), (1, .int x1), (2, .int x2), (3, .int x3)]) dX6_setColumn_5 (by decide) rfl (j_iload dX6_setColumn_7 0 rfl (j_iconst (v := (-1)) dX6_setColumn_9 rfl (j_icmp_eq (tgt := 20) dX6_setColumn_10 (by decide) (fun c5 => j_iconst (v := 0) dX6_setColumn_20 rfl (j_ret (v := .int 0) ⟨dX6_setColumn_21, _, rfl, by decide⟩ rfl ((H4.1 c5)))) (fun c5 => j_iload_n dX6_setColumn_13 rfl 3 rfl (j_callSN0 (as := [.int x2]) cm_X9_isColumn sm_X9_isColumn ml_X6_38 ⟨by decide, by decide⟩ dX6_setColumn_14 rfl rfl (Nat.le_of_ble_eq_true rfl) (jj_C.mono (H4.2 c5) (fun v7 h6 H9 => jj_vi_e (fun y8 H9 => j_if_ne (tgt := 22) dX6_setColumn_17 (by decide) (fun c10 => j_aload_n dX6_setColumn_22 rfl 1 rfl (j_getR (f := 300) cls_X6 0 (by decide) fl_X6_15 rfl rfl dX6_setColumn_23 (H9.1 c10).1 (j_iconst (v := 4) dX6_setColumn_26 rfl (j_iload dX6_setColumn_27 0 rfl (j_imul dX6_setColumn_29 (j_iconst (v := 1) dX6_setColumn_30 rfl (j_iadd dX6_setColumn_31 (j_iload_n dX6_setColumn_32 rfl 3 rfl (j_iadd dX6_setColumn_33 (j_iload_n dX6_setColumn_34 rfl 4 rfl (j_iast dX6_setColumn_35 (H9.1 c10).2.1 (H9.1 c10).2.2.1 (j_iconst (v := 1) dX6_setColumn_36 rfl (j_ret (v := .int 1) ⟨dX6_setColumn_37, _, rfl, by decide⟩ rfl (((H9.1 c10).2.2.2 _ rfl))))))))))))))) (fun c10 => j_iconst (v := 0) dX6_setColumn_20 rfl (j_ret (v := .int 0) ⟨dX6_setColumn_21, _, rfl, by decide⟩ rfl ((H9.2 c10))))) H9)))))))) H4))))
theorem dX6_setRow_0 : decode cX6_setRow 0 = .ok (.aload_n 0, 1) := by decide +kernel
theorem dX6_setRow_1 : decode cX6_setRow 1 = .ok (.iload_n 1, 1) := by decide +kernel
theorem dX6_setRow_2 : decode cX6_setRow 2 = .ok (.invokevirtual 27, 3) := by decide +kernel
theorem dX6_setRow_5 : decode cX6_setRow 5 = .ok (.istore 5, 2) := by decide +kernel
theorem dX6_setRow_7 : decode cX6_setRow 7 = .ok (.aload_n 0, 1) := by decide +kernel
theorem dX6_setRow_8 : decode cX6_setRow 8 = .ok (.iload 5, 2) := by decide +kernel
theorem dX6_setRow_10 : decode cX6_setRow 10 = .ok (.invokevirtual 31, 3) := by decide +kernel
theorem dX6_setRow_13 : decode cX6_setRow 13 = .ok (.iload_n 1, 1) := by decide +kernel
theorem dX6_setRow_14 : decode cX6_setRow 14 = .ok (.i2l, 1) := by decide +kernel
theorem dX6_setRow_15 : decode cX6_setRow 15 = .ok (.lcmp, 1) := by decide +kernel
theorem dX6_setRow_16 : decode cX6_setRow 16 = .ok (.ifCond .eq 7, 3) := by decide +kernel
theorem dX6_setRow_19 : decode cX6_setRow 19 = .ok (.iconst 1, 1) := by decide +kernel
theorem dX6_setRow_20 : decode cX6_setRow 20 = .ok (.goto 4, 3) := by decide +kernel
theorem dX6_setRow_23 : decode cX6_setRow 23 = .ok (.iconst 0, 1) := by decide +kernel
theorem dX6_setRow_24 : decode cX6_setRow 24 = .ok (.istore 6, 2) := by decide +kernel
theorem dX6_setRow_26 : decode cX6_setRow 26 = .ok (.iload 6, 2) := by decide +kernel
theorem dX6_setRow_28 : decode cX6_setRow 28 = .ok (.ifCond .eq 15, 3) := by decide +kernel
theorem dX6_setRow_31 : decode cX6_setRow 31 = .ok (.aload_n 0, 1) := by decide +kernel
theorem dX6_setRow_32 : decode cX6_setRow 32 = .ok (.iload 5, 2) := by decide +kernel
theorem dX6_setRow_34 : decode cX6_setRow 34 = .ok (.invokevirtual 42, 3) := by decide +kernel
theorem dX6_setRow_37 : decode cX6_setRow 37 = .ok (.ifCond .ne 6, 3) := by decide +kernel
theorem dX6_setRow_40 : decode cX6_setRow 40 = .ok (.bipush (-2), 2) := by decide +kernel
theorem dX6_setRow_42 : decode cX6_setRow 42 = .ok (.ireturn, 1) := by decide +kernel
theorem dX6_setRow_43 : decode cX6_setRow 43 = .ok (.iconst 4, 1) := by decide +kernel
theorem dX6_setRow_44 : decode cX6_setRow 44 = .ok (.iload 5, 2) := by decide +kernel
theorem dX6_setRow_46 : decode cX6_setRow 46 = .ok (.imul, 1) := by decide +kernel
theorem dX6_setRow_47 : decode cX6_setRow 47 = .ok (.istore 7, 2) := by decide +kernel
theorem dX6_setRow_49 : decode cX6_setRow 49 = .ok (.aload_n 0, 1) := by decide +kernel
theorem dX6_setRow_50 : decode cX6_setRow 50 = .ok (.getfield 15, 3) := by decide +kernel
theorem dX6_setRow_53 : decode cX6_setRow 53 = .ok (.iload 7, 2) := by decide +kernel
theorem dX6_setRow_55 : decode cX6_setRow 55 = .ok (.iload_n 1, 1) := by decide +kernel
theorem dX6_setRow_56 : decode cX6_setRow 56 = .ok (.iastore, 1) := by decide +kernel
theorem dX6_setRow_57 : decode cX6_setRow 57 = .ok (.aload_n 0, 1) := by decide +kernel
theorem dX6_setRow_58 : decode cX6_setRow 58 = .ok (.getfield 15, 3) := by decide +kernel
theorem dX6_setRow_61 : decode cX6_setRow 61 = .ok (.iload 7, 2) := by decide +kernel
theorem dX6_setRow_63 : decode cX6_setRow 63 = .ok (.iconst 1, 1) := by decide +kernel
theorem dX6_setRow_64 : decode cX6_setRow 64 = .ok (.iadd, 1) := by decide +kernel
theorem dX6_setRow_65 : decode cX6_setRow 65 = .ok (.iload_n 2, 1) := by decide +kernel
theorem dX6_setRow_66 : decode cX6_setRow 66 = .ok (.iastore, 1) := by decide +kernel
theorem dX6_setRow_67 : decode cX6_setRow 67 = .ok (.aload_n 0, 1) := by decide +kernel
theorem dX6_setRow_68 : decode cX6_setRow 68 = .ok (.getfield 15, 3) := by decide +kernel
theorem dX6_setRow_71 : decode cX6_setRow 71 = .ok (.iload 7, 2) := by decide +kernel
theorem dX6_setRow_73 : decode cX6_setRow 73 = .ok (.iconst 2, 1) := by decide +kernel
theorem dX6_setRow_74 : decode cX6_setRow 74 = .ok (.iadd, 1) := by decide +kernel
theorem dX6_setRow_75 : decode cX6_setRow 75 = .ok (.iload_n 3, 1) := by decide +kernel
theorem dX6_setRow_76 : decode cX6_setRow 76 = .ok (.iastore, 1) := by decide +kernel
theorem dX6_setRow_77 : decode cX6_setRow 77 = .ok (.aload_n 0, 1) := by decide +kernel
theorem dX6_setRow_78 : decode cX6_setRow 78 = .ok (.getfield 15, 3) := by decide +kernel
theorem dX6_setRow_81 : decode cX6_setRow 81 = .ok (.iload 7, 2) := by decide +kernel
theorem dX6_setRow_83 : decode cX6_setRow 83 = .ok (.iconst 3, 1) := by decide +kernel
theorem dX6_setRow_84 : decode cX6_setRow 84 = .ok (.iadd, 1) := by decide +kernel
theorem dX6_setRow_85 : decode cX6_setRow 85 = .ok (.iload 4, 2) := by decide +kernel
theorem dX6_setRow_87 : decode cX6_setRow 87 = .ok (.iastore, 1) := by decide +kernel
theorem dX6_setRow_88 : decode cX6_setRow 88 = .ok (.iload 6, 2) := by decide +kernel
theorem dX6_setRow_90 : decode cX6_setRow 90 = .ok (.ifCond .eq 7, 3) := by decide +kernel
theorem dX6_setRow_93 : decode cX6_setRow 93 = .ok (.iconst 1, 1) := by decide +kernel
theorem dX6_setRow_94 : decode cX6_setRow 94 = .ok (.goto 4, 3) := by decide +kernel
theorem dX6_setRow_97 : decode cX6_setRow 97 = .ok (.iconst 0, 1) := by decide +kernel
theorem dX6_setRow_98 : decode cX6_setRow 98 = .ok (.ireturn, 1) := by decide +kernel
theorem EX6_setRow {h : jj_H} {Q : Value → jj_H → Prop} (r0 : Nat) (x1 : Int32) (x2 : Int32) (x3 : Int32) (x4 : Int32) (H : ∀ d : jj_D, jK h r0 = 7 ∧ (jj_C mX6_placeOf 0 0 [.ref r0, .int x1] h (fun v2 h1 => jj_vi (fun y3 => jK h1 r0 = 7 ∧ (jj_C mX6_keyAt 0 0 [.ref r0, .int y3] h1 (fun v6 h5 => jj_vj (fun k7 => (k7 = (Int32.toInt64 x1) → jj_WP d mX6_setRow 0 0 43 [(0, .ref r0), (1, .int x1), (2, .int x2), (3, .int x3), (4, .int x4), (5, .int y3), (6, .int 0)] [] h5 Q) ∧ (¬ k7 = (Int32.toInt64 x1) → jK h5 r0 = 7 ∧ (jj_C mX6_makeRoom 0 0 [.ref r0, .int y3] h5 (fun v13 h12 => jj_vi (fun y14 => (¬ y14 = 0 → jj_WP d mX6_setRow 0 0 43 [(0, .ref r0), (1, .int x1), (2, .int x2), (3, .int x3), (4, .int x4), (5, .int y3), (6, .int 1)] [] h12 Q) ∧ (y14 = 0 → Q (.int (-2)) h12)) v13)))) v6))) v2))) : jj_C mX6_setRow 0 0 [.ref r0, .int x1, .int x2, .int x3, .int x4] h Q := j_enter (by decide +kernel) (Nat.le_of_ble_eq_true rfl) rfl fun d => have H := H d; j_aload_n dX6_setRow_0 rfl 0 rfl (j_iload_n dX6_setRow_1 rfl 1 rfl (j_callV0 (as := [.int x1]) cm_X6_placeOf im_X6_placeOf se_X6_placeOf (ci := 6) rfl (by decide) ml_X6_27 ⟨by decide, by decide⟩ dX6_setRow_2 rfl rfl (Nat.le_of_ble_eq_true rfl) H.1 (jj_C.mono H.2 (fun v2 h1 H4 => jj_vi_e (fun y3 H4 => j_istore (L' := [(5, .int y3), (0, .ref r0), (1, .int x1), (2, .int x2), (3, .int x3), (4, .int x4)]) dX6_setRow_5 (by decide) rfl (j_aload_n dX6_setRow_7 rfl 1 rfl (j_iload dX6_setRow_8 0 rfl (j_callV0 (as := [.int y3]) cm_X6_keyAt im_X6_keyAt se_X6_keyAt (ci := 6) rfl (by decide) ml_X6_31 ⟨by decide, by decide⟩ dX6_setRow_10 rfl rfl (Nat.le_of_ble_eq_true rfl) H4.1 (jj_C.mono H4.2 (fun v6 h5 H8 => jj_vj_e (fun k7 H8 => j_iload_n dX6_setRow_13 rfl 2 rfl (j_i2l dX6_setRow_14 (j_lcmp dX6_setRow_15 (j_if_eq (tgt := 23) dX6_setRow_16 (by decide) (fun c9 => j_iconst (v := 0) dX6_setRow_23 rfl (j_istore (L' := [(6, .int 0), (5, .int y3), (0, .ref r0), (1, .int x1), (2, .int x2), (3, .int x3), (4, .int x4)]) dX6_setRow_24 (by decide) rfl (j_iload dX6_setRow_26 0 rfl (j_if_eq (tgt := 43) dX6_setRow_28 (by decide) (fun c10 => j_sub [2, 3, 4, 5, 6, 1, 0] rfl ((H8.1 ((lg_cmp_eq _ _).mp c9)))) (fun c10 => absurd c10 (by decide)))))) (fun c9 => j_iconst (v := 1) dX6_setRow_19 rfl (j_goto (tgt := 24) dX6_setRow_20 (by decide) (j_istore (L' := [(6, .int 1), (5, .int y3), (0, .ref r0), (1, .int x1), (2, .int x2), (3, .int x3), (4, .int x4)]) dX6_setRow_24 (by decide) rfl (j_iload dX6_setRow_26 0 rfl (j_if_eq (tgt := 43) dX6_setRow_28 (by decide) (fun c11 => absurd c11 (by decide)) (fun c11 => j_aload_n dX6_setRow_31 rfl 2 rfl (j_iload dX6_setRow_32 1 rfl (j_callV0 (as := [.int y3]) cm_X6_makeRoom im_X6_makeRoom se_X6_makeRoom (ci := 6) rfl (by decide) ml_X6_42 ⟨by decide, by decide⟩ dX6_setRow_34 rfl rfl (Nat.le_of_ble_eq_true rfl) (H8.2 (fun z => c9 ((lg_cmp_eq _ _).mpr z))).1 (jj_C.mono (H8.2 (fun z => c9 ((lg_cmp_eq _ _).mpr z))).2 (fun v13 h12 H15 => jj_vi_e (fun y14 H15 => j_if_ne (tgt := 43) dX6_setRow_37 (by decide) (fun c16 => j_sub [2, 3, 4, 5, 6, 1, 0] rfl ((H15.1 c16))) (fun c16 => j_bipush (v := (-2)) dX6_setRow_40 rfl (j_ret (v := .int (-2)) ⟨dX6_setRow_42, _, rfl⟩ rfl ((H15.2 c16))))) H15)))))))))))))) H8)))))) H4))))
theorem VX6_setRow_43 {d : jj_D} {h : jj_H} {Q : Value → jj_H → Prop} (r0 : Nat) (x1 : Int32) (x2 : Int32) (x3 : Int32) (x4 : Int32) (x5 : Int32) (x6 : Int32) (H : jK h r0 = 7 ∧ (jK h (jR h 300 r0 0) = 21 ∧ (vp_in (4 * x5) (jN h (jR h 300 r0 0)) ∧ (∀ h1, h1 = wI h 1000 (jR h 300 r0 0) (Int32.toNatClampNeg (4 * x5)) x1 → (jK h (jR h1 300 r0 0) = 21 ∧ (vp_in ((4 * x5) + 1) (jN h (jR h1 300 r0 0)) ∧ (∀ h2, h2 = wI h1 1000 (jR h1 300 r0 0) (Int32.toNatClampNeg ((4 * x5) + 1)) x2 → (jK h (jR h2 300 r0 0) = 21 ∧ (vp_in ((4 * x5) + 2) (jN h (jR h2 300 r0 0)) ∧ (∀ h3, h3 = wI h2 1000 (jR h2 300 r0 0) (Int32.toNatClampNeg ((4 * x5) + 2)) x3 → (jK h (jR h3 300 r0 0) = 21 ∧ (vp_in ((4 * x5) + 3) (jN h (jR h3 300 r0 0)) ∧ (∀ h4, h4 = wI h3 1000 (jR h3 300 r0 0) (Int32.toNatClampNeg ((4 * x5) + 3)) x4 → ((x6 = 0 → Q (.int 0) h4) ∧ (¬ x6 = 0 → Q (.int 1) h4))))))))))))))) : jj_WP d mX6_setRow 0 0 43 [(0, .ref r0), (1, .int x1), (2, .int x2), (3, .int x3), (4, .int x4), (5, .int x5), (6, .int x6)] [] h Q := j_iconst (v := 4) dX6_setRow_43 rfl (j_iload dX6_setRow_44 5 rfl (j_imul dX6_setRow_46 (j_istore (L' := [(7, .int (4 * x5)), (0, .ref r0), (1, .int x1), (2, .int x2), (3, .int x3), (4, .int x4), (5, .int x5), (6, .int x6)]) dX6_setRow_47 (by decide) rfl (j_aload_n dX6_setRow_49 rfl 1 rfl (j_getR (f := 300) cls_X6 0 (by decide) fl_X6_15 rfl rfl dX6_setRow_50 H.1 (j_iload dX6_setRow_53 0 rfl (j_iload_n dX6_setRow_55 rfl 2 rfl (j_iast dX6_setRow_56 H.2.1 H.2.2.1 (j_aload_n dX6_setRow_57 rfl 1 rfl (j_getR (f := 300) cls_X6 0 (by decide) fl_X6_15 rfl rfl dX6_setRow_58 H.1 (j_iload dX6_setRow_61 0 rfl (j_iconst (v := 1) dX6_setRow_63 rfl (j_iadd dX6_setRow_64 (j_iload_n dX6_setRow_65 rfl 3 rfl (j_iast dX6_setRow_66 (H.2.2.2 _ rfl).1 (H.2.2.2 _ rfl).2.1 (j_aload_n dX6_setRow_67 rfl 1 rfl (j_getR (f := 300) cls_X6 0 (by decide) fl_X6_15 rfl rfl dX6_setRow_68 H.1 (j_iload dX6_setRow_71 0 rfl (j_iconst (v := 2) dX6_setRow_73 rfl (j_iadd dX6_setRow_74 (j_iload_n dX6_setRow_75 rfl 4 rfl (j_iast dX6_setRow_76 ((H.2.2.2 _ rfl).2.2 _ rfl).1 ((H.2.2.2 _ rfl).2.2 _ rfl).2.1 (j_aload_n dX6_setRow_77 rfl 1 rfl (j_getR (f := 300) cls_X6 0 (by decide) fl_X6_15 rfl rfl dX6_setRow_78 H.1 (j_iload dX6_setRow_81 0 rfl (j_iconst (v := 3) dX6_setRow_83 rfl (j_iadd dX6_setRow_84 (j_iload dX6_setRow_85 5 rfl (j_iast dX6_setRow_87 (((H.2.2.2 _ rfl).2.2 _ rfl).2.2 _ rfl).1 (((H.2.2.2 _ rfl).2.2 _ rfl).2.2 _ rfl).2.1 (j_iload dX6_setRow_88 7 rfl (j_if_eq (tgt := 97) dX6_setRow_90 (by decide) (fun c5 => j_iconst (v := 0) dX6_setRow_97 rfl (j_ret (v := .int 0) ⟨dX6_setRow_98, _, rfl⟩ rfl ((((((H.2.2.2 _ rfl).2.2 _ rfl).2.2 _ rfl).2.2 _ rfl).1 c5)))) (fun c5 => j_iconst (v := 1) dX6_setRow_93 rfl (j_goto (tgt := 98) dX6_setRow_94 (by decide) (j_ret (v := .int 1) ⟨dX6_setRow_98, _, rfl⟩ rfl ((((((H.2.2.2 _ rfl).2.2 _ rfl).2.2 _ rfl).2.2 _ rfl).2 c5))))))))))))))))))))))))))))))))))))
theorem dX6_removeRow_0 : decode cX6_removeRow 0 = .ok (.aload_n 0, 1) := by decide +kernel
theorem dX6_removeRow_1 : decode cX6_removeRow 1 = .ok (.iload_n 1, 1) := by decide +kernel
theorem dX6_removeRow_2 : decode cX6_removeRow 2 = .ok (.invokevirtual 35, 3) := by decide +kernel
theorem dX6_removeRow_5 : decode cX6_removeRow 5 = .ok (.istore_n 2, 1) := by decide +kernel
theorem dX6_removeRow_6 : decode cX6_removeRow 6 = .ok (.iload_n 2, 1) := by decide +kernel
theorem dX6_removeRow_7 : decode cX6_removeRow 7 = .ok (.iconst (-1), 1) := by decide +kernel
theorem dX6_removeRow_8 : decode cX6_removeRow 8 = .ok (.if_icmp .ne 5, 3) := by decide +kernel
theorem dX6_removeRow_11 : decode cX6_removeRow 11 = .ok (.iconst 0, 1) := by decide +kernel
theorem dX6_removeRow_12 : decode cX6_removeRow 12 = .ok (.ireturn, 1) := by decide +kernel
theorem dX6_removeRow_13 : decode cX6_removeRow 13 = .ok (.iconst 4, 1) := by decide +kernel
theorem dX6_removeRow_14 : decode cX6_removeRow 14 = .ok (.iload_n 2, 1) := by decide +kernel
theorem dX6_removeRow_15 : decode cX6_removeRow 15 = .ok (.imul, 1) := by decide +kernel
theorem dX6_removeRow_16 : decode cX6_removeRow 16 = .ok (.istore_n 3, 1) := by decide +kernel
theorem dX6_removeRow_17 : decode cX6_removeRow 17 = .ok (.aload_n 0, 1) := by decide +kernel
theorem dX6_removeRow_18 : decode cX6_removeRow 18 = .ok (.getfield 15, 3) := by decide +kernel
theorem dX6_removeRow_21 : decode cX6_removeRow 21 = .ok (.iload_n 3, 1) := by decide +kernel
theorem dX6_removeRow_22 : decode cX6_removeRow 22 = .ok (.iconst 4, 1) := by decide +kernel
theorem dX6_removeRow_23 : decode cX6_removeRow 23 = .ok (.iadd, 1) := by decide +kernel
theorem dX6_removeRow_24 : decode cX6_removeRow 24 = .ok (.aload_n 0, 1) := by decide +kernel
theorem dX6_removeRow_25 : decode cX6_removeRow 25 = .ok (.getfield 15, 3) := by decide +kernel
theorem dX6_removeRow_28 : decode cX6_removeRow 28 = .ok (.iload_n 3, 1) := by decide +kernel
theorem dX6_removeRow_29 : decode cX6_removeRow 29 = .ok (.iconst 4, 1) := by decide +kernel
theorem dX6_removeRow_30 : decode cX6_removeRow 30 = .ok (.aload_n 0, 1) := by decide +kernel
theorem dX6_removeRow_31 : decode cX6_removeRow 31 = .ok (.getfield 21, 3) := by decide +kernel
theorem dX6_removeRow_34 : decode cX6_removeRow 34 = .ok (.iload_n 2, 1) := by decide +kernel
theorem dX6_removeRow_35 : decode cX6_removeRow 35 = .ok (.isub, 1) := by decide +kernel
theorem dX6_removeRow_36 : decode cX6_removeRow 36 = .ok (.iconst 1, 1) := by decide +kernel
theorem dX6_removeRow_37 : decode cX6_removeRow 37 = .ok (.isub, 1) := by decide +kernel
theorem dX6_removeRow_38 : decode cX6_removeRow 38 = .ok (.imul, 1) := by decide +kernel
theorem dX6_removeRow_39 : decode cX6_removeRow 39 = .ok (.invokestatic 45, 3) := by decide +kernel
theorem dX6_removeRow_42 : decode cX6_removeRow 42 = .ok (.aload_n 0, 1) := by decide +kernel
theorem dX6_removeRow_43 : decode cX6_removeRow 43 = .ok (.dup, 1) := by decide +kernel
theorem dX6_removeRow_44 : decode cX6_removeRow 44 = .ok (.getfield 21, 3) := by decide +kernel
theorem dX6_removeRow_47 : decode cX6_removeRow 47 = .ok (.iconst 1, 1) := by decide +kernel
theorem dX6_removeRow_48 : decode cX6_removeRow 48 = .ok (.isub, 1) := by decide +kernel
theorem dX6_removeRow_49 : decode cX6_removeRow 49 = .ok (.putfield 21, 3) := by decide +kernel
theorem dX6_removeRow_52 : decode cX6_removeRow 52 = .ok (.iconst 1, 1) := by decide +kernel
theorem dX6_removeRow_53 : decode cX6_removeRow 53 = .ok (.ireturn, 1) := by decide +kernel
theorem EX6_removeRow {h : jj_H} {Q : Value → jj_H → Prop} (r0 : Nat) (x1 : Int32) (H : ∀ d : jj_D, jK h r0 = 7 ∧ (jj_C mX6_find 0 0 [.ref r0, .int x1] h (fun v2 h1 => jj_vi (fun y3 => (¬ y3 = (-1) → jK h1 r0 = 7 ∧ (jK h1 (jR h1 300 r0 0) = 21 ∧ (¬ ((4 * y3) + 4) < 0 ∧ (¬ (4 * y3) < 0 ∧ (¬ (4 * (((jI h1 301 r0 0) - y3) - 1)) < 0 ∧ (Int32.toNatClampNeg ((4 * y3) + 4) + Int32.toNatClampNeg (4 * (((jI h1 301 r0 0) - y3) - 1)) ≤ jN h1 (jR h1 300 r0 0) ∧ (Int32.toNatClampNeg (4 * y3) + Int32.toNatClampNeg (4 * (((jI h1 301 r0 0) - y3) - 1)) ≤ jN h1 (jR h1 300 r0 0) ∧ (∀ h6, h6 = wC h1 (jR h1 300 r0 0) (Int32.toNatClampNeg ((4 * y3) + 4)) (jR h1 300 r0 0) (Int32.toNatClampNeg (4 * y3)) (Int32.toNatClampNeg (4 * (((jI h1 301 r0 0) - y3) - 1))) → (∀ h7, h7 = wI h6 301 r0 0 ((jI h6 301 r0 0) - 1) → (Q (.int 1) h7)))))))))) ∧ (y3 = (-1) → Q (.int 0) h1)) v2))) : jj_C mX6_removeRow 0 0 [.ref r0, .int x1] h Q := j_enter (by decide +kernel) (Nat.le_of_ble_eq_true rfl) rfl fun d => have H := H d; j_aload_n dX6_removeRow_0 rfl 0 rfl (j_iload_n dX6_removeRow_1 rfl 1 rfl (j_callV0 (as := [.int x1]) cm_X6_find im_X6_find se_X6_find (ci := 6) rfl (by decide) ml_X6_35 ⟨by decide, by decide⟩ dX6_removeRow_2 rfl rfl (Nat.le_of_ble_eq_true rfl) H.1 (jj_C.mono H.2 (fun v2 h1 H4 => jj_vi_e (fun y3 H4 => j_istore_n (L' := [(2, .int y3), (0, .ref r0), (1, .int x1)]) dX6_removeRow_5 rfl (by decide) rfl (j_iload_n dX6_removeRow_6 rfl 0 rfl (j_iconst (v := (-1)) dX6_removeRow_7 rfl (j_icmp_ne (tgt := 13) dX6_removeRow_8 (by decide) (fun c5 => j_iconst (v := 4) dX6_removeRow_13 rfl (j_iload_n dX6_removeRow_14 rfl 0 rfl (j_imul dX6_removeRow_15 (j_istore_n (L' := [(3, .int (4 * y3)), (2, .int y3), (0, .ref r0), (1, .int x1)]) dX6_removeRow_16 rfl (by decide) rfl (j_aload_n dX6_removeRow_17 rfl 2 rfl (j_getR (f := 300) cls_X6 0 (by decide) fl_X6_15 rfl rfl dX6_removeRow_18 (H4.1 c5).1 (j_iload_n dX6_removeRow_21 rfl 0 rfl (j_iconst (v := 4) dX6_removeRow_22 rfl (j_iadd dX6_removeRow_23 (j_aload_n dX6_removeRow_24 rfl 2 rfl (j_getR (f := 300) cls_X6 0 (by decide) fl_X6_15 rfl rfl dX6_removeRow_25 (H4.1 c5).1 (j_iload_n dX6_removeRow_28 rfl 0 rfl (j_iconst (v := 4) dX6_removeRow_29 rfl (j_aload_n dX6_removeRow_30 rfl 2 rfl (j_getI (f := 301) cls_X6 1 (by decide) fl_X6_21 rfl (by decide) dX6_removeRow_31 (H4.1 c5).1 (j_iload_n dX6_removeRow_34 rfl 1 rfl (j_isub dX6_removeRow_35 (j_iconst (v := 1) dX6_removeRow_36 rfl (j_isub dX6_removeRow_37 (j_imul dX6_removeRow_38 (j_copy ml_X6_45 nat_copy sta_copy it_System (Nat.le_of_ble_eq_true rfl) (by decide) (by decide) dX6_removeRow_39 (H4.1 c5).2.1 (H4.1 c5).2.1 (H4.1 c5).2.2.1 (H4.1 c5).2.2.2.1 (H4.1 c5).2.2.2.2.1 (H4.1 c5).2.2.2.2.2.1 (H4.1 c5).2.2.2.2.2.2.1 (j_aload_n dX6_removeRow_42 rfl 2 rfl (j_dup dX6_removeRow_43 rfl (j_getI (f := 301) cls_X6 1 (by decide) fl_X6_21 rfl (by decide) dX6_removeRow_44 (H4.1 c5).1 (j_iconst (v := 1) dX6_removeRow_47 rfl (j_isub dX6_removeRow_48 (j_putI (f := 301) cls_X6 1 (by decide) fl_X6_21 rfl rfl rfl (Or.inl rfl) dX6_removeRow_49 (H4.1 c5).1 (j_iconst (v := 1) dX6_removeRow_52 rfl (j_ret (v := .int 1) ⟨dX6_removeRow_53, _, rfl, by decide⟩ rfl ((((H4.1 c5).2.2.2.2.2.2.2 _ rfl) _ rfl))))))))))))))))))))))))))))))) (fun c5 => j_iconst (v := 0) dX6_removeRow_11 rfl (j_ret (v := .int 0) ⟨dX6_removeRow_12, _, rfl, by decide⟩ rfl ((H4.2 c5)))))))) H4))))
theorem dX6_takeRow_0 : decode cX6_takeRow 0 = .ok (.aload_n 1, 1) := by decide +kernel
theorem dX6_takeRow_1 : decode cX6_takeRow 1 = .ok (.iload_n 2, 1) := by decide +kernel
theorem dX6_takeRow_2 : decode cX6_takeRow 2 = .ok (.invokevirtual 35, 3) := by decide +kernel
theorem dX6_takeRow_5 : decode cX6_takeRow 5 = .ok (.istore_n 3, 1) := by decide +kernel
theorem dX6_takeRow_6 : decode cX6_takeRow 6 = .ok (.iload_n 3, 1) := by decide +kernel
theorem dX6_takeRow_7 : decode cX6_takeRow 7 = .ok (.iconst (-1), 1) := by decide +kernel
theorem dX6_takeRow_8 : decode cX6_takeRow 8 = .ok (.if_icmp .ne 11, 3) := by decide +kernel
theorem dX6_takeRow_11 : decode cX6_takeRow 11 = .ok (.aload_n 0, 1) := by decide +kernel
theorem dX6_takeRow_12 : decode cX6_takeRow 12 = .ok (.iload_n 2, 1) := by decide +kernel
theorem dX6_takeRow_13 : decode cX6_takeRow 13 = .ok (.invokevirtual 51, 3) := by decide +kernel
theorem dX6_takeRow_16 : decode cX6_takeRow 16 = .ok (.pop, 1) := by decide +kernel
theorem dX6_takeRow_17 : decode cX6_takeRow 17 = .ok (.iconst 1, 1) := by decide +kernel
theorem dX6_takeRow_18 : decode cX6_takeRow 18 = .ok (.ireturn, 1) := by decide +kernel
theorem dX6_takeRow_19 : decode cX6_takeRow 19 = .ok (.iconst 4, 1) := by decide +kernel
theorem dX6_takeRow_20 : decode cX6_takeRow 20 = .ok (.iload_n 3, 1) := by decide +kernel
theorem dX6_takeRow_21 : decode cX6_takeRow 21 = .ok (.imul, 1) := by decide +kernel
theorem dX6_takeRow_22 : decode cX6_takeRow 22 = .ok (.istore 4, 2) := by decide +kernel
theorem dX6_takeRow_24 : decode cX6_takeRow 24 = .ok (.aload_n 0, 1) := by decide +kernel
theorem dX6_takeRow_25 : decode cX6_takeRow 25 = .ok (.iload_n 2, 1) := by decide +kernel
theorem dX6_takeRow_26 : decode cX6_takeRow 26 = .ok (.aload_n 1, 1) := by decide +kernel
theorem dX6_takeRow_27 : decode cX6_takeRow 27 = .ok (.getfield 15, 3) := by decide +kernel
theorem dX6_takeRow_30 : decode cX6_takeRow 30 = .ok (.iload 4, 2) := by decide +kernel
theorem dX6_takeRow_32 : decode cX6_takeRow 32 = .ok (.iconst 1, 1) := by decide +kernel
theorem dX6_takeRow_33 : decode cX6_takeRow 33 = .ok (.iadd, 1) := by decide +kernel
theorem dX6_takeRow_34 : decode cX6_takeRow 34 = .ok (.iaload, 1) := by decide +kernel
theorem dX6_takeRow_35 : decode cX6_takeRow 35 = .ok (.aload_n 1, 1) := by decide +kernel
theorem dX6_takeRow_36 : decode cX6_takeRow 36 = .ok (.getfield 15, 3) := by decide +kernel
theorem dX6_takeRow_39 : decode cX6_takeRow 39 = .ok (.iload 4, 2) := by decide +kernel
theorem dX6_takeRow_41 : decode cX6_takeRow 41 = .ok (.iconst 2, 1) := by decide +kernel
theorem dX6_takeRow_42 : decode cX6_takeRow 42 = .ok (.iadd, 1) := by decide +kernel
theorem dX6_takeRow_43 : decode cX6_takeRow 43 = .ok (.iaload, 1) := by decide +kernel
theorem dX6_takeRow_44 : decode cX6_takeRow 44 = .ok (.aload_n 1, 1) := by decide +kernel
theorem dX6_takeRow_45 : decode cX6_takeRow 45 = .ok (.getfield 15, 3) := by decide +kernel
theorem dX6_takeRow_48 : decode cX6_takeRow 48 = .ok (.iload 4, 2) := by decide +kernel
theorem dX6_takeRow_50 : decode cX6_takeRow 50 = .ok (.iconst 3, 1) := by decide +kernel
theorem dX6_takeRow_51 : decode cX6_takeRow 51 = .ok (.iadd, 1) := by decide +kernel
theorem dX6_takeRow_52 : decode cX6_takeRow 52 = .ok (.iaload, 1) := by decide +kernel
theorem dX6_takeRow_53 : decode cX6_takeRow 53 = .ok (.invokevirtual 54, 3) := by decide +kernel
theorem dX6_takeRow_56 : decode cX6_takeRow 56 = .ok (.bipush (-2), 2) := by decide +kernel
theorem dX6_takeRow_58 : decode cX6_takeRow 58 = .ok (.if_icmp .eq 7, 3) := by decide +kernel
theorem dX6_takeRow_61 : decode cX6_takeRow 61 = .ok (.iconst 1, 1) := by decide +kernel
theorem dX6_takeRow_62 : decode cX6_takeRow 62 = .ok (.goto 4, 3) := by decide +kernel
theorem dX6_takeRow_65 : decode cX6_takeRow 65 = .ok (.iconst 0, 1) := by decide +kernel
theorem dX6_takeRow_66 : decode cX6_takeRow 66 = .ok (.ireturn, 1) := by decide +kernel
theorem EX6_takeRow {h : jj_H} {Q : Value → jj_H → Prop} (r0 : Nat) (r1 : Nat) (x2 : Int32) (H : ∀ d : jj_D, jK h r1 = 7 ∧ (jj_C mX6_find 0 0 [.ref r1, .int x2] h (fun v2 h1 => jj_vi (fun y3 => (¬ y3 = (-1) → jK h1 r1 = 7 ∧ (jK h1 (jR h1 300 r1 0) = 21 ∧ (vp_in ((4 * y3) + 1) (jN h1 (jR h1 300 r1 0)) ∧ (vp_in ((4 * y3) + 2) (jN h1 (jR h1 300 r1 0)) ∧ (vp_in ((4 * y3) + 3) (jN h1 (jR h1 300 r1 0)) ∧ (jK h1 r0 = 7 ∧ (jj_C mX6_setRow 0 0 [.ref r0, .int x2, .int (jI h1 1000 (jR h1 300 r1 0) (Int32.toNatClampNeg ((4 * y3) + 1))), .int (jI h1 1000 (jR h1 300 r1 0) (Int32.toNatClampNeg ((4 * y3) + 2))), .int (jI h1 1000 (jR h1 300 r1 0) (Int32.toNatClampNeg ((4 * y3) + 3)))] h1 (fun v7 h6 => jj_vi (fun y8 => (y8 = (-2) → Q (.int 0) h6) ∧ (¬ y8 = (-2) → Q (.int 1) h6)) v7)))))))) ∧ (y3 = (-1) → jK h1 r0 = 7 ∧ (jj_C mX6_removeRow 0 0 [.ref r0, .int x2] h1 (fun v12 h11 => jj_vi (fun y13 => Q (.int 1) h11) v12)))) v2))) : jj_C mX6_takeRow 0 0 [.ref r0, .ref r1, .int x2] h Q := j_enter (by decide +kernel) (Nat.le_of_ble_eq_true rfl) rfl fun d => have H := H d; j_aload_n dX6_takeRow_0 rfl 1 rfl (j_iload_n dX6_takeRow_1 rfl 2 rfl (j_callV0 (as := [.int x2]) cm_X6_find im_X6_find se_X6_find (ci := 6) rfl (by decide) ml_X6_35 ⟨by decide, by decide⟩ dX6_takeRow_2 rfl rfl (Nat.le_of_ble_eq_true rfl) H.1 (jj_C.mono H.2 (fun v2 h1 H4 => jj_vi_e (fun y3 H4 => j_istore_n (L' := [(3, .int y3), (0, .ref r0), (1, .ref r1), (2, .int x2)]) dX6_takeRow_5 rfl (by decide) rfl (j_iload_n dX6_takeRow_6 rfl 0 rfl (j_iconst (v := (-1)) dX6_takeRow_7 rfl (j_icmp_ne (tgt := 19) dX6_takeRow_8 (by decide) (fun c5 => j_iconst (v := 4) dX6_takeRow_19 rfl (j_iload_n dX6_takeRow_20 rfl 0 rfl (j_imul dX6_takeRow_21 (j_istore (L' := [(4, .int (4 * y3)), (3, .int y3), (0, .ref r0), (1, .ref r1), (2, .int x2)]) dX6_takeRow_22 (by decide) rfl (j_aload_n dX6_takeRow_24 rfl 2 rfl (j_iload_n dX6_takeRow_25 rfl 4 rfl (j_aload_n dX6_takeRow_26 rfl 3 rfl (j_getR (f := 300) cls_X6 0 (by decide) fl_X6_15 rfl rfl dX6_takeRow_27 (H4.1 c5).1 (j_iload dX6_takeRow_30 0 rfl (j_iconst (v := 1) dX6_takeRow_32 rfl (j_iadd dX6_takeRow_33 (j_iald dX6_takeRow_34 (H4.1 c5).2.1 (H4.1 c5).2.2.1 (j_aload_n dX6_takeRow_35 rfl 3 rfl (j_getR (f := 300) cls_X6 0 (by decide) fl_X6_15 rfl rfl dX6_takeRow_36 (H4.1 c5).1 (j_iload dX6_takeRow_39 0 rfl (j_iconst (v := 2) dX6_takeRow_41 rfl (j_iadd dX6_takeRow_42 (j_iald dX6_takeRow_43 (H4.1 c5).2.1 (H4.1 c5).2.2.2.1 (j_aload_n dX6_takeRow_44 rfl 3 rfl (j_getR (f := 300) cls_X6 0 (by decide) fl_X6_15 rfl rfl dX6_takeRow_45 (H4.1 c5).1 (j_iload dX6_takeRow_48 0 rfl (j_iconst (v := 3) dX6_takeRow_50 rfl (j_iadd dX6_takeRow_51 (j_iald dX6_takeRow_52 (H4.1 c5).2.1 (H4.1 c5).2.2.2.2.1 (j_callV0 (as := [.int x2, .int (jI h1 1000 (jR h1 300 r1 0) (Int32.toNatClampNeg ((4 * y3) + 1))), .int (jI h1 1000 (jR h1 300 r1 0) (Int32.toNatClampNeg ((4 * y3) + 2))), .int (jI h1 1000 (jR h1 300 r1 0) (Int32.toNatClampNeg ((4 * y3) + 3)))]) cm_X6_setRow im_X6_setRow se_X6_setRow (ci := 6) rfl (by decide) ml_X6_54 ⟨by decide, by decide⟩ dX6_takeRow_53 rfl rfl (Nat.le_of_ble_eq_true rfl) (H4.1 c5).2.2.2.2.2.1 (jj_C.mono (H4.1 c5).2.2.2.2.2.2 (fun v7 h6 H9 => jj_vi_e (fun y8 H9 => j_bipush (v := (-2)) dX6_takeRow_56 rfl (j_icmp_eq (tgt := 65) dX6_takeRow_58 (by decide) (fun c10 => j_iconst (v := 0) dX6_takeRow_65 rfl (j_ret (v := .int 0) ⟨dX6_takeRow_66, _, rfl, by decide⟩ rfl ((H9.1 c10)))) (fun c10 => j_iconst (v := 1) dX6_takeRow_61 rfl (j_goto (tgt := 66) dX6_takeRow_62 (by decide) (j_ret (v := .int 1) ⟨dX6_takeRow_66, _, rfl, by decide⟩ rfl ((H9.2 c10))))))) H9))))))))))))))))))))))))))) (fun c5 => j_aload_n dX6_takeRow_11 rfl 1 rfl (j_iload_n dX6_takeRow_12 rfl 3 rfl (j_callV0 (as := [.int x2]) cm_X6_removeRow im_X6_removeRow se_X6_removeRow (ci := 6) rfl (by decide) ml_X6_51 ⟨by decide, by decide⟩ dX6_takeRow_13 rfl rfl (Nat.le_of_ble_eq_true rfl) (H4.2 c5).1 (jj_C.mono (H4.2 c5).2 (fun v12 h11 H14 => jj_vi_e (fun y13 H14 => j_pop dX6_takeRow_16 rfl (j_iconst (v := 1) dX6_takeRow_17 rfl (j_ret (v := .int 1) ⟨dX6_takeRow_18, _, rfl, by decide⟩ rfl (H14)))) H14))))))))) H4))))
theorem dX6_append_0 : decode cX6_append 0 = .ok (.iload_n 2, 1) := by decide +kernel
theorem dX6_append_1 : decode cX6_append 1 = .ok (.ifCond .lt 11, 3) := by decide +kernel
theorem dX6_append_4 : decode cX6_append 4 = .ok (.iload_n 2, 1) := by decide +kernel
theorem dX6_append_5 : decode cX6_append 5 = .ok (.aload_n 1, 1) := by decide +kernel
theorem dX6_append_6 : decode cX6_append 6 = .ok (.getfield 21, 3) := by decide +kernel
theorem dX6_append_9 : decode cX6_append 9 = .ok (.if_icmp .lt 5, 3) := by decide +kernel
theorem dX6_append_12 : decode cX6_append 12 = .ok (.iconst 1, 1) := by decide +kernel
theorem dX6_append_13 : decode cX6_append 13 = .ok (.ireturn, 1) := by decide +kernel
theorem dX6_append_14 : decode cX6_append 14 = .ok (.iconst 4, 1) := by decide +kernel
theorem dX6_append_15 : decode cX6_append 15 = .ok (.aload_n 0, 1) := by decide +kernel
theorem dX6_append_16 : decode cX6_append 16 = .ok (.getfield 21, 3) := by decide +kernel
theorem dX6_append_19 : decode cX6_append 19 = .ok (.iconst 1, 1) := by decide +kernel
theorem dX6_append_20 : decode cX6_append 20 = .ok (.iadd, 1) := by decide +kernel
theorem dX6_append_21 : decode cX6_append 21 = .ok (.imul, 1) := by decide +kernel
theorem dX6_append_22 : decode cX6_append 22 = .ok (.aload_n 0, 1) := by decide +kernel
theorem dX6_append_23 : decode cX6_append 23 = .ok (.getfield 15, 3) := by decide +kernel
theorem dX6_append_26 : decode cX6_append 26 = .ok (.arraylength, 1) := by decide +kernel
theorem dX6_append_27 : decode cX6_append 27 = .ok (.if_icmp .le 5, 3) := by decide +kernel
theorem dX6_append_30 : decode cX6_append 30 = .ok (.iconst 0, 1) := by decide +kernel
theorem dX6_append_31 : decode cX6_append 31 = .ok (.ireturn, 1) := by decide +kernel
theorem dX6_append_32 : decode cX6_append 32 = .ok (.aload_n 1, 1) := by decide +kernel
theorem dX6_append_33 : decode cX6_append 33 = .ok (.getfield 15, 3) := by decide +kernel
theorem dX6_append_36 : decode cX6_append 36 = .ok (.iconst 4, 1) := by decide +kernel
theorem dX6_append_37 : decode cX6_append 37 = .ok (.iload_n 2, 1) := by decide +kernel
theorem dX6_append_38 : decode cX6_append 38 = .ok (.imul, 1) := by decide +kernel
theorem dX6_append_39 : decode cX6_append 39 = .ok (.aload_n 0, 1) := by decide +kernel
theorem dX6_append_40 : decode cX6_append 40 = .ok (.getfield 15, 3) := by decide +kernel
theorem dX6_append_43 : decode cX6_append 43 = .ok (.iconst 4, 1) := by decide +kernel
theorem dX6_append_44 : decode cX6_append 44 = .ok (.aload_n 0, 1) := by decide +kernel
theorem dX6_append_45 : decode cX6_append 45 = .ok (.getfield 21, 3) := by decide +kernel
theorem dX6_append_48 : decode cX6_append 48 = .ok (.imul, 1) := by decide +kernel
theorem dX6_append_49 : decode cX6_append 49 = .ok (.iconst 4, 1) := by decide +kernel
theorem dX6_append_50 : decode cX6_append 50 = .ok (.invokestatic 45, 3) := by decide +kernel
theorem dX6_append_53 : decode cX6_append 53 = .ok (.aload_n 0, 1) := by decide +kernel
theorem dX6_append_54 : decode cX6_append 54 = .ok (.dup, 1) := by decide +kernel
theorem dX6_append_55 : decode cX6_append 55 = .ok (.getfield 21, 3) := by decide +kernel
theorem dX6_append_58 : decode cX6_append 58 = .ok (.iconst 1, 1) := by decide +kernel
theorem dX6_append_59 : decode cX6_append 59 = .ok (.iadd, 1) := by decide +kernel
theorem dX6_append_60 : decode cX6_append 60 = .ok (.putfield 21, 3) := by decide +kernel
theorem dX6_append_63 : decode cX6_append 63 = .ok (.iconst 1, 1) := by decide +kernel
theorem dX6_append_64 : decode cX6_append 64 = .ok (.ireturn, 1) := by decide +kernel
theorem EX6_append {h : jj_H} {Q : Value → jj_H → Prop} (r0 : Nat) (r1 : Nat) (x2 : Int32) (H : ∀ d : jj_D, (x2 < 0 → Q (.int 1) h) ∧ (¬ x2 < 0 → jK h r1 = 7 ∧ ((x2 < (jI h 301 r1 0) → jK h r0 = 7 ∧ (jK h (jR h 300 r0 0) = 21 ∧ (((4 * ((jI h 301 r0 0) + 1)) ≤ (nI (jN h (jR h 300 r0 0))) → jK h (jR h 300 r1 0) = 21 ∧ (¬ (4 * x2) < 0 ∧ (¬ (4 * (jI h 301 r0 0)) < 0 ∧ (¬ (4 : Int32) < 0 ∧ (Int32.toNatClampNeg (4 * x2) + Int32.toNatClampNeg (4 : Int32) ≤ jN h (jR h 300 r1 0) ∧ (Int32.toNatClampNeg (4 * (jI h 301 r0 0)) + Int32.toNatClampNeg (4 : Int32) ≤ jN h (jR h 300 r0 0) ∧ (∀ h4, h4 = wC h (jR h 300 r1 0) (Int32.toNatClampNeg (4 * x2)) (jR h 300 r0 0) (Int32.toNatClampNeg (4 * (jI h 301 r0 0))) (Int32.toNatClampNeg (4 : Int32)) → (∀ h5, h5 = wI h4 301 r0 0 ((jI h4 301 r0 0) + 1) → (Q (.int 1) h5))))))))) ∧ (¬ (4 * ((jI h 301 r0 0) + 1)) ≤ (nI (jN h (jR h 300 r0 0))) → Q (.int 0) h)))) ∧ (¬ x2 < (jI h 301 r1 0) → Q (.int 1) h)))) : jj_C mX6_append 0 0 [.ref r0, .ref r1, .int x2] h Q := j_enter (by decide +kernel) (Nat.le_of_ble_eq_true rfl) rfl fun d => have H := H d; j_iload_n dX6_append_0 rfl 2 rfl (j_if_lt (tgt := 12) dX6_append_1 (by decide) (fun c1 => j_iconst (v := 1) dX6_append_12 rfl (j_ret (v := .int 1) ⟨dX6_append_13, _, rfl, by decide⟩ rfl ((H.1 c1)))) (fun c1 => j_iload_n dX6_append_4 rfl 2 rfl (j_aload_n dX6_append_5 rfl 1 rfl (j_getI (f := 301) cls_X6 1 (by decide) fl_X6_21 rfl (by decide) dX6_append_6 (H.2 c1).1 (j_icmp_lt (tgt := 14) dX6_append_9 (by decide) (fun c2 => j_iconst (v := 4) dX6_append_14 rfl (j_aload_n dX6_append_15 rfl 0 rfl (j_getI (f := 301) cls_X6 1 (by decide) fl_X6_21 rfl (by decide) dX6_append_16 ((H.2 c1).2.1 c2).1 (j_iconst (v := 1) dX6_append_19 rfl (j_iadd dX6_append_20 (j_imul dX6_append_21 (j_aload_n dX6_append_22 rfl 0 rfl (j_getR (f := 300) cls_X6 0 (by decide) fl_X6_15 rfl rfl dX6_append_23 ((H.2 c1).2.1 c2).1 (j_alenI dX6_append_26 ((H.2 c1).2.1 c2).2.1 (j_icmp_le (tgt := 32) dX6_append_27 (by decide) (fun c3 => j_aload_n dX6_append_32 rfl 1 rfl (j_getR (f := 300) cls_X6 0 (by decide) fl_X6_15 rfl rfl dX6_append_33 (H.2 c1).1 (j_iconst (v := 4) dX6_append_36 rfl (j_iload_n dX6_append_37 rfl 2 rfl (j_imul dX6_append_38 (j_aload_n dX6_append_39 rfl 0 rfl (j_getR (f := 300) cls_X6 0 (by decide) fl_X6_15 rfl rfl dX6_append_40 ((H.2 c1).2.1 c2).1 (j_iconst (v := 4) dX6_append_43 rfl (j_aload_n dX6_append_44 rfl 0 rfl (j_getI (f := 301) cls_X6 1 (by decide) fl_X6_21 rfl (by decide) dX6_append_45 ((H.2 c1).2.1 c2).1 (j_imul dX6_append_48 (j_iconst (v := 4) dX6_append_49 rfl (j_copy ml_X6_45 nat_copy sta_copy it_System (Nat.le_of_ble_eq_true rfl) (by decide) (by decide) dX6_append_50 (((H.2 c1).2.1 c2).2.2.1 c3).1 ((H.2 c1).2.1 c2).2.1 (((H.2 c1).2.1 c2).2.2.1 c3).2.1 (((H.2 c1).2.1 c2).2.2.1 c3).2.2.1 (((H.2 c1).2.1 c2).2.2.1 c3).2.2.2.1 (((H.2 c1).2.1 c2).2.2.1 c3).2.2.2.2.1 (((H.2 c1).2.1 c2).2.2.1 c3).2.2.2.2.2.1 (j_aload_n dX6_append_53 rfl 0 rfl (j_dup dX6_append_54 rfl (j_getI (f := 301) cls_X6 1 (by decide) fl_X6_21 rfl (by decide) dX6_append_55 ((H.2 c1).2.1 c2).1 (j_iconst (v := 1) dX6_append_58 rfl (j_iadd dX6_append_59 (j_putI (f := 301) cls_X6 1 (by decide) fl_X6_21 rfl rfl rfl (Or.inl rfl) dX6_append_60 ((H.2 c1).2.1 c2).1 (j_iconst (v := 1) dX6_append_63 rfl (j_ret (v := .int 1) ⟨dX6_append_64, _, rfl, by decide⟩ rfl ((((((H.2 c1).2.1 c2).2.2.1 c3).2.2.2.2.2.2 _ rfl) _ rfl))))))))))))))))))))))) (fun c3 => j_iconst (v := 0) dX6_append_30 rfl (j_ret (v := .int 0) ⟨dX6_append_31, _, rfl, by decide⟩ rfl ((((H.2 c1).2.1 c2).2.2.2 c3)))))))))))))) (fun c2 => j_iconst (v := 1) dX6_append_12 rfl (j_ret (v := .int 1) ⟨dX6_append_13, _, rfl, by decide⟩ rfl (((H.2 c1).2.2 c2)))))))))
theorem dX6_become_0 : decode cX6_become 0 = .ok (.iconst 4, 1) := by decide +kernel
theorem dX6_become_1 : decode cX6_become 1 = .ok (.aload_n 1, 1) := by decide +kernel
theorem dX6_become_2 : decode cX6_become 2 = .ok (.getfield 21, 3) := by decide +kernel
theorem dX6_become_5 : decode cX6_become 5 = .ok (.imul, 1) := by decide +kernel
theorem dX6_become_6 : decode cX6_become 6 = .ok (.istore_n 2, 1) := by decide +kernel
theorem dX6_become_7 : decode cX6_become 7 = .ok (.iload_n 2, 1) := by decide +kernel
theorem dX6_become_8 : decode cX6_become 8 = .ok (.aload_n 0, 1) := by decide +kernel
theorem dX6_become_9 : decode cX6_become 9 = .ok (.getfield 15, 3) := by decide +kernel
theorem dX6_become_12 : decode cX6_become 12 = .ok (.arraylength, 1) := by decide +kernel
theorem dX6_become_13 : decode cX6_become 13 = .ok (.if_icmp .gt 25, 3) := by decide +kernel
theorem dX6_become_16 : decode cX6_become 16 = .ok (.aload_n 1, 1) := by decide +kernel
theorem dX6_become_17 : decode cX6_become 17 = .ok (.getfield 15, 3) := by decide +kernel
theorem dX6_become_20 : decode cX6_become 20 = .ok (.iconst 0, 1) := by decide +kernel
theorem dX6_become_21 : decode cX6_become 21 = .ok (.aload_n 0, 1) := by decide +kernel
theorem dX6_become_22 : decode cX6_become 22 = .ok (.getfield 15, 3) := by decide +kernel
theorem dX6_become_25 : decode cX6_become 25 = .ok (.iconst 0, 1) := by decide +kernel
theorem dX6_become_26 : decode cX6_become 26 = .ok (.iload_n 2, 1) := by decide +kernel
theorem dX6_become_27 : decode cX6_become 27 = .ok (.invokestatic 45, 3) := by decide +kernel
theorem dX6_become_30 : decode cX6_become 30 = .ok (.aload_n 0, 1) := by decide +kernel
theorem dX6_become_31 : decode cX6_become 31 = .ok (.aload_n 1, 1) := by decide +kernel
theorem dX6_become_32 : decode cX6_become 32 = .ok (.getfield 21, 3) := by decide +kernel
theorem dX6_become_35 : decode cX6_become 35 = .ok (.putfield 21, 3) := by decide +kernel
theorem dX6_become_38 : decode cX6_become 38 = .ok (.return_, 1) := by decide +kernel
theorem EX6_become {h : jj_H} {Q : Value → jj_H → Prop} (r0 : Nat) (r1 : Nat) (H : ∀ d : jj_D, jK h r1 = 7 ∧ (jK h r0 = 7 ∧ (jK h (jR h 300 r0 0) = 21 ∧ (((nI (jN h (jR h 300 r0 0))) < (4 * (jI h 301 r1 0)) → Q (.int 0) h) ∧ (¬ (nI (jN h (jR h 300 r0 0))) < (4 * (jI h 301 r1 0)) → jK h (jR h 300 r1 0) = 21 ∧ (¬ (0 : Int32) < 0 ∧ (¬ (4 * (jI h 301 r1 0)) < 0 ∧ (Int32.toNatClampNeg (0 : Int32) + Int32.toNatClampNeg (4 * (jI h 301 r1 0)) ≤ jN h (jR h 300 r1 0) ∧ (Int32.toNatClampNeg (0 : Int32) + Int32.toNatClampNeg (4 * (jI h 301 r1 0)) ≤ jN h (jR h 300 r0 0) ∧ (∀ h2, h2 = wC h (jR h 300 r1 0) (Int32.toNatClampNeg (0 : Int32)) (jR h 300 r0 0) (Int32.toNatClampNeg (0 : Int32)) (Int32.toNatClampNeg (4 * (jI h 301 r1 0))) → (∀ h3, h3 = wI h2 301 r0 0 (jI h2 301 r1 0) → (Q (.int 0) h3)))))))))))) : jj_C mX6_become 0 0 [.ref r0, .ref r1] h Q := j_enter (by decide +kernel) (Nat.le_of_ble_eq_true rfl) rfl fun d => have H := H d; j_iconst (v := 4) dX6_become_0 rfl (j_aload_n dX6_become_1 rfl 1 rfl (j_getI (f := 301) cls_X6 1 (by decide) fl_X6_21 rfl (by decide) dX6_become_2 H.1 (j_imul dX6_become_5 (j_istore_n (L' := [(2, .int (4 * (jI h 301 r1 0))), (0, .ref r0), (1, .ref r1)]) dX6_become_6 rfl (by decide) rfl (j_iload_n dX6_become_7 rfl 0 rfl (j_aload_n dX6_become_8 rfl 1 rfl (j_getR (f := 300) cls_X6 0 (by decide) fl_X6_15 rfl rfl dX6_become_9 H.2.1 (j_alenI dX6_become_12 H.2.2.1 (j_icmp_gt (tgt := 38) dX6_become_13 (by decide) (fun c1 => j_ret (v := .int 0) dX6_become_38 rfl ((H.2.2.2.1 c1))) (fun c1 => j_aload_n dX6_become_16 rfl 2 rfl (j_getR (f := 300) cls_X6 0 (by decide) fl_X6_15 rfl rfl dX6_become_17 H.1 (j_iconst (v := 0) dX6_become_20 rfl (j_aload_n dX6_become_21 rfl 1 rfl (j_getR (f := 300) cls_X6 0 (by decide) fl_X6_15 rfl rfl dX6_become_22 H.2.1 (j_iconst (v := 0) dX6_become_25 rfl (j_iload_n dX6_become_26 rfl 0 rfl (j_copy ml_X6_45 nat_copy sta_copy it_System (Nat.le_of_ble_eq_true rfl) (by decide) (by decide) dX6_become_27 (H.2.2.2.2 c1).1 H.2.2.1 (H.2.2.2.2 c1).2.1 (H.2.2.2.2 c1).2.1 (H.2.2.2.2 c1).2.2.1 (H.2.2.2.2 c1).2.2.2.1 (H.2.2.2.2 c1).2.2.2.2.1 (j_aload_n dX6_become_30 rfl 1 rfl (j_aload_n dX6_become_31 rfl 2 rfl (j_getI (f := 301) cls_X6 1 (by decide) fl_X6_21 rfl (by decide) dX6_become_32 H.1 (j_putI (f := 301) cls_X6 1 (by decide) fl_X6_21 rfl rfl rfl (Or.inl rfl) dX6_become_35 H.2.1 (j_ret (v := .int 0) dX6_become_38 rfl ((((H.2.2.2.2 c1).2.2.2.2.2 _ rfl) _ rfl))))))))))))))))))))))))
theorem dX6_isSame_0 : decode cX6_isSame 0 = .ok (.aload_n 0, 1) := by decide +kernel
theorem dX6_isSame_1 : decode cX6_isSame 1 = .ok (.getfield 21, 3) := by decide +kernel
theorem dX6_isSame_4 : decode cX6_isSame 4 = .ok (.aload_n 1, 1) := by decide +kernel
theorem dX6_isSame_5 : decode cX6_isSame 5 = .ok (.getfield 21, 3) := by decide +kernel
theorem dX6_isSame_8 : decode cX6_isSame 8 = .ok (.if_icmp .ne 21, 3) := by decide +kernel
theorem dX6_isSame_11 : decode cX6_isSame 11 = .ok (.aload_n 0, 1) := by decide +kernel
theorem dX6_isSame_12 : decode cX6_isSame 12 = .ok (.iconst 0, 1) := by decide +kernel
theorem dX6_isSame_13 : decode cX6_isSame 13 = .ok (.aload_n 1, 1) := by decide +kernel
theorem dX6_isSame_14 : decode cX6_isSame 14 = .ok (.iconst 0, 1) := by decide +kernel
theorem dX6_isSame_15 : decode cX6_isSame 15 = .ok (.aload_n 0, 1) := by decide +kernel
theorem dX6_isSame_16 : decode cX6_isSame 16 = .ok (.getfield 21, 3) := by decide +kernel
theorem dX6_isSame_19 : decode cX6_isSame 19 = .ok (.invokevirtual 58, 3) := by decide +kernel
theorem dX6_isSame_22 : decode cX6_isSame 22 = .ok (.ifCond .eq 7, 3) := by decide +kernel
theorem dX6_isSame_25 : decode cX6_isSame 25 = .ok (.iconst 1, 1) := by decide +kernel
theorem dX6_isSame_26 : decode cX6_isSame 26 = .ok (.goto 4, 3) := by decide +kernel
theorem dX6_isSame_29 : decode cX6_isSame 29 = .ok (.iconst 0, 1) := by decide +kernel
theorem dX6_isSame_30 : decode cX6_isSame 30 = .ok (.ireturn, 1) := by decide +kernel
theorem EX6_isSame {h : jj_H} {Q : Value → jj_H → Prop} (r0 : Nat) (r1 : Nat) (H : ∀ d : jj_D, jK h r0 = 7 ∧ (jK h r1 = 7 ∧ ((¬ (jI h 301 r0 0) = (jI h 301 r1 0) → Q (.int 0) h) ∧ ((jI h 301 r0 0) = (jI h 301 r1 0) → jj_C mX6_matches 0 0 [.ref r0, .int 0, .ref r1, .int 0, .int (jI h 301 r0 0)] h (fun v3 h2 => jj_vi (fun y4 => (y4 = 0 → Q (.int 0) h2) ∧ (¬ y4 = 0 → Q (.int 1) h2)) v3))))) : jj_C mX6_isSame 0 0 [.ref r0, .ref r1] h Q := j_enter (by decide +kernel) (Nat.le_of_ble_eq_true rfl) rfl fun d => have H := H d; j_aload_n dX6_isSame_0 rfl 0 rfl (j_getI (f := 301) cls_X6 1 (by decide) fl_X6_21 rfl (by decide) dX6_isSame_1 H.1 (j_aload_n dX6_isSame_4 rfl 1 rfl (j_getI (f := 301) cls_X6 1 (by decide) fl_X6_21 rfl (by decide) dX6_isSame_5 H.2.1 (j_icmp_ne (tgt := 29) dX6_isSame_8 (by decide) (fun c1 => j_iconst (v := 0) dX6_isSame_29 rfl (j_ret (v := .int 0) ⟨dX6_isSame_30, _, rfl, by decide⟩ rfl ((H.2.2.1 c1)))) (fun c1 => j_aload_n dX6_isSame_11 rfl 0 rfl (j_iconst (v := 0) dX6_isSame_12 rfl (j_aload_n dX6_isSame_13 rfl 1 rfl (j_iconst (v := 0) dX6_isSame_14 rfl (j_aload_n dX6_isSame_15 rfl 0 rfl (j_getI (f := 301) cls_X6 1 (by decide) fl_X6_21 rfl (by decide) dX6_isSame_16 H.1 (j_callV0 (as := [.int 0, .ref r1, .int 0, .int (jI h 301 r0 0)]) cm_X6_matches im_X6_matches se_X6_matches (ci := 6) rfl (by decide) ml_X6_58 ⟨by decide, by decide⟩ dX6_isSame_19 rfl rfl (Nat.le_of_ble_eq_true rfl) H.1 (jj_C.mono (H.2.2.2 c1) (fun v3 h2 H5 => jj_vi_e (fun y4 H5 => j_if_eq (tgt := 29) dX6_isSame_22 (by decide) (fun c6 => j_iconst (v := 0) dX6_isSame_29 rfl (j_ret (v := .int 0) ⟨dX6_isSame_30, _, rfl, by decide⟩ rfl ((H5.1 c6)))) (fun c6 => j_iconst (v := 1) dX6_isSame_25 rfl (j_goto (tgt := 30) dX6_isSame_26 (by decide) (j_ret (v := .int 1) ⟨dX6_isSame_30, _, rfl, by decide⟩ rfl ((H5.2 c6)))))) H5)))))))))))))
theorem dX6_isSameRow_0 : decode cX6_isSameRow 0 = .ok (.iload_n 1, 1) := by decide +kernel
theorem dX6_isSameRow_1 : decode cX6_isSameRow 1 = .ok (.iconst (-1), 1) := by decide +kernel
theorem dX6_isSameRow_2 : decode cX6_isSameRow 2 = .ok (.if_icmp .eq 8, 3) := by decide +kernel
theorem dX6_isSameRow_5 : decode cX6_isSameRow 5 = .ok (.iload_n 3, 1) := by decide +kernel
theorem dX6_isSameRow_6 : decode cX6_isSameRow 6 = .ok (.iconst (-1), 1) := by decide +kernel
theorem dX6_isSameRow_7 : decode cX6_isSameRow 7 = .ok (.if_icmp .ne 14, 3) := by decide +kernel
theorem dX6_isSameRow_10 : decode cX6_isSameRow 10 = .ok (.iload_n 1, 1) := by decide +kernel
theorem dX6_isSameRow_11 : decode cX6_isSameRow 11 = .ok (.iload_n 3, 1) := by decide +kernel
theorem dX6_isSameRow_12 : decode cX6_isSameRow 12 = .ok (.if_icmp .ne 7, 3) := by decide +kernel
theorem dX6_isSameRow_15 : decode cX6_isSameRow 15 = .ok (.iconst 1, 1) := by decide +kernel
theorem dX6_isSameRow_16 : decode cX6_isSameRow 16 = .ok (.goto 4, 3) := by decide +kernel
theorem dX6_isSameRow_19 : decode cX6_isSameRow 19 = .ok (.iconst 0, 1) := by decide +kernel
theorem dX6_isSameRow_20 : decode cX6_isSameRow 20 = .ok (.ireturn, 1) := by decide +kernel
theorem dX6_isSameRow_21 : decode cX6_isSameRow 21 = .ok (.aload_n 0, 1) := by decide +kernel
theorem dX6_isSameRow_22 : decode cX6_isSameRow 22 = .ok (.iload_n 1, 1) := by decide +kernel
theorem dX6_isSameRow_23 : decode cX6_isSameRow 23 = .ok (.aload_n 2, 1) := by decide +kernel
theorem dX6_isSameRow_24 : decode cX6_isSameRow 24 = .ok (.iload_n 3, 1) := by decide +kernel
theorem dX6_isSameRow_25 : decode cX6_isSameRow 25 = .ok (.iconst 1, 1) := by decide +kernel
theorem dX6_isSameRow_26 : decode cX6_isSameRow 26 = .ok (.invokevirtual 58, 3) := by decide +kernel
theorem dX6_isSameRow_29 : decode cX6_isSameRow 29 = .ok (.ireturn, 1) := by decide +kernel
theorem EX6_isSameRow {h : jj_H} {Q : Value → jj_H → Prop} (r0 : Nat) (x1 : Int32) (r2 : Nat) (x3 : Int32) (H : ∀ d : jj_D, (x1 = (-1) → (¬ x1 = x3 → Q (.int 0) h) ∧ (x1 = x3 → Q (.int 1) h)) ∧ (¬ x1 = (-1) → (¬ x3 = (-1) → jK h r0 = 7 ∧ (jj_C mX6_matches 0 0 [.ref r0, .int x1, .ref r2, .int x3, .int 1] h (fun v5 h4 => jj_vi (fun y6 => (y6 = 0 ∨ y6 = 1) ∧ Q (.int y6) h4) v5))) ∧ (x3 = (-1) → (¬ x1 = x3 → Q (.int 0) h) ∧ (x1 = x3 → Q (.int 1) h)))) : jj_C mX6_isSameRow 0 0 [.ref r0, .int x1, .ref r2, .int x3] h Q := j_enter (by decide +kernel) (Nat.le_of_ble_eq_true rfl) rfl fun d => have H := H d; j_iload_n dX6_isSameRow_0 rfl 1 rfl (j_iconst (v := (-1)) dX6_isSameRow_1 rfl (j_icmp_eq (tgt := 10) dX6_isSameRow_2 (by decide) (fun c1 => j_iload_n dX6_isSameRow_10 rfl 1 rfl (j_iload_n dX6_isSameRow_11 rfl 3 rfl (j_icmp_ne (tgt := 19) dX6_isSameRow_12 (by decide) (fun c2 => j_iconst (v := 0) dX6_isSameRow_19 rfl (j_ret (v := .int 0) ⟨dX6_isSameRow_20, _, rfl, by decide⟩ rfl (((H.1 c1).1 c2)))) (fun c2 => j_iconst (v := 1) dX6_isSameRow_15 rfl (j_goto (tgt := 20) dX6_isSameRow_16 (by decide) (j_ret (v := .int 1) ⟨dX6_isSameRow_20, _, rfl, by decide⟩ rfl (((H.1 c1).2 c2)))))))) (fun c1 => j_iload_n dX6_isSameRow_5 rfl 3 rfl (j_iconst (v := (-1)) dX6_isSameRow_6 rfl (j_icmp_ne (tgt := 21) dX6_isSameRow_7 (by decide) (fun c3 => j_aload_n dX6_isSameRow_21 rfl 0 rfl (j_iload_n dX6_isSameRow_22 rfl 1 rfl (j_aload_n dX6_isSameRow_23 rfl 2 rfl (j_iload_n dX6_isSameRow_24 rfl 3 rfl (j_iconst (v := 1) dX6_isSameRow_25 rfl (j_callV0 (as := [.int x1, .ref r2, .int x3, .int 1]) cm_X6_matches im_X6_matches se_X6_matches (ci := 6) rfl (by decide) ml_X6_58 ⟨by decide, by decide⟩ dX6_isSameRow_26 rfl rfl (Nat.le_of_ble_eq_true rfl) ((H.2 c1).1 c3).1 (jj_C.mono ((H.2 c1).1 c3).2 (fun v5 h4 H7 => jj_vi_e (fun y6 H7 => j_ret (v := .int y6) ⟨dX6_isSameRow_29, _, rfl, H7.1⟩ rfl (H7.2)) H7)))))))) (fun c3 => j_iload_n dX6_isSameRow_10 rfl 1 rfl (j_iload_n dX6_isSameRow_11 rfl 3 rfl (j_icmp_ne (tgt := 19) dX6_isSameRow_12 (by decide) (fun c8 => j_iconst (v := 0) dX6_isSameRow_19 rfl (j_ret (v := .int 0) ⟨dX6_isSameRow_20, _, rfl, by decide⟩ rfl ((((H.2 c1).2 c3).1 c8)))) (fun c8 => j_iconst (v := 1) dX6_isSameRow_15 rfl (j_goto (tgt := 20) dX6_isSameRow_16 (by decide) (j_ret (v := .int 1) ⟨dX6_isSameRow_20, _, rfl, by decide⟩ rfl ((((H.2 c1).2 c3).2 c8)))))))))))))
theorem dX6_matches_0 : decode cX6_matches 0 = .ok (.iload_n 1, 1) := by decide +kernel
theorem dX6_matches_1 : decode cX6_matches 1 = .ok (.ifCond .lt 29, 3) := by decide +kernel
theorem dX6_matches_4 : decode cX6_matches 4 = .ok (.iload_n 3, 1) := by decide +kernel
theorem dX6_matches_5 : decode cX6_matches 5 = .ok (.ifCond .lt 25, 3) := by decide +kernel
theorem dX6_matches_8 : decode cX6_matches 8 = .ok (.iload_n 1, 1) := by decide +kernel
theorem dX6_matches_9 : decode cX6_matches 9 = .ok (.iload 4, 2) := by decide +kernel
theorem dX6_matches_11 : decode cX6_matches 11 = .ok (.iadd, 1) := by decide +kernel
theorem dX6_matches_12 : decode cX6_matches 12 = .ok (.aload_n 0, 1) := by decide +kernel
theorem dX6_matches_13 : decode cX6_matches 13 = .ok (.getfield 21, 3) := by decide +kernel
theorem dX6_matches_16 : decode cX6_matches 16 = .ok (.if_icmp .gt 14, 3) := by decide +kernel
theorem dX6_matches_19 : decode cX6_matches 19 = .ok (.iload_n 3, 1) := by decide +kernel
theorem dX6_matches_20 : decode cX6_matches 20 = .ok (.iload 4, 2) := by decide +kernel
theorem dX6_matches_22 : decode cX6_matches 22 = .ok (.iadd, 1) := by decide +kernel
theorem dX6_matches_23 : decode cX6_matches 23 = .ok (.aload_n 2, 1) := by decide +kernel
theorem dX6_matches_24 : decode cX6_matches 24 = .ok (.getfield 21, 3) := by decide +kernel
theorem dX6_matches_27 : decode cX6_matches 27 = .ok (.if_icmp .le 5, 3) := by decide +kernel
theorem dX6_matches_30 : decode cX6_matches 30 = .ok (.iconst 0, 1) := by decide +kernel
theorem dX6_matches_31 : decode cX6_matches 31 = .ok (.ireturn, 1) := by decide +kernel
theorem dX6_matches_32 : decode cX6_matches 32 = .ok (.iconst 4, 1) := by decide +kernel
theorem dX6_matches_33 : decode cX6_matches 33 = .ok (.iload_n 3, 1) := by decide +kernel
theorem dX6_matches_34 : decode cX6_matches 34 = .ok (.iload_n 1, 1) := by decide +kernel
theorem dX6_matches_35 : decode cX6_matches 35 = .ok (.isub, 1) := by decide +kernel
theorem dX6_matches_36 : decode cX6_matches 36 = .ok (.imul, 1) := by decide +kernel
theorem dX6_matches_37 : decode cX6_matches 37 = .ok (.istore 5, 2) := by decide +kernel
theorem dX6_matches_39 : decode cX6_matches 39 = .ok (.iconst 4, 1) := by decide +kernel
theorem dX6_matches_40 : decode cX6_matches 40 = .ok (.iload_n 1, 1) := by decide +kernel
theorem dX6_matches_41 : decode cX6_matches 41 = .ok (.imul, 1) := by decide +kernel
theorem dX6_matches_42 : decode cX6_matches 42 = .ok (.istore 6, 2) := by decide +kernel
theorem dX6_matches_44 : decode cX6_matches 44 = .ok (.iload 6, 2) := by decide +kernel
theorem dX6_matches_46 : decode cX6_matches 46 = .ok (.iconst 4, 1) := by decide +kernel
theorem dX6_matches_47 : decode cX6_matches 47 = .ok (.iload_n 1, 1) := by decide +kernel
theorem dX6_matches_48 : decode cX6_matches 48 = .ok (.iload 4, 2) := by decide +kernel
theorem dX6_matches_50 : decode cX6_matches 50 = .ok (.iadd, 1) := by decide +kernel
theorem dX6_matches_51 : decode cX6_matches 51 = .ok (.imul, 1) := by decide +kernel
theorem dX6_matches_52 : decode cX6_matches 52 = .ok (.if_icmp .ge 31, 3) := by decide +kernel
theorem dX6_matches_55 : decode cX6_matches 55 = .ok (.aload_n 0, 1) := by decide +kernel
theorem dX6_matches_56 : decode cX6_matches 56 = .ok (.getfield 15, 3) := by decide +kernel
theorem dX6_matches_59 : decode cX6_matches 59 = .ok (.iload 6, 2) := by decide +kernel
theorem dX6_matches_61 : decode cX6_matches 61 = .ok (.iaload, 1) := by decide +kernel
theorem dX6_matches_62 : decode cX6_matches 62 = .ok (.aload_n 2, 1) := by decide +kernel
theorem dX6_matches_63 : decode cX6_matches 63 = .ok (.getfield 15, 3) := by decide +kernel
theorem dX6_matches_66 : decode cX6_matches 66 = .ok (.iload 6, 2) := by decide +kernel
theorem dX6_matches_68 : decode cX6_matches 68 = .ok (.iload 5, 2) := by decide +kernel
theorem dX6_matches_70 : decode cX6_matches 70 = .ok (.iadd, 1) := by decide +kernel
theorem dX6_matches_71 : decode cX6_matches 71 = .ok (.iaload, 1) := by decide +kernel
theorem dX6_matches_72 : decode cX6_matches 72 = .ok (.if_icmp .eq 5, 3) := by decide +kernel
theorem dX6_matches_75 : decode cX6_matches 75 = .ok (.iconst 0, 1) := by decide +kernel
theorem dX6_matches_76 : decode cX6_matches 76 = .ok (.ireturn, 1) := by decide +kernel
theorem dX6_matches_77 : decode cX6_matches 77 = .ok (.iinc 6 1, 3) := by decide +kernel
theorem dX6_matches_80 : decode cX6_matches 80 = .ok (.goto (-36), 3) := by decide +kernel
theorem dX6_matches_83 : decode cX6_matches 83 = .ok (.iconst 1, 1) := by decide +kernel
theorem dX6_matches_84 : decode cX6_matches 84 = .ok (.ireturn, 1) := by decide +kernel
theorem EX6_matches {h : jj_H} {Q : Value → jj_H → Prop} (r0 : Nat) (x1 : Int32) (r2 : Nat) (x3 : Int32) (x4 : Int32) (H : ∀ d : jj_D, (x1 < 0 → Q (.int 0) h) ∧ (¬ x1 < 0 → (x3 < 0 → Q (.int 0) h) ∧ (¬ x3 < 0 → jK h r0 = 7 ∧ (((jI h 301 r0 0) < (x1 + x4) → Q (.int 0) h) ∧ (¬ (jI h 301 r0 0) < (x1 + x4) → jK h r2 = 7 ∧ (((x3 + x4) ≤ (jI h 301 r2 0) → jj_WP d mX6_matches 0 0 44 [(0, .ref r0), (1, .int x1), (2, .ref r2), (4, .int x4), (5, .int (4 * (x3 - x1))), (6, .int (4 * x1))] [] h Q) ∧ (¬ (x3 + x4) ≤ (jI h 301 r2 0) → Q (.int 0) h))))))) : jj_C mX6_matches 0 0 [.ref r0, .int x1, .ref r2, .int x3, .int x4] h Q := j_enter (by decide +kernel) (Nat.le_of_ble_eq_true rfl) rfl fun d => have H := H d; j_iload_n dX6_matches_0 rfl 1 rfl (j_if_lt (tgt := 30) dX6_matches_1 (by decide) (fun c1 => j_iconst (v := 0) dX6_matches_30 rfl (j_ret (v := .int 0) ⟨dX6_matches_31, _, rfl, by decide⟩ rfl ((H.1 c1)))) (fun c1 => j_iload_n dX6_matches_4 rfl 3 rfl (j_if_lt (tgt := 30) dX6_matches_5 (by decide) (fun c2 => j_iconst (v := 0) dX6_matches_30 rfl (j_ret (v := .int 0) ⟨dX6_matches_31, _, rfl, by decide⟩ rfl (((H.2 c1).1 c2)))) (fun c2 => j_iload_n dX6_matches_8 rfl 1 rfl (j_iload dX6_matches_9 4 rfl (j_iadd dX6_matches_11 (j_aload_n dX6_matches_12 rfl 0 rfl (j_getI (f := 301) cls_X6 1 (by decide) fl_X6_21 rfl (by decide) dX6_matches_13 ((H.2 c1).2 c2).1 (j_icmp_gt (tgt := 30) dX6_matches_16 (by decide) (fun c3 => j_iconst (v := 0) dX6_matches_30 rfl (j_ret (v := .int 0) ⟨dX6_matches_31, _, rfl, by decide⟩ rfl ((((H.2 c1).2 c2).2.1 c3)))) (fun c3 => j_iload_n dX6_matches_19 rfl 3 rfl (j_iload dX6_matches_20 4 rfl (j_iadd dX6_matches_22 (j_aload_n dX6_matches_23 rfl 2 rfl (j_getI (f := 301) cls_X6 1 (by decide) fl_X6_21 rfl (by decide) dX6_matches_24 (((H.2 c1).2 c2).2.2 c3).1 (j_icmp_le (tgt := 32) dX6_matches_27 (by decide) (fun c4 => j_iconst (v := 4) dX6_matches_32 rfl (j_iload_n dX6_matches_33 rfl 3 rfl (j_iload_n dX6_matches_34 rfl 1 rfl (j_isub dX6_matches_35 (j_imul dX6_matches_36 (j_istore (L' := [(5, .int (4 * (x3 - x1))), (0, .ref r0), (1, .int x1), (2, .ref r2), (3, .int x3), (4, .int x4)]) dX6_matches_37 (by decide) rfl (j_iconst (v := 4) dX6_matches_39 rfl (j_iload_n dX6_matches_40 rfl 2 rfl (j_imul dX6_matches_41 (j_istore (L' := [(6, .int (4 * x1)), (5, .int (4 * (x3 - x1))), (0, .ref r0), (1, .int x1), (2, .ref r2), (3, .int x3), (4, .int x4)]) dX6_matches_42 (by decide) rfl (j_sub [2, 3, 4, 6, 1, 0] rfl (((((H.2 c1).2 c2).2.2 c3).2.1 c4))))))))))))) (fun c4 => j_iconst (v := 0) dX6_matches_30 rfl (j_ret (v := .int 0) ⟨dX6_matches_31, _, rfl, by decide⟩ rfl (((((H.2 c1).2 c2).2.2 c3).2.2 c4)))))))))))))))))))
theorem VX6_matches_44 {d : jj_D} {h : jj_H} {Q : Value → jj_H → Prop} (r0 : Nat) (x1 : Int32) (r2 : Nat) (x4 : Int32) (x5 : Int32) (x6 : Int32) (H : ((4 * (x1 + x4)) ≤ x6 → Q (.int 1) h) ∧ (¬ (4 * (x1 + x4)) ≤ x6 → jK h r0 = 7 ∧ (jK h (jR h 300 r0 0) = 21 ∧ (vp_in x6 (jN h (jR h 300 r0 0)) ∧ (jK h r2 = 7 ∧ (jK h (jR h 300 r2 0) = 21 ∧ (vp_in (x6 + x5) (jN h (jR h 300 r2 0)) ∧ (((jI h 1000 (jR h 300 r0 0) (Int32.toNatClampNeg x6)) = (jI h 1000 (jR h 300 r2 0) (Int32.toNatClampNeg (x6 + x5))) → jj_WP d mX6_matches 0 0 44 [(0, .ref r0), (1, .int x1), (2, .ref r2), (4, .int x4), (5, .int x5), (6, .int (x6 + 1))] [] h Q) ∧ (¬ (jI h 1000 (jR h 300 r0 0) (Int32.toNatClampNeg x6)) = (jI h 1000 (jR h 300 r2 0) (Int32.toNatClampNeg (x6 + x5))) → Q (.int 0) h))))))))) : jj_WP d mX6_matches 0 0 44 [(0, .ref r0), (1, .int x1), (2, .ref r2), (4, .int x4), (5, .int x5), (6, .int x6)] [] h Q := j_iload dX6_matches_44 5 rfl (j_iconst (v := 4) dX6_matches_46 rfl (j_iload_n dX6_matches_47 rfl 1 rfl (j_iload dX6_matches_48 3 rfl (j_iadd dX6_matches_50 (j_imul dX6_matches_51 (j_icmp_ge (tgt := 83) dX6_matches_52 (by decide) (fun c1 => j_iconst (v := 1) dX6_matches_83 rfl (j_ret (v := .int 1) ⟨dX6_matches_84, _, rfl, by decide⟩ rfl ((H.1 c1)))) (fun c1 => j_aload_n dX6_matches_55 rfl 0 rfl (j_getR (f := 300) cls_X6 0 (by decide) fl_X6_15 rfl rfl dX6_matches_56 (H.2 c1).1 (j_iload dX6_matches_59 5 rfl (j_iald dX6_matches_61 (H.2 c1).2.1 (H.2 c1).2.2.1 (j_aload_n dX6_matches_62 rfl 2 rfl (j_getR (f := 300) cls_X6 0 (by decide) fl_X6_15 rfl rfl dX6_matches_63 (H.2 c1).2.2.2.1 (j_iload dX6_matches_66 5 rfl (j_iload dX6_matches_68 4 rfl (j_iadd dX6_matches_70 (j_iald dX6_matches_71 (H.2 c1).2.2.2.2.1 (H.2 c1).2.2.2.2.2.1 (j_icmp_eq (tgt := 77) dX6_matches_72 (by decide) (fun c2 => j_iinc (v := (x6 + 1)) (L' := [(6, .int (x6 + 1)), (0, .ref r0), (1, .int x1), (2, .ref r2), (4, .int x4), (5, .int x5)]) dX6_matches_77 5 rfl rfl (by decide) rfl (j_goto (tgt := 44) dX6_matches_80 (by decide) (j_sub [1, 2, 3, 4, 5, 0] rfl (((H.2 c1).2.2.2.2.2.2.1 c2))))) (fun c2 => j_iconst (v := 0) dX6_matches_75 rfl (j_ret (v := .int 0) ⟨dX6_matches_76, _, rfl, by decide⟩ rfl (((H.2 c1).2.2.2.2.2.2.2 c2)))))))))))))))))))))
theorem dX6_makeRoom_0 : decode cX6_makeRoom 0 = .ok (.iconst 4, 1) := by decide +kernel
theorem dX6_makeRoom_1 : decode cX6_makeRoom 1 = .ok (.aload_n 0, 1) := by decide +kernel
theorem dX6_makeRoom_2 : decode cX6_makeRoom 2 = .ok (.getfield 21, 3) := by decide +kernel
theorem dX6_makeRoom_5 : decode cX6_makeRoom 5 = .ok (.iconst 1, 1) := by decide +kernel
theorem dX6_makeRoom_6 : decode cX6_makeRoom 6 = .ok (.iadd, 1) := by decide +kernel
theorem dX6_makeRoom_7 : decode cX6_makeRoom 7 = .ok (.imul, 1) := by decide +kernel
theorem dX6_makeRoom_8 : decode cX6_makeRoom 8 = .ok (.aload_n 0, 1) := by decide +kernel
theorem dX6_makeRoom_9 : decode cX6_makeRoom 9 = .ok (.getfield 15, 3) := by decide +kernel
theorem dX6_makeRoom_12 : decode cX6_makeRoom 12 = .ok (.arraylength, 1) := by decide +kernel
theorem dX6_makeRoom_13 : decode cX6_makeRoom 13 = .ok (.if_icmp .le 5, 3) := by decide +kernel
theorem dX6_makeRoom_16 : decode cX6_makeRoom 16 = .ok (.iconst 0, 1) := by decide +kernel
theorem dX6_makeRoom_17 : decode cX6_makeRoom 17 = .ok (.ireturn, 1) := by decide +kernel
theorem dX6_makeRoom_18 : decode cX6_makeRoom 18 = .ok (.iconst 4, 1) := by decide +kernel
theorem dX6_makeRoom_19 : decode cX6_makeRoom 19 = .ok (.iload_n 1, 1) := by decide +kernel
theorem dX6_makeRoom_20 : decode cX6_makeRoom 20 = .ok (.imul, 1) := by decide +kernel
theorem dX6_makeRoom_21 : decode cX6_makeRoom 21 = .ok (.istore_n 2, 1) := by decide +kernel
theorem dX6_makeRoom_22 : decode cX6_makeRoom 22 = .ok (.aload_n 0, 1) := by decide +kernel
theorem dX6_makeRoom_23 : decode cX6_makeRoom 23 = .ok (.getfield 15, 3) := by decide +kernel
theorem dX6_makeRoom_26 : decode cX6_makeRoom 26 = .ok (.iload_n 2, 1) := by decide +kernel
theorem dX6_makeRoom_27 : decode cX6_makeRoom 27 = .ok (.aload_n 0, 1) := by decide +kernel
theorem dX6_makeRoom_28 : decode cX6_makeRoom 28 = .ok (.getfield 15, 3) := by decide +kernel
theorem dX6_makeRoom_31 : decode cX6_makeRoom 31 = .ok (.iload_n 2, 1) := by decide +kernel
theorem dX6_makeRoom_32 : decode cX6_makeRoom 32 = .ok (.iconst 4, 1) := by decide +kernel
theorem dX6_makeRoom_33 : decode cX6_makeRoom 33 = .ok (.iadd, 1) := by decide +kernel
theorem dX6_makeRoom_34 : decode cX6_makeRoom 34 = .ok (.iconst 4, 1) := by decide +kernel
theorem dX6_makeRoom_35 : decode cX6_makeRoom 35 = .ok (.aload_n 0, 1) := by decide +kernel
theorem dX6_makeRoom_36 : decode cX6_makeRoom 36 = .ok (.getfield 21, 3) := by decide +kernel
theorem dX6_makeRoom_39 : decode cX6_makeRoom 39 = .ok (.iload_n 1, 1) := by decide +kernel
theorem dX6_makeRoom_40 : decode cX6_makeRoom 40 = .ok (.isub, 1) := by decide +kernel
theorem dX6_makeRoom_41 : decode cX6_makeRoom 41 = .ok (.imul, 1) := by decide +kernel
theorem dX6_makeRoom_42 : decode cX6_makeRoom 42 = .ok (.invokestatic 45, 3) := by decide +kernel
theorem dX6_makeRoom_45 : decode cX6_makeRoom 45 = .ok (.aload_n 0, 1) := by decide +kernel
theorem dX6_makeRoom_46 : decode cX6_makeRoom 46 = .ok (.dup, 1) := by decide +kernel
theorem dX6_makeRoom_47 : decode cX6_makeRoom 47 = .ok (.getfield 21, 3) := by decide +kernel
theorem dX6_makeRoom_50 : decode cX6_makeRoom 50 = .ok (.iconst 1, 1) := by decide +kernel
theorem dX6_makeRoom_51 : decode cX6_makeRoom 51 = .ok (.iadd, 1) := by decide +kernel
theorem dX6_makeRoom_52 : decode cX6_makeRoom 52 = .ok (.putfield 21, 3) := by decide +kernel
theorem dX6_makeRoom_55 : decode cX6_makeRoom 55 = .ok (.iconst 1, 1) := by decide +kernel
theorem dX6_makeRoom_56 : decode cX6_makeRoom 56 = .ok (.ireturn, 1) := by decide +kernel
theorem EX6_makeRoom {h : jj_H} {Q : Value → jj_H → Prop} (r0 : Nat) (x1 : Int32) (H : ∀ d : jj_D, jK h r0 = 7 ∧ (jK h (jR h 300 r0 0) = 21 ∧ (((4 * ((jI h 301 r0 0) + 1)) ≤ (nI (jN h (jR h 300 r0 0))) → ¬ (4 * x1) < 0 ∧ (¬ ((4 * x1) + 4) < 0 ∧ (¬ (4 * ((jI h 301 r0 0) - x1)) < 0 ∧ (Int32.toNatClampNeg (4 * x1) + Int32.toNatClampNeg (4 * ((jI h 301 r0 0) - x1)) ≤ jN h (jR h 300 r0 0) ∧ (Int32.toNatClampNeg ((4 * x1) + 4) + Int32.toNatClampNeg (4 * ((jI h 301 r0 0) - x1)) ≤ jN h (jR h 300 r0 0) ∧ (∀ h2, h2 = wC h (jR h 300 r0 0) (Int32.toNatClampNeg (4 * x1)) (jR h 300 r0 0) (Int32.toNatClampNeg ((4 * x1) + 4)) (Int32.toNatClampNeg (4 * ((jI h 301 r0 0) - x1))) → (∀ h3, h3 = wI h2 301 r0 0 ((jI h2 301 r0 0) + 1) → (Q (.int 1) h3)))))))) ∧ (¬ (4 * ((jI h 301 r0 0) + 1)) ≤ (nI (jN h (jR h 300 r0 0))) → Q (.int 0) h)))) : jj_C mX6_makeRoom 0 0 [.ref r0, .int x1] h Q := j_enter (by decide +kernel) (Nat.le_of_ble_eq_true rfl) rfl fun d => have H := H d; j_iconst (v := 4) dX6_makeRoom_0 rfl (j_aload_n dX6_makeRoom_1 rfl 0 rfl (j_getI (f := 301) cls_X6 1 (by decide) fl_X6_21 rfl (by decide) dX6_makeRoom_2 H.1 (j_iconst (v := 1) dX6_makeRoom_5 rfl (j_iadd dX6_makeRoom_6 (j_imul dX6_makeRoom_7 (j_aload_n dX6_makeRoom_8 rfl 0 rfl (j_getR (f := 300) cls_X6 0 (by decide) fl_X6_15 rfl rfl dX6_makeRoom_9 H.1 (j_alenI dX6_makeRoom_12 H.2.1 (j_icmp_le (tgt := 18) dX6_makeRoom_13 (by decide) (fun c1 => j_iconst (v := 4) dX6_makeRoom_18 rfl (j_iload_n dX6_makeRoom_19 rfl 1 rfl (j_imul dX6_makeRoom_20 (j_istore_n (L' := [(2, .int (4 * x1)), (0, .ref r0), (1, .int x1)]) dX6_makeRoom_21 rfl (by decide) rfl (j_aload_n dX6_makeRoom_22 rfl 1 rfl (j_getR (f := 300) cls_X6 0 (by decide) fl_X6_15 rfl rfl dX6_makeRoom_23 H.1 (j_iload_n dX6_makeRoom_26 rfl 0 rfl (j_aload_n dX6_makeRoom_27 rfl 1 rfl (j_getR (f := 300) cls_X6 0 (by decide) fl_X6_15 rfl rfl dX6_makeRoom_28 H.1 (j_iload_n dX6_makeRoom_31 rfl 0 rfl (j_iconst (v := 4) dX6_makeRoom_32 rfl (j_iadd dX6_makeRoom_33 (j_iconst (v := 4) dX6_makeRoom_34 rfl (j_aload_n dX6_makeRoom_35 rfl 1 rfl (j_getI (f := 301) cls_X6 1 (by decide) fl_X6_21 rfl (by decide) dX6_makeRoom_36 H.1 (j_iload_n dX6_makeRoom_39 rfl 2 rfl (j_isub dX6_makeRoom_40 (j_imul dX6_makeRoom_41 (j_copy ml_X6_45 nat_copy sta_copy it_System (Nat.le_of_ble_eq_true rfl) (by decide) (by decide) dX6_makeRoom_42 H.2.1 H.2.1 (H.2.2.1 c1).1 (H.2.2.1 c1).2.1 (H.2.2.1 c1).2.2.1 (H.2.2.1 c1).2.2.2.1 (H.2.2.1 c1).2.2.2.2.1 (j_aload_n dX6_makeRoom_45 rfl 1 rfl (j_dup dX6_makeRoom_46 rfl (j_getI (f := 301) cls_X6 1 (by decide) fl_X6_21 rfl (by decide) dX6_makeRoom_47 H.1 (j_iconst (v := 1) dX6_makeRoom_50 rfl (j_iadd dX6_makeRoom_51 (j_putI (f := 301) cls_X6 1 (by decide) fl_X6_21 rfl rfl rfl (Or.inl rfl) dX6_makeRoom_52 H.1 (j_iconst (v := 1) dX6_makeRoom_55 rfl (j_ret (v := .int 1) ⟨dX6_makeRoom_56, _, rfl, by decide⟩ rfl ((((H.2.2.1 c1).2.2.2.2.2 _ rfl) _ rfl))))))))))))))))))))))))))))) (fun c1 => j_iconst (v := 0) dX6_makeRoom_16 rfl (j_ret (v := .int 0) ⟨dX6_makeRoom_17, _, rfl, by decide⟩ rfl ((H.2.2.2 c1)))))))))))))
theorem dX7_init_0 : decode cX7_init 0 = .ok (.aload_n 0, 1) := by decide +kernel
theorem dX7_init_1 : decode cX7_init 1 = .ok (.invokespecial 3, 3) := by decide +kernel
theorem dX7_init_4 : decode cX7_init 4 = .ok (.aload_n 0, 1) := by decide +kernel
theorem dX7_init_5 : decode cX7_init 5 = .ok (.aload_n 1, 1) := by decide +kernel
theorem dX7_init_6 : decode cX7_init 6 = .ok (.putfield 9, 3) := by decide +kernel
theorem dX7_init_9 : decode cX7_init 9 = .ok (.aload_n 0, 1) := by decide +kernel
theorem dX7_init_10 : decode cX7_init 10 = .ok (.aload_n 2, 1) := by decide +kernel
theorem dX7_init_11 : decode cX7_init 11 = .ok (.putfield 15, 3) := by decide +kernel
theorem dX7_init_14 : decode cX7_init 14 = .ok (.aload_n 0, 1) := by decide +kernel
theorem dX7_init_15 : decode cX7_init 15 = .ok (.aload_n 3, 1) := by decide +kernel
theorem dX7_init_16 : decode cX7_init 16 = .ok (.putfield 19, 3) := by decide +kernel
theorem dX7_init_19 : decode cX7_init 19 = .ok (.aload_n 0, 1) := by decide +kernel
theorem dX7_init_20 : decode cX7_init 20 = .ok (.iconst 1, 1) := by decide +kernel
theorem dX7_init_21 : decode cX7_init 21 = .ok (.putfield 23, 3) := by decide +kernel
theorem dX7_init_24 : decode cX7_init 24 = .ok (.return_, 1) := by decide +kernel
theorem EX7_init {h : jj_H} {Q : Value → jj_H → Prop} (r0 : Nat) (r1 : Nat) (r2 : Nat) (r3 : Nat) (H : ∀ d : jj_D, r0 ≠ 0 ∧ (jK h r0 = 8 ∧ (∀ h1, h1 = wR h 350 r0 0 r1 → (∀ h2, h2 = wR h1 351 r0 0 r2 → (∀ h3, h3 = wR h2 352 r0 0 r3 → (∀ h4, h4 = wI h3 354 r0 0 1 → (Q (.int 0) h4))))))) : jj_C mX7_init 0 0 [.ref r0, .ref r1, .ref r2, .ref r3] h Q := j_enter (by decide +kernel) (Nat.le_of_ble_eq_true rfl) rfl fun d => have H := H d; j_aload_n dX7_init_0 rfl 0 rfl (j_objInit ml_X7_3 im_Object co_Object dX7_init_1 (Nat.le_of_ble_eq_true rfl) (by decide) (by decide) H.1 (j_aload_n dX7_init_4 rfl 0 rfl (j_aload_n dX7_init_5 rfl 1 rfl (j_putR (f := 350) cls_X7 0 (by decide) fl_X7_9 rfl rfl (Or.inl ⟨_, rfl⟩) (Or.inr ⟨rfl, rfl, rfl⟩) dX7_init_6 H.2.1 (j_aload_n dX7_init_9 rfl 0 rfl (j_aload_n dX7_init_10 rfl 2 rfl (j_putR (f := 351) cls_X7 1 (by decide) fl_X7_15 rfl rfl (Or.inr ⟨_, rfl⟩) (Or.inr ⟨rfl, rfl, rfl⟩) dX7_init_11 H.2.1 (j_aload_n dX7_init_14 rfl 0 rfl (j_aload_n dX7_init_15 rfl 3 rfl (j_putR (f := 352) cls_X7 2 (by decide) fl_X7_19 rfl rfl (Or.inr ⟨_, rfl⟩) (Or.inr ⟨rfl, rfl, rfl⟩) dX7_init_16 H.2.1 (j_aload_n dX7_init_19 rfl 0 rfl (j_iconst (v := 1) dX7_init_20 rfl (j_putZ (f := 354) cls_X7 4 (by decide) fl_X7_23 rfl rfl ⟨rfl, by decide⟩ (Or.inl rfl) dX7_init_21 H.2.1 (j_ret (v := .int 0) dX7_init_24 rfl (((((H.2.2 _ rfl) _ rfl) _ rfl) _ rfl))))))))))))))))
theorem dX7_become_0 : decode cX7_become 0 = .ok (.aload_n 0, 1) := by decide +kernel
theorem dX7_become_1 : decode cX7_become 1 = .ok (.getfield 9, 3) := by decide +kernel
theorem dX7_become_4 : decode cX7_become 4 = .ok (.aload_n 1, 1) := by decide +kernel
theorem dX7_become_5 : decode cX7_become 5 = .ok (.invokevirtual 27, 3) := by decide +kernel
theorem dX7_become_8 : decode cX7_become 8 = .ok (.aload_n 0, 1) := by decide +kernel
theorem dX7_become_9 : decode cX7_become 9 = .ok (.iconst 1, 1) := by decide +kernel
theorem dX7_become_10 : decode cX7_become 10 = .ok (.putfield 23, 3) := by decide +kernel
theorem dX7_become_13 : decode cX7_become 13 = .ok (.return_, 1) := by decide +kernel
theorem EX7_become {h : jj_H} {Q : Value → jj_H → Prop} (r0 : Nat) (r1 : Nat) (H : ∀ d : jj_D, jK h r0 = 8 ∧ (jK h (jR h 350 r0 0) = 7 ∧ (jj_C mX6_become 0 0 [.ref (jR h 350 r0 0), .ref r1] h (fun v2 h1 => jK h1 r0 = 8 ∧ (∀ h4, h4 = wI h1 354 r0 0 1 → (Q (.int 0) h4)))))) : jj_C mX7_become 0 0 [.ref r0, .ref r1] h Q := j_enter (by decide +kernel) (Nat.le_of_ble_eq_true rfl) rfl fun d => have H := H d; j_aload_n dX7_become_0 rfl 0 rfl (j_getR (f := 350) cls_X7 0 (by decide) fl_X7_9 rfl rfl dX7_become_1 H.1 (j_aload_n dX7_become_4 rfl 1 rfl (j_callV0 (as := [.ref r1]) cm_X6_become im_X6_become se_X6_become (ci := 6) rfl (by decide) ml_X7_27 ⟨by decide, by decide⟩ dX7_become_5 rfl rfl (Nat.le_of_ble_eq_true rfl) H.2.1 (jj_C.mono H.2.2 (fun v2 h1 H3 => j_aload_n dX7_become_8 rfl 0 rfl (j_iconst (v := 1) dX7_become_9 rfl (j_putZ (f := 354) cls_X7 4 (by decide) fl_X7_23 rfl rfl ⟨rfl, by decide⟩ (Or.inl rfl) dX7_become_10 H3.1 (j_ret (v := .int 0) dX7_become_13 rfl ((H3.2 _ rfl))))))))))
theorem dX7_hasLevel_0 : decode cX7_hasLevel 0 = .ok (.iload_n 1, 1) := by decide +kernel
theorem dX7_hasLevel_1 : decode cX7_hasLevel 1 = .ok (.ifCond .lt 15, 3) := by decide +kernel
theorem dX7_hasLevel_4 : decode cX7_hasLevel 4 = .ok (.iload_n 1, 1) := by decide +kernel
theorem dX7_hasLevel_5 : decode cX7_hasLevel 5 = .ok (.aload_n 0, 1) := by decide +kernel
theorem dX7_hasLevel_6 : decode cX7_hasLevel 6 = .ok (.getfield 33, 3) := by decide +kernel
theorem dX7_hasLevel_9 : decode cX7_hasLevel 9 = .ok (.if_icmp .ge 7, 3) := by decide +kernel
theorem dX7_hasLevel_12 : decode cX7_hasLevel 12 = .ok (.iconst 1, 1) := by decide +kernel
theorem dX7_hasLevel_13 : decode cX7_hasLevel 13 = .ok (.goto 4, 3) := by decide +kernel
theorem dX7_hasLevel_16 : decode cX7_hasLevel 16 = .ok (.iconst 0, 1) := by decide +kernel
theorem dX7_hasLevel_17 : decode cX7_hasLevel 17 = .ok (.ireturn, 1) := by decide +kernel
theorem EX7_hasLevel {h : jj_H} {Q : Value → jj_H → Prop} (r0 : Nat) (x1 : Int32) (H : ∀ d : jj_D, (x1 < 0 → Q (.int 0) h) ∧ (¬ x1 < 0 → jK h r0 = 8 ∧ (((jI h 353 r0 0) ≤ x1 → Q (.int 0) h) ∧ (¬ (jI h 353 r0 0) ≤ x1 → Q (.int 1) h)))) : jj_C mX7_hasLevel 0 0 [.ref r0, .int x1] h Q := j_enter (by decide +kernel) (Nat.le_of_ble_eq_true rfl) rfl fun d => have H := H d; j_iload_n dX7_hasLevel_0 rfl 1 rfl (j_if_lt (tgt := 16) dX7_hasLevel_1 (by decide) (fun c1 => j_iconst (v := 0) dX7_hasLevel_16 rfl (j_ret (v := .int 0) ⟨dX7_hasLevel_17, _, rfl, by decide⟩ rfl ((H.1 c1)))) (fun c1 => j_iload_n dX7_hasLevel_4 rfl 1 rfl (j_aload_n dX7_hasLevel_5 rfl 0 rfl (j_getI (f := 353) cls_X7 3 (by decide) fl_X7_33 rfl (by decide) dX7_hasLevel_6 (H.2 c1).1 (j_icmp_ge (tgt := 16) dX7_hasLevel_9 (by decide) (fun c2 => j_iconst (v := 0) dX7_hasLevel_16 rfl (j_ret (v := .int 0) ⟨dX7_hasLevel_17, _, rfl, by decide⟩ rfl (((H.2 c1).2.1 c2)))) (fun c2 => j_iconst (v := 1) dX7_hasLevel_12 rfl (j_goto (tgt := 17) dX7_hasLevel_13 (by decide) (j_ret (v := .int 1) ⟨dX7_hasLevel_17, _, rfl, by decide⟩ rfl (((H.2 c1).2.2 c2))))))))))
theorem dX7_nodesOn_0 : decode cX7_nodesOn 0 = .ok (.aload_n 0, 1) := by decide +kernel
theorem dX7_nodesOn_1 : decode cX7_nodesOn 1 = .ok (.iload_n 1, 1) := by decide +kernel
theorem dX7_nodesOn_2 : decode cX7_nodesOn 2 = .ok (.invokevirtual 37, 3) := by decide +kernel
theorem dX7_nodesOn_5 : decode cX7_nodesOn 5 = .ok (.ifCond .eq 21, 3) := by decide +kernel
theorem dX7_nodesOn_8 : decode cX7_nodesOn 8 = .ok (.aload_n 0, 1) := by decide +kernel
theorem dX7_nodesOn_9 : decode cX7_nodesOn 9 = .ok (.getfield 19, 3) := by decide +kernel
theorem dX7_nodesOn_12 : decode cX7_nodesOn 12 = .ok (.iload_n 1, 1) := by decide +kernel
theorem dX7_nodesOn_13 : decode cX7_nodesOn 13 = .ok (.iconst 1, 1) := by decide +kernel
theorem dX7_nodesOn_14 : decode cX7_nodesOn 14 = .ok (.iadd, 1) := by decide +kernel
theorem dX7_nodesOn_15 : decode cX7_nodesOn 15 = .ok (.iaload, 1) := by decide +kernel
theorem dX7_nodesOn_16 : decode cX7_nodesOn 16 = .ok (.aload_n 0, 1) := by decide +kernel
theorem dX7_nodesOn_17 : decode cX7_nodesOn 17 = .ok (.getfield 19, 3) := by decide +kernel
theorem dX7_nodesOn_20 : decode cX7_nodesOn 20 = .ok (.iload_n 1, 1) := by decide +kernel
theorem dX7_nodesOn_21 : decode cX7_nodesOn 21 = .ok (.iaload, 1) := by decide +kernel
theorem dX7_nodesOn_22 : decode cX7_nodesOn 22 = .ok (.isub, 1) := by decide +kernel
theorem dX7_nodesOn_23 : decode cX7_nodesOn 23 = .ok (.goto 4, 3) := by decide +kernel
theorem dX7_nodesOn_26 : decode cX7_nodesOn 26 = .ok (.iconst 0, 1) := by decide +kernel
theorem dX7_nodesOn_27 : decode cX7_nodesOn 27 = .ok (.ireturn, 1) := by decide +kernel
theorem EX7_nodesOn {h : jj_H} {Q : Value → jj_H → Prop} (r0 : Nat) (x1 : Int32) (H : ∀ d : jj_D, jK h r0 = 8 ∧ (jj_C mX7_hasLevel 0 0 [.ref r0, .int x1] h (fun v2 h1 => jj_vi (fun y3 => (y3 = 0 → Q (.int 0) h1) ∧ (¬ y3 = 0 → jK h1 r0 = 8 ∧ (jK h1 (jR h1 352 r0 0) = 21 ∧ (vp_in (x1 + 1) (jN h1 (jR h1 352 r0 0)) ∧ (vp_in x1 (jN h1 (jR h1 352 r0 0)) ∧ (Q (.int ((jI h1 1000 (jR h1 352 r0 0) (Int32.toNatClampNeg (x1 + 1))) - (jI h1 1000 (jR h1 352 r0 0) (Int32.toNatClampNeg x1)))) h1)))))) v2))) : jj_C mX7_nodesOn 0 0 [.ref r0, .int x1] h Q := j_enter (by decide +kernel) (Nat.le_of_ble_eq_true rfl) rfl fun d => have H := H d; j_aload_n dX7_nodesOn_0 rfl 0 rfl (j_iload_n dX7_nodesOn_1 rfl 1 rfl (j_callV0 (as := [.int x1]) cm_X7_hasLevel im_X7_hasLevel se_X7_hasLevel (ci := 7) rfl (by decide) ml_X7_37 ⟨by decide, by decide⟩ dX7_nodesOn_2 rfl rfl (Nat.le_of_ble_eq_true rfl) H.1 (jj_C.mono H.2 (fun v2 h1 H4 => jj_vi_e (fun y3 H4 => j_if_eq (tgt := 26) dX7_nodesOn_5 (by decide) (fun c5 => j_iconst (v := 0) dX7_nodesOn_26 rfl (j_ret (v := .int 0) ⟨dX7_nodesOn_27, _, rfl⟩ rfl ((H4.1 c5)))) (fun c5 => j_aload_n dX7_nodesOn_8 rfl 0 rfl (j_getR (f := 352) cls_X7 2 (by decide) fl_X7_19 rfl rfl dX7_nodesOn_9 (H4.2 c5).1 (j_iload_n dX7_nodesOn_12 rfl 1 rfl (j_iconst (v := 1) dX7_nodesOn_13 rfl (j_iadd dX7_nodesOn_14 (j_iald dX7_nodesOn_15 (H4.2 c5).2.1 (H4.2 c5).2.2.1 (j_aload_n dX7_nodesOn_16 rfl 0 rfl (j_getR (f := 352) cls_X7 2 (by decide) fl_X7_19 rfl rfl dX7_nodesOn_17 (H4.2 c5).1 (j_iload_n dX7_nodesOn_20 rfl 1 rfl (j_iald dX7_nodesOn_21 (H4.2 c5).2.1 (H4.2 c5).2.2.2.1 (j_isub dX7_nodesOn_22 (j_goto (tgt := 27) dX7_nodesOn_23 (by decide) (j_ret (v := .int ((jI h1 1000 (jR h1 352 r0 0) (Int32.toNatClampNeg (x1 + 1))) - (jI h1 1000 (jR h1 352 r0 0) (Int32.toNatClampNeg x1)))) ⟨dX7_nodesOn_27, _, rfl⟩ rfl ((H4.2 c5).2.2.2.2))))))))))))))) H4))))
theorem dX7_nodesInAll_0 : decode cX7_nodesInAll 0 = .ok (.aload_n 0, 1) := by decide +kernel
theorem dX7_nodesInAll_1 : decode cX7_nodesInAll 1 = .ok (.getfield 19, 3) := by decide +kernel
theorem dX7_nodesInAll_4 : decode cX7_nodesInAll 4 = .ok (.aload_n 0, 1) := by decide +kernel
theorem dX7_nodesInAll_5 : decode cX7_nodesInAll 5 = .ok (.getfield 33, 3) := by decide +kernel
theorem dX7_nodesInAll_8 : decode cX7_nodesInAll 8 = .ok (.iaload, 1) := by decide +kernel
theorem dX7_nodesInAll_9 : decode cX7_nodesInAll 9 = .ok (.ireturn, 1) := by decide +kernel
theorem EX7_nodesInAll {h : jj_H} {Q : Value → jj_H → Prop} (r0 : Nat) (H : ∀ d : jj_D, jK h r0 = 8 ∧ (jK h (jR h 352 r0 0) = 21 ∧ (vp_in (jI h 353 r0 0) (jN h (jR h 352 r0 0)) ∧ (Q (.int (jI h 1000 (jR h 352 r0 0) (Int32.toNatClampNeg (jI h 353 r0 0)))) h)))) : jj_C mX7_nodesInAll 0 0 [.ref r0] h Q := j_enter (by decide +kernel) (Nat.le_of_ble_eq_true rfl) rfl fun d => have H := H d; j_aload_n dX7_nodesInAll_0 rfl 0 rfl (j_getR (f := 352) cls_X7 2 (by decide) fl_X7_19 rfl rfl dX7_nodesInAll_1 H.1 (j_aload_n dX7_nodesInAll_4 rfl 0 rfl (j_getI (f := 353) cls_X7 3 (by decide) fl_X7_33 rfl (by decide) dX7_nodesInAll_5 H.1 (j_iald dX7_nodesInAll_8 H.2.1 H.2.2.1 (j_ret (v := .int (jI h 1000 (jR h 352 r0 0) (Int32.toNatClampNeg (jI h 353 r0 0)))) ⟨dX7_nodesInAll_9, _, rfl⟩ rfl (H.2.2.2))))))
theorem dX7_nodeAt_0 : decode cX7_nodeAt 0 = .ok (.iload_n 2, 1) := by decide +kernel
theorem dX7_nodeAt_1 : decode cX7_nodeAt 1 = .ok (.ifCond .lt 28, 3) := by decide +kernel
theorem dX7_nodeAt_4 : decode cX7_nodeAt 4 = .ok (.iload_n 2, 1) := by decide +kernel
theorem dX7_nodeAt_5 : decode cX7_nodeAt 5 = .ok (.aload_n 0, 1) := by decide +kernel
theorem dX7_nodeAt_6 : decode cX7_nodeAt 6 = .ok (.iload_n 1, 1) := by decide +kernel
theorem dX7_nodeAt_7 : decode cX7_nodeAt 7 = .ok (.invokevirtual 41, 3) := by decide +kernel
theorem dX7_nodeAt_10 : decode cX7_nodeAt 10 = .ok (.if_icmp .ge 19, 3) := by decide +kernel
theorem dX7_nodeAt_13 : decode cX7_nodeAt 13 = .ok (.aload_n 0, 1) := by decide +kernel
theorem dX7_nodeAt_14 : decode cX7_nodeAt 14 = .ok (.getfield 15, 3) := by decide +kernel
theorem dX7_nodeAt_17 : decode cX7_nodeAt 17 = .ok (.aload_n 0, 1) := by decide +kernel
theorem dX7_nodeAt_18 : decode cX7_nodeAt 18 = .ok (.getfield 19, 3) := by decide +kernel
theorem dX7_nodeAt_21 : decode cX7_nodeAt 21 = .ok (.iload_n 1, 1) := by decide +kernel
theorem dX7_nodeAt_22 : decode cX7_nodeAt 22 = .ok (.iaload, 1) := by decide +kernel
theorem dX7_nodeAt_23 : decode cX7_nodeAt 23 = .ok (.iload_n 2, 1) := by decide +kernel
theorem dX7_nodeAt_24 : decode cX7_nodeAt 24 = .ok (.iadd, 1) := by decide +kernel
theorem dX7_nodeAt_25 : decode cX7_nodeAt 25 = .ok (.aaload, 1) := by decide +kernel
theorem dX7_nodeAt_26 : decode cX7_nodeAt 26 = .ok (.goto 4, 3) := by decide +kernel
theorem dX7_nodeAt_29 : decode cX7_nodeAt 29 = .ok (.aconst_null, 1) := by decide +kernel
theorem dX7_nodeAt_30 : decode cX7_nodeAt 30 = .ok (.areturn, 1) := by decide +kernel
theorem EX7_nodeAt {h : jj_H} {Q : Value → jj_H → Prop} (r0 : Nat) (x1 : Int32) (x2 : Int32) (H : ∀ d : jj_D, (x2 < 0 → Q (.ref 0) h) ∧ (¬ x2 < 0 → jK h r0 = 8 ∧ (jj_C mX7_nodesOn 0 0 [.ref r0, .int x1] h (fun v3 h2 => jj_vi (fun y4 => (y4 ≤ x2 → Q (.ref 0) h2) ∧ (¬ y4 ≤ x2 → jK h2 r0 = 8 ∧ (jK h2 (jR h2 352 r0 0) = 21 ∧ (vp_in x1 (jN h2 (jR h2 352 r0 0)) ∧ (jK h2 (jR h2 351 r0 0) = 25 ∧ (vp_in ((jI h2 1000 (jR h2 352 r0 0) (Int32.toNatClampNeg x1)) + x2) (jN h2 (jR h2 351 r0 0)) ∧ (Q (.ref (jR h2 1000 (jR h2 351 r0 0) (Int32.toNatClampNeg ((jI h2 1000 (jR h2 352 r0 0) (Int32.toNatClampNeg x1)) + x2)))) h2))))))) v3)))) : jj_C mX7_nodeAt 0 0 [.ref r0, .int x1, .int x2] h Q := j_enter (by decide +kernel) (Nat.le_of_ble_eq_true rfl) rfl fun d => have H := H d; j_iload_n dX7_nodeAt_0 rfl 2 rfl (j_if_lt (tgt := 29) dX7_nodeAt_1 (by decide) (fun c1 => j_null dX7_nodeAt_29 (j_ret (v := .ref 0) ⟨dX7_nodeAt_30, _, rfl⟩ rfl ((H.1 c1)))) (fun c1 => j_iload_n dX7_nodeAt_4 rfl 2 rfl (j_aload_n dX7_nodeAt_5 rfl 0 rfl (j_iload_n dX7_nodeAt_6 rfl 1 rfl (j_callV0 (as := [.int x1]) cm_X7_nodesOn im_X7_nodesOn se_X7_nodesOn (ci := 7) rfl (by decide) ml_X7_41 ⟨by decide, by decide⟩ dX7_nodeAt_7 rfl rfl (Nat.le_of_ble_eq_true rfl) (H.2 c1).1 (jj_C.mono (H.2 c1).2 (fun v3 h2 H5 => jj_vi_e (fun y4 H5 => j_icmp_ge (tgt := 29) dX7_nodeAt_10 (by decide) (fun c6 => j_null dX7_nodeAt_29 (j_ret (v := .ref 0) ⟨dX7_nodeAt_30, _, rfl⟩ rfl ((H5.1 c6)))) (fun c6 => j_aload_n dX7_nodeAt_13 rfl 0 rfl (j_getR (f := 351) cls_X7 1 (by decide) fl_X7_15 rfl rfl dX7_nodeAt_14 (H5.2 c6).1 (j_aload_n dX7_nodeAt_17 rfl 0 rfl (j_getR (f := 352) cls_X7 2 (by decide) fl_X7_19 rfl rfl dX7_nodeAt_18 (H5.2 c6).1 (j_iload_n dX7_nodeAt_21 rfl 1 rfl (j_iald dX7_nodeAt_22 (H5.2 c6).2.1 (H5.2 c6).2.2.1 (j_iload_n dX7_nodeAt_23 rfl 2 rfl (j_iadd dX7_nodeAt_24 (j_aaldN dX7_nodeAt_25 (H5.2 c6).2.2.2.1 (H5.2 c6).2.2.2.2.1 (j_goto (tgt := 30) dX7_nodeAt_26 (by decide) (j_ret (v := .ref (jR h2 1000 (jR h2 351 r0 0) (Int32.toNatClampNeg ((jI h2 1000 (jR h2 352 r0 0) (Int32.toNatClampNeg x1)) + x2)))) ⟨dX7_nodeAt_30, _, rfl⟩ rfl ((H5.2 c6).2.2.2.2.2))))))))))))) H5)))))))
theorem dX7_hasSame_0 : decode cX7_hasSame 0 = .ok (.iconst 0, 1) := by decide +kernel
theorem dX7_hasSame_1 : decode cX7_hasSame 1 = .ok (.istore_n 2, 1) := by decide +kernel
theorem dX7_hasSame_2 : decode cX7_hasSame 2 = .ok (.iload_n 2, 1) := by decide +kernel
theorem dX7_hasSame_3 : decode cX7_hasSame 3 = .ok (.aload_n 0, 1) := by decide +kernel
theorem dX7_hasSame_4 : decode cX7_hasSame 4 = .ok (.aload_n 1, 1) := by decide +kernel
theorem dX7_hasSame_5 : decode cX7_hasSame 5 = .ok (.getfield 45, 3) := by decide +kernel
theorem dX7_hasSame_8 : decode cX7_hasSame 8 = .ok (.invokevirtual 41, 3) := by decide +kernel
theorem dX7_hasSame_11 : decode cX7_hasSame 11 = .ok (.if_icmp .ge 34, 3) := by decide +kernel
theorem dX7_hasSame_14 : decode cX7_hasSame 14 = .ok (.aload_n 0, 1) := by decide +kernel
theorem dX7_hasSame_15 : decode cX7_hasSame 15 = .ok (.getfield 15, 3) := by decide +kernel
theorem dX7_hasSame_18 : decode cX7_hasSame 18 = .ok (.aload_n 0, 1) := by decide +kernel
theorem dX7_hasSame_19 : decode cX7_hasSame 19 = .ok (.getfield 19, 3) := by decide +kernel
theorem dX7_hasSame_22 : decode cX7_hasSame 22 = .ok (.aload_n 1, 1) := by decide +kernel
theorem dX7_hasSame_23 : decode cX7_hasSame 23 = .ok (.getfield 45, 3) := by decide +kernel
theorem dX7_hasSame_26 : decode cX7_hasSame 26 = .ok (.iaload, 1) := by decide +kernel
theorem dX7_hasSame_27 : decode cX7_hasSame 27 = .ok (.iload_n 2, 1) := by decide +kernel
theorem dX7_hasSame_28 : decode cX7_hasSame 28 = .ok (.iadd, 1) := by decide +kernel
theorem dX7_hasSame_29 : decode cX7_hasSame 29 = .ok (.aaload, 1) := by decide +kernel
theorem dX7_hasSame_30 : decode cX7_hasSame 30 = .ok (.aload_n 1, 1) := by decide +kernel
theorem dX7_hasSame_31 : decode cX7_hasSame 31 = .ok (.invokevirtual 50, 3) := by decide +kernel
theorem dX7_hasSame_34 : decode cX7_hasSame 34 = .ok (.ifCond .eq 5, 3) := by decide +kernel
theorem dX7_hasSame_37 : decode cX7_hasSame 37 = .ok (.iconst 1, 1) := by decide +kernel
theorem dX7_hasSame_38 : decode cX7_hasSame 38 = .ok (.ireturn, 1) := by decide +kernel
theorem dX7_hasSame_39 : decode cX7_hasSame 39 = .ok (.iinc 2 1, 3) := by decide +kernel
theorem dX7_hasSame_42 : decode cX7_hasSame 42 = .ok (.goto (-40), 3) := by decide +kernel
theorem dX7_hasSame_45 : decode cX7_hasSame 45 = .ok (.iconst 0, 1) := by decide +kernel
theorem dX7_hasSame_46 : decode cX7_hasSame 46 = .ok (.ireturn, 1) := by decide +kernel
theorem EX7_hasSame {h : jj_H} {Q : Value → jj_H → Prop} (r0 : Nat) (r1 : Nat) (H : ∀ d : jj_D, jj_WP d mX7_hasSame 0 0 2 [(0, .ref r0), (1, .ref r1), (2, .int 0)] [] h Q) : jj_C mX7_hasSame 0 0 [.ref r0, .ref r1] h Q := j_enter (by decide +kernel) (Nat.le_of_ble_eq_true rfl) rfl fun d => have H := H d; j_iconst (v := 0) dX7_hasSame_0 rfl (j_istore_n (L' := [(2, .int 0), (0, .ref r0), (1, .ref r1)]) dX7_hasSame_1 rfl (by decide) rfl (j_sub [1, 2, 0] rfl (H)))
theorem VX7_hasSame_2 {d : jj_D} {h : jj_H} {Q : Value → jj_H → Prop} (r0 : Nat) (r1 : Nat) (x2 : Int32) (H : jK h r1 = 4 ∧ (jK h r0 = 8 ∧ (jj_C mX7_nodesOn 0 0 [.ref r0, .int (jI h 151 r1 0)] h (fun v2 h1 => jj_vi (fun y3 => (y3 ≤ x2 → Q (.int 0) h1) ∧ (¬ y3 ≤ x2 → jK h1 r0 = 8 ∧ (jK h1 r1 = 4 ∧ (jK h1 (jR h1 352 r0 0) = 21 ∧ (vp_in (jI h1 151 r1 0) (jN h1 (jR h1 352 r0 0)) ∧ (jK h1 (jR h1 351 r0 0) = 25 ∧ (vp_in ((jI h1 1000 (jR h1 352 r0 0) (Int32.toNatClampNeg (jI h1 151 r1 0))) + x2) (jN h1 (jR h1 351 r0 0)) ∧ (jK h1 (jR h1 1000 (jR h1 351 r0 0) (Int32.toNatClampNeg ((jI h1 1000 (jR h1 352 r0 0) (Int32.toNatClampNeg (jI h1 151 r1 0))) + x2))) = 4 ∧ (jj_C mX3_isSame 0 0 [.ref (jR h1 1000 (jR h1 351 r0 0) (Int32.toNatClampNeg ((jI h1 1000 (jR h1 352 r0 0) (Int32.toNatClampNeg (jI h1 151 r1 0))) + x2))), .ref r1] h1 (fun v7 h6 => jj_vi (fun y8 => (y8 = 0 → jj_WP d mX7_hasSame 0 0 2 [(0, .ref r0), (1, .ref r1), (2, .int (x2 + 1))] [] h6 Q) ∧ (¬ y8 = 0 → Q (.int 1) h6)) v7)))))))))) v2)))) : jj_WP d mX7_hasSame 0 0 2 [(0, .ref r0), (1, .ref r1), (2, .int x2)] [] h Q := j_iload_n dX7_hasSame_2 rfl 2 rfl (j_aload_n dX7_hasSame_3 rfl 0 rfl (j_aload_n dX7_hasSame_4 rfl 1 rfl (j_getI (f := 151) cls_X3 1 (by decide) fl_X7_45 rfl (by decide) dX7_hasSame_5 H.1 (j_callV0 (as := [.int (jI h 151 r1 0)]) cm_X7_nodesOn im_X7_nodesOn se_X7_nodesOn (ci := 7) rfl (by decide) ml_X7_41 ⟨by decide, by decide⟩ dX7_hasSame_8 rfl rfl (Nat.le_of_ble_eq_true rfl) H.2.1 (jj_C.mono H.2.2 (fun v2 h1 H4 => jj_vi_e (fun y3 H4 => j_icmp_ge (tgt := 45) dX7_hasSame_11 (by decide) (fun c5 => j_iconst (v := 0) dX7_hasSame_45 rfl (j_ret (v := .int 0) ⟨dX7_hasSame_46, _, rfl, by decide⟩ rfl ((H4.1 c5)))) (fun c5 => j_aload_n dX7_hasSame_14 rfl 0 rfl (j_getR (f := 351) cls_X7 1 (by decide) fl_X7_15 rfl rfl dX7_hasSame_15 (H4.2 c5).1 (j_aload_n dX7_hasSame_18 rfl 0 rfl (j_getR (f := 352) cls_X7 2 (by decide) fl_X7_19 rfl rfl dX7_hasSame_19 (H4.2 c5).1 (j_aload_n dX7_hasSame_22 rfl 1 rfl (j_getI (f := 151) cls_X3 1 (by decide) fl_X7_45 rfl (by decide) dX7_hasSame_23 (H4.2 c5).2.1 (j_iald dX7_hasSame_26 (H4.2 c5).2.2.1 (H4.2 c5).2.2.2.1 (j_iload_n dX7_hasSame_27 rfl 2 rfl (j_iadd dX7_hasSame_28 (j_aaldN dX7_hasSame_29 (H4.2 c5).2.2.2.2.1 (H4.2 c5).2.2.2.2.2.1 (j_aload_n dX7_hasSame_30 rfl 1 rfl (j_callV0 (as := [.ref r1]) cm_X3_isSame im_X3_isSame se_X3_isSame (ci := 3) rfl (by decide) ml_X7_50 ⟨by decide, by decide⟩ dX7_hasSame_31 rfl rfl (Nat.le_of_ble_eq_true rfl) (H4.2 c5).2.2.2.2.2.2.1 (jj_C.mono (H4.2 c5).2.2.2.2.2.2.2 (fun v7 h6 H9 => jj_vi_e (fun y8 H9 => j_if_eq (tgt := 39) dX7_hasSame_34 (by decide) (fun c10 => j_iinc (v := (x2 + 1)) (L' := [(2, .int (x2 + 1)), (0, .ref r0), (1, .ref r1)]) dX7_hasSame_39 2 rfl rfl (by decide) rfl (j_goto (tgt := 2) dX7_hasSame_42 (by decide) (j_sub [1, 2, 0] rfl ((H9.1 c10))))) (fun c10 => j_iconst (v := 1) dX7_hasSame_37 rfl (j_ret (v := .int 1) ⟨dX7_hasSame_38, _, rfl, by decide⟩ rfl ((H9.2 c10))))) H9))))))))))))))) H4))))))
theorem dX7_clearNodes_0 : decode cX7_clearNodes 0 = .ok (.aload_n 0, 1) := by decide +kernel
theorem dX7_clearNodes_1 : decode cX7_clearNodes 1 = .ok (.iconst 0, 1) := by decide +kernel
theorem dX7_clearNodes_2 : decode cX7_clearNodes 2 = .ok (.putfield 33, 3) := by decide +kernel
theorem dX7_clearNodes_5 : decode cX7_clearNodes 5 = .ok (.aload_n 0, 1) := by decide +kernel
theorem dX7_clearNodes_6 : decode cX7_clearNodes 6 = .ok (.getfield 19, 3) := by decide +kernel
theorem dX7_clearNodes_9 : decode cX7_clearNodes 9 = .ok (.iconst 0, 1) := by decide +kernel
theorem dX7_clearNodes_10 : decode cX7_clearNodes 10 = .ok (.iconst 0, 1) := by decide +kernel
theorem dX7_clearNodes_11 : decode cX7_clearNodes 11 = .ok (.iastore, 1) := by decide +kernel
theorem dX7_clearNodes_12 : decode cX7_clearNodes 12 = .ok (.return_, 1) := by decide +kernel
theorem EX7_clearNodes {h : jj_H} {Q : Value → jj_H → Prop} (r0 : Nat) (H : ∀ d : jj_D, jK h r0 = 8 ∧ (∀ h1, h1 = wI h 353 r0 0 0 → (jK h (jR h1 352 r0 0) = 21 ∧ (vp_in 0 (jN h (jR h1 352 r0 0)) ∧ (∀ h2, h2 = wI h1 1000 (jR h1 352 r0 0) (Int32.toNatClampNeg 0) 0 → (Q (.int 0) h2)))))) : jj_C mX7_clearNodes 0 0 [.ref r0] h Q := j_enter (by decide +kernel) (Nat.le_of_ble_eq_true rfl) rfl fun d => have H := H d; j_aload_n dX7_clearNodes_0 rfl 0 rfl (j_iconst (v := 0) dX7_clearNodes_1 rfl (j_putI (f := 353) cls_X7 3 (by decide) fl_X7_33 rfl rfl rfl (Or.inl rfl) dX7_clearNodes_2 H.1 (j_aload_n dX7_clearNodes_5 rfl 0 rfl (j_getR (f := 352) cls_X7 2 (by decide) fl_X7_19 rfl rfl dX7_clearNodes_6 H.1 (j_iconst (v := 0) dX7_clearNodes_9 rfl (j_iconst (v := 0) dX7_clearNodes_10 rfl (j_iast dX7_clearNodes_11 (H.2 _ rfl).1 (H.2 _ rfl).2.1 (j_ret (v := .int 0) dX7_clearNodes_12 rfl (((H.2 _ rfl).2.2 _ rfl))))))))))
theorem dX7_beginLevel_0 : decode cX7_beginLevel 0 = .ok (.aload_n 0, 1) := by decide +kernel
theorem dX7_beginLevel_1 : decode cX7_beginLevel 1 = .ok (.getfield 33, 3) := by decide +kernel
theorem dX7_beginLevel_4 : decode cX7_beginLevel 4 = .ok (.bipush 8, 2) := by decide +kernel
theorem dX7_beginLevel_6 : decode cX7_beginLevel 6 = .ok (.if_icmp .ge 33, 3) := by decide +kernel
theorem dX7_beginLevel_9 : decode cX7_beginLevel 9 = .ok (.aload_n 0, 1) := by decide +kernel
theorem dX7_beginLevel_10 : decode cX7_beginLevel 10 = .ok (.getfield 19, 3) := by decide +kernel
theorem dX7_beginLevel_13 : decode cX7_beginLevel 13 = .ok (.aload_n 0, 1) := by decide +kernel
theorem dX7_beginLevel_14 : decode cX7_beginLevel 14 = .ok (.getfield 33, 3) := by decide +kernel
theorem dX7_beginLevel_17 : decode cX7_beginLevel 17 = .ok (.iconst 1, 1) := by decide +kernel
theorem dX7_beginLevel_18 : decode cX7_beginLevel 18 = .ok (.iadd, 1) := by decide +kernel
theorem dX7_beginLevel_19 : decode cX7_beginLevel 19 = .ok (.aload_n 0, 1) := by decide +kernel
theorem dX7_beginLevel_20 : decode cX7_beginLevel 20 = .ok (.getfield 19, 3) := by decide +kernel
theorem dX7_beginLevel_23 : decode cX7_beginLevel 23 = .ok (.aload_n 0, 1) := by decide +kernel
theorem dX7_beginLevel_24 : decode cX7_beginLevel 24 = .ok (.getfield 33, 3) := by decide +kernel
theorem dX7_beginLevel_27 : decode cX7_beginLevel 27 = .ok (.iaload, 1) := by decide +kernel
theorem dX7_beginLevel_28 : decode cX7_beginLevel 28 = .ok (.iastore, 1) := by decide +kernel
theorem dX7_beginLevel_29 : decode cX7_beginLevel 29 = .ok (.aload_n 0, 1) := by decide +kernel
theorem dX7_beginLevel_30 : decode cX7_beginLevel 30 = .ok (.dup, 1) := by decide +kernel
theorem dX7_beginLevel_31 : decode cX7_beginLevel 31 = .ok (.getfield 33, 3) := by decide +kernel
theorem dX7_beginLevel_34 : decode cX7_beginLevel 34 = .ok (.iconst 1, 1) := by decide +kernel
theorem dX7_beginLevel_35 : decode cX7_beginLevel 35 = .ok (.iadd, 1) := by decide +kernel
theorem dX7_beginLevel_36 : decode cX7_beginLevel 36 = .ok (.putfield 33, 3) := by decide +kernel
theorem dX7_beginLevel_39 : decode cX7_beginLevel 39 = .ok (.aload_n 0, 1) := by decide +kernel
theorem dX7_beginLevel_40 : decode cX7_beginLevel 40 = .ok (.getfield 33, 3) := by decide +kernel
theorem dX7_beginLevel_43 : decode cX7_beginLevel 43 = .ok (.iconst 1, 1) := by decide +kernel
theorem dX7_beginLevel_44 : decode cX7_beginLevel 44 = .ok (.isub, 1) := by decide +kernel
theorem dX7_beginLevel_45 : decode cX7_beginLevel 45 = .ok (.ireturn, 1) := by decide +kernel
theorem EX7_beginLevel {h : jj_H} {Q : Value → jj_H → Prop} (r0 : Nat) (H : ∀ d : jj_D, jK h r0 = 8 ∧ ((8 ≤ (jI h 353 r0 0) → Q (.int ((jI h 353 r0 0) - 1)) h) ∧ (¬ 8 ≤ (jI h 353 r0 0) → jK h (jR h 352 r0 0) = 21 ∧ (vp_in (jI h 353 r0 0) (jN h (jR h 352 r0 0)) ∧ (vp_in ((jI h 353 r0 0) + 1) (jN h (jR h 352 r0 0)) ∧ (∀ h2, h2 = wI h 1000 (jR h 352 r0 0) (Int32.toNatClampNeg ((jI h 353 r0 0) + 1)) (jI h 1000 (jR h 352 r0 0) (Int32.toNatClampNeg (jI h 353 r0 0))) → (∀ h3, h3 = wI h2 353 r0 0 ((jI h2 353 r0 0) + 1) → (Q (.int ((jI h3 353 r0 0) - 1)) h3)))))))) : jj_C mX7_beginLevel 0 0 [.ref r0] h Q := j_enter (by decide +kernel) (Nat.le_of_ble_eq_true rfl) rfl fun d => have H := H d; j_aload_n dX7_beginLevel_0 rfl 0 rfl (j_getI (f := 353) cls_X7 3 (by decide) fl_X7_33 rfl (by decide) dX7_beginLevel_1 H.1 (j_bipush (v := 8) dX7_beginLevel_4 rfl (j_icmp_ge (tgt := 39) dX7_beginLevel_6 (by decide) (fun c1 => j_aload_n dX7_beginLevel_39 rfl 0 rfl (j_getI (f := 353) cls_X7 3 (by decide) fl_X7_33 rfl (by decide) dX7_beginLevel_40 H.1 (j_iconst (v := 1) dX7_beginLevel_43 rfl (j_isub dX7_beginLevel_44 (j_ret (v := .int ((jI h 353 r0 0) - 1)) ⟨dX7_beginLevel_45, _, rfl⟩ rfl ((H.2.1 c1))))))) (fun c1 => j_aload_n dX7_beginLevel_9 rfl 0 rfl (j_getR (f := 352) cls_X7 2 (by decide) fl_X7_19 rfl rfl dX7_beginLevel_10 H.1 (j_aload_n dX7_beginLevel_13 rfl 0 rfl (j_getI (f := 353) cls_X7 3 (by decide) fl_X7_33 rfl (by decide) dX7_beginLevel_14 H.1 (j_iconst (v := 1) dX7_beginLevel_17 rfl (j_iadd dX7_beginLevel_18 (j_aload_n dX7_beginLevel_19 rfl 0 rfl (j_getR (f := 352) cls_X7 2 (by decide) fl_X7_19 rfl rfl dX7_beginLevel_20 H.1 (j_aload_n dX7_beginLevel_23 rfl 0 rfl (j_getI (f := 353) cls_X7 3 (by decide) fl_X7_33 rfl (by decide) dX7_beginLevel_24 H.1 (j_iald dX7_beginLevel_27 (H.2.2 c1).1 (H.2.2 c1).2.1 (j_iast dX7_beginLevel_28 (H.2.2 c1).1 (H.2.2 c1).2.2.1 (j_aload_n dX7_beginLevel_29 rfl 0 rfl (j_dup dX7_beginLevel_30 rfl (j_getI (f := 353) cls_X7 3 (by decide) fl_X7_33 rfl (by decide) dX7_beginLevel_31 H.1 (j_iconst (v := 1) dX7_beginLevel_34 rfl (j_iadd dX7_beginLevel_35 (j_putI (f := 353) cls_X7 3 (by decide) fl_X7_33 rfl rfl rfl (Or.inl rfl) dX7_beginLevel_36 H.1 (j_aload_n dX7_beginLevel_39 rfl 0 rfl (j_getI (f := 353) cls_X7 3 (by decide) fl_X7_33 rfl (by decide) dX7_beginLevel_40 H.1 (j_iconst (v := 1) dX7_beginLevel_43 rfl (j_isub dX7_beginLevel_44 (j_ret (v := .int ((jI (wI (wI h 1000 (jR h 352 r0 0) (Int32.toNatClampNeg ((jI h 353 r0 0) + 1)) (jI h 1000 (jR h 352 r0 0) (Int32.toNatClampNeg (jI h 353 r0 0)))) 353 r0 0 ((jI (wI h 1000 (jR h 352 r0 0) (Int32.toNatClampNeg ((jI h 353 r0 0) + 1)) (jI h 1000 (jR h 352 r0 0) (Int32.toNatClampNeg (jI h 353 r0 0)))) 353 r0 0) + 1)) 353 r0 0) - 1)) ⟨dX7_beginLevel_45, _, rfl⟩ rfl ((((H.2.2 c1).2.2.2 _ rfl) _ rfl))))))))))))))))))))))))))))
theorem dX7_addNode_0 : decode cX7_addNode 0 = .ok (.aload_n 0, 1) := by decide +kernel
theorem dX7_addNode_1 : decode cX7_addNode 1 = .ok (.getfield 19, 3) := by decide +kernel
theorem dX7_addNode_4 : decode cX7_addNode 4 = .ok (.aload_n 0, 1) := by decide +kernel
theorem dX7_addNode_5 : decode cX7_addNode 5 = .ok (.getfield 33, 3) := by decide +kernel
theorem dX7_addNode_8 : decode cX7_addNode 8 = .ok (.iaload, 1) := by decide +kernel
theorem dX7_addNode_9 : decode cX7_addNode 9 = .ok (.istore 6, 2) := by decide +kernel
theorem dX7_addNode_11 : decode cX7_addNode 11 = .ok (.iload 6, 2) := by decide +kernel
theorem dX7_addNode_13 : decode cX7_addNode 13 = .ok (.aload_n 0, 1) := by decide +kernel
theorem dX7_addNode_14 : decode cX7_addNode 14 = .ok (.getfield 15, 3) := by decide +kernel
theorem dX7_addNode_17 : decode cX7_addNode 17 = .ok (.arraylength, 1) := by decide +kernel
theorem dX7_addNode_18 : decode cX7_addNode 18 = .ok (.if_icmp .lt 4, 3) := by decide +kernel
theorem dX7_addNode_21 : decode cX7_addNode 21 = .ok (.return_, 1) := by decide +kernel
theorem dX7_addNode_22 : decode cX7_addNode 22 = .ok (.aload_n 0, 1) := by decide +kernel
theorem dX7_addNode_23 : decode cX7_addNode 23 = .ok (.getfield 15, 3) := by decide +kernel
theorem dX7_addNode_26 : decode cX7_addNode 26 = .ok (.iload 6, 2) := by decide +kernel
theorem dX7_addNode_28 : decode cX7_addNode 28 = .ok (.aaload, 1) := by decide +kernel
theorem dX7_addNode_29 : decode cX7_addNode 29 = .ok (.ifnonnull 17, 3) := by decide +kernel
theorem dX7_addNode_32 : decode cX7_addNode 32 = .ok (.aload_n 0, 1) := by decide +kernel
theorem dX7_addNode_33 : decode cX7_addNode 33 = .ok (.getfield 15, 3) := by decide +kernel
theorem dX7_addNode_36 : decode cX7_addNode 36 = .ok (.iload 6, 2) := by decide +kernel
theorem dX7_addNode_38 : decode cX7_addNode 38 = .ok (.new 46, 3) := by decide +kernel
theorem dX7_addNode_41 : decode cX7_addNode 41 = .ok (.dup, 1) := by decide +kernel
theorem dX7_addNode_42 : decode cX7_addNode 42 = .ok (.invokespecial 54, 3) := by decide +kernel
theorem dX7_addNode_45 : decode cX7_addNode 45 = .ok (.aastore, 1) := by decide +kernel
theorem dX7_addNode_46 : decode cX7_addNode 46 = .ok (.aload_n 0, 1) := by decide +kernel
theorem dX7_addNode_47 : decode cX7_addNode 47 = .ok (.getfield 15, 3) := by decide +kernel
theorem dX7_addNode_50 : decode cX7_addNode 50 = .ok (.iload 6, 2) := by decide +kernel
theorem dX7_addNode_52 : decode cX7_addNode 52 = .ok (.aaload, 1) := by decide +kernel
theorem dX7_addNode_53 : decode cX7_addNode 53 = .ok (.aload_n 0, 1) := by decide +kernel
theorem dX7_addNode_54 : decode cX7_addNode 54 = .ok (.getfield 9, 3) := by decide +kernel
theorem dX7_addNode_57 : decode cX7_addNode 57 = .ok (.aload_n 0, 1) := by decide +kernel
theorem dX7_addNode_58 : decode cX7_addNode 58 = .ok (.getfield 33, 3) := by decide +kernel
theorem dX7_addNode_61 : decode cX7_addNode 61 = .ok (.iconst 1, 1) := by decide +kernel
theorem dX7_addNode_62 : decode cX7_addNode 62 = .ok (.isub, 1) := by decide +kernel
theorem dX7_addNode_63 : decode cX7_addNode 63 = .ok (.iload_n 1, 1) := by decide +kernel
theorem dX7_addNode_64 : decode cX7_addNode 64 = .ok (.iload_n 2, 1) := by decide +kernel
theorem dX7_addNode_65 : decode cX7_addNode 65 = .ok (.iload_n 3, 1) := by decide +kernel
theorem dX7_addNode_66 : decode cX7_addNode 66 = .ok (.lload 4, 2) := by decide +kernel
theorem dX7_addNode_68 : decode cX7_addNode 68 = .ok (.invokevirtual 55, 3) := by decide +kernel
theorem dX7_addNode_71 : decode cX7_addNode 71 = .ok (.aload_n 0, 1) := by decide +kernel
theorem dX7_addNode_72 : decode cX7_addNode 72 = .ok (.getfield 19, 3) := by decide +kernel
theorem dX7_addNode_75 : decode cX7_addNode 75 = .ok (.aload_n 0, 1) := by decide +kernel
theorem dX7_addNode_76 : decode cX7_addNode 76 = .ok (.getfield 33, 3) := by decide +kernel
theorem dX7_addNode_79 : decode cX7_addNode 79 = .ok (.iload 6, 2) := by decide +kernel
theorem dX7_addNode_81 : decode cX7_addNode 81 = .ok (.iconst 1, 1) := by decide +kernel
theorem dX7_addNode_82 : decode cX7_addNode 82 = .ok (.iadd, 1) := by decide +kernel
theorem dX7_addNode_83 : decode cX7_addNode 83 = .ok (.iastore, 1) := by decide +kernel
theorem dX7_addNode_84 : decode cX7_addNode 84 = .ok (.return_, 1) := by decide +kernel
theorem EX7_addNode {bc bs : Nat} {h : jj_H} {Q : Value → jj_H → Prop} (r0 : Nat) (x1 : Int32) (x2 : Int32) (x3 : Int32) (l4 : Int64) (H : ∀ d : jj_D, jK h r0 = 8 ∧ (jK h (jR h 352 r0 0) = 21 ∧ (vp_in (jI h 353 r0 0) (jN h (jR h 352 r0 0)) ∧ (jK h (jR h 351 r0 0) = 25 ∧ (((jI h 1000 (jR h 352 r0 0) (Int32.toNatClampNeg (jI h 353 r0 0))) < (nI (jN h (jR h 351 r0 0))) → vp_in (jI h 1000 (jR h 352 r0 0) (Int32.toNatClampNeg (jI h 353 r0 0))) (jN h (jR h 351 r0 0)) ∧ ((¬ (jR h 1000 (jR h 351 r0 0) (Int32.toNatClampNeg (jI h 1000 (jR h 352 r0 0) (Int32.toNatClampNeg (jI h 353 r0 0))))) = 0 → jj_WP d mX7_addNode bc bs 46 [(0, .ref r0), (1, .int x1), (2, .int x2), (3, .int x3), (4, .long l4), (6, .int (jI h 1000 (jR h 352 r0 0) (Int32.toNatClampNeg (jI h 353 r0 0))))] [] h Q) ∧ ((jR h 1000 (jR h 351 r0 0) (Int32.toNatClampNeg (jI h 1000 (jR h 352 r0 0) (Int32.toNatClampNeg (jI h 353 r0 0))))) = 0 → 1 ≤ bc ∧ 9 ≤ bs ∧ (∀ h3, h3 = wA h 4 0 → ((jZ h + 1) ≠ 0 ∧ (jj_C mX3_init 0 0 [.ref (jZ h + 1)] h3 (fun v5 h4 => jK h4 (jR h 351 r0 0) = 25 ∧ (vp_in (jI h 1000 (jR h 352 r0 0) (Int32.toNatClampNeg (jI h 353 r0 0))) (jN h4 (jR h 351 r0 0)) ∧ (((jZ h + 1) = 0 ∨ jK h4 (jZ h + 1) = 4) ∧ (∀ h7, h7 = wR h4 1000 (jR h 351 r0 0) (Int32.toNatClampNeg (jI h 1000 (jR h 352 r0 0) (Int32.toNatClampNeg (jI h 353 r0 0)))) (jZ h + 1) → (jj_WP d mX7_addNode (bc - 1) (bs - 9) 46 [(0, .ref r0), (1, .int x1), (2, .int x2), (3, .int x3), (4, .long l4), (6, .int (jI h 1000 (jR h 352 r0 0) (Int32.toNatClampNeg (jI h 353 r0 0))))] [] h7 Q))))))))))) ∧ (¬ (jI h 1000 (jR h 352 r0 0) (Int32.toNatClampNeg (jI h 353 r0 0))) < (nI (jN h (jR h 351 r0 0))) → Q (.int 0) h)))))) : jj_C mX7_addNode bc bs [.ref r0, .int x1, .int x2, .int x3, .long l4] h Q := j_enter (by decide +kernel) (Nat.le_of_ble_eq_true rfl) rfl fun d => have H := H d; j_aload_n dX7_addNode_0 rfl 0 rfl (j_getR (f := 352) cls_X7 2 (by decide) fl_X7_19 rfl rfl dX7_addNode_1 H.1 (j_aload_n dX7_addNode_4 rfl 0 rfl (j_getI (f := 353) cls_X7 3 (by decide) fl_X7_33 rfl (by decide) dX7_addNode_5 H.1 (j_iald dX7_addNode_8 H.2.1 H.2.2.1 (j_istore (L' := [(6, .int (jI h 1000 (jR h 352 r0 0) (Int32.toNatClampNeg (jI h 353 r0 0)))), (0, .ref r0), (1, .int x1), (2, .int x2), (3, .int x3), (4, .long l4)]) dX7_addNode_9 (by decide) rfl (j_iload dX7_addNode_11 0 rfl (j_aload_n dX7_addNode_13 rfl 1 rfl (j_getR (f := 351) cls_X7 1 (by decide) fl_X7_15 rfl rfl dX7_addNode_14 H.1 (j_alenN dX7_addNode_17 H.2.2.2.1 (j_icmp_lt (tgt := 22) dX7_addNode_18 (by decide) (fun c1 => j_aload_n dX7_addNode_22 rfl 1 rfl (j_getR (f := 351) cls_X7 1 (by decide) fl_X7_15 rfl rfl dX7_addNode_23 H.1 (j_iload dX7_addNode_26 0 rfl (j_aaldN dX7_addNode_28 H.2.2.2.1 (H.2.2.2.2.1 c1).1 (j_ifnonnull (tgt := 46) dX7_addNode_29 (by decide) (fun c2 => j_sub [1, 2, 3, 4, 5, 0] rfl (((H.2.2.2.2.1 c1).2.1 c2))) (fun c2 => j_aload_n dX7_addNode_32 rfl 1 rfl (j_getR (f := 351) cls_X7 1 (by decide) fl_X7_15 rfl rfl dX7_addNode_33 H.1 (j_iload dX7_addNode_36 0 rfl (jj_bud (cj := 1) (sj := 9) ((H.2.2.2.2.1 c1).2.2 c2).1 ((H.2.2.2.2.1 c1).2.2 c2).2.1 (j_new (bc := (bc - 1)) (bs := (bs - 9)) cls_X3 dv_X3 cl_X7_46 in_X3 it_X3 dX7_addNode_38 (j_dup dX7_addNode_41 rfl (j_callIN0 (as := []) cm_X3_init im_X3_init rfl rfl ml_X7_54 ⟨by decide, by decide⟩ dX7_addNode_42 rfl rfl (Nat.le_of_ble_eq_true rfl) (((H.2.2.2.2.1 c1).2.2 c2).2.2 _ rfl).1 (jj_C.mono (((H.2.2.2.2.1 c1).2.2 c2).2.2 _ rfl).2 (fun v5 h4 H6 => j_aastN dX7_addNode_45 H6.1 H6.2.1 H6.2.2.1 (j_sub [1, 2, 3, 4, 5, 0] rfl ((H6.2.2.2 _ rfl))))))))))))))))) (fun c1 => j_ret (v := .int 0) dX7_addNode_21 rfl ((H.2.2.2.2.2 c1)))))))))))))
theorem VX7_addNode_46 {d : jj_D} {bc bs : Nat} {h : jj_H} {Q : Value → jj_H → Prop} (r0 : Nat) (x1 : Int32) (x2 : Int32) (x3 : Int32) (l4 : Int64) (x6 : Int32) (H : jK h r0 = 8 ∧ (jK h (jR h 351 r0 0) = 25 ∧ (vp_in x6 (jN h (jR h 351 r0 0)) ∧ (jK h (jR h 1000 (jR h 351 r0 0) (Int32.toNatClampNeg x6)) = 4 ∧ (jj_C mX3_set 0 0 [.ref (jR h 1000 (jR h 351 r0 0) (Int32.toNatClampNeg x6)), .ref (jR h 350 r0 0), .int ((jI h 353 r0 0) - 1), .int x1, .int x2, .int x3, .long l4] h (fun v2 h1 => jK h1 r0 = 8 ∧ (jK h1 (jR h1 352 r0 0) = 21 ∧ (vp_in (jI h1 353 r0 0) (jN h1 (jR h1 352 r0 0)) ∧ (∀ h4, h4 = wI h1 1000 (jR h1 352 r0 0) (Int32.toNatClampNeg (jI h1 353 r0 0)) (x6 + 1) → (Q (.int 0) h4)))))))))) : jj_WP d mX7_addNode bc bs 46 [(0, .ref r0), (1, .int x1), (2, .int x2), (3, .int x3), (4, .long l4), (6, .int x6)] [] h Q := j_aload_n dX7_addNode_46 rfl 0 rfl (j_getR (f := 351) cls_X7 1 (by decide) fl_X7_15 rfl rfl dX7_addNode_47 H.1 (j_iload dX7_addNode_50 5 rfl (j_aaldN dX7_addNode_52 H.2.1 H.2.2.1 (j_aload_n dX7_addNode_53 rfl 0 rfl (j_getR (f := 350) cls_X7 0 (by decide) fl_X7_9 rfl rfl dX7_addNode_54 H.1 (j_aload_n dX7_addNode_57 rfl 0 rfl (j_getI (f := 353) cls_X7 3 (by decide) fl_X7_33 rfl (by decide) dX7_addNode_58 H.1 (j_iconst (v := 1) dX7_addNode_61 rfl (j_isub dX7_addNode_62 (j_iload_n dX7_addNode_63 rfl 1 rfl (j_iload_n dX7_addNode_64 rfl 2 rfl (j_iload_n dX7_addNode_65 rfl 3 rfl (j_lload dX7_addNode_66 4 rfl (j_callV0 (as := [.ref (jR h 350 r0 0), .int ((jI h 353 r0 0) - 1), .int x1, .int x2, .int x3, .long l4]) cm_X3_set im_X3_set se_X3_set (ci := 3) rfl (by decide) ml_X7_55 ⟨by decide, by decide⟩ dX7_addNode_68 rfl rfl (Nat.le_of_ble_eq_true rfl) H.2.2.2.1 (jj_C.mono H.2.2.2.2 (fun v2 h1 H3 => j_aload_n dX7_addNode_71 rfl 0 rfl (j_getR (f := 352) cls_X7 2 (by decide) fl_X7_19 rfl rfl dX7_addNode_72 H3.1 (j_aload_n dX7_addNode_75 rfl 0 rfl (j_getI (f := 353) cls_X7 3 (by decide) fl_X7_33 rfl (by decide) dX7_addNode_76 H3.1 (j_iload dX7_addNode_79 5 rfl (j_iconst (v := 1) dX7_addNode_81 rfl (j_iadd dX7_addNode_82 (j_iast dX7_addNode_83 H3.2.1 H3.2.2.1 (j_ret (v := .int 0) dX7_addNode_84 rfl ((H3.2.2.2 _ rfl))))))))))))))))))))))))))
theorem dX8_init_0 : decode cX8_init 0 = .ok (.aload_n 0, 1) := by decide +kernel
theorem dX8_init_1 : decode cX8_init 1 = .ok (.invokespecial 3, 3) := by decide +kernel
theorem dX8_init_4 : decode cX8_init 4 = .ok (.aload_n 0, 1) := by decide +kernel
theorem dX8_init_5 : decode cX8_init 5 = .ok (.sipush 400, 3) := by decide +kernel
theorem dX8_init_8 : decode cX8_init 8 = .ok (.newarray .int, 2) := by decide +kernel
theorem dX8_init_10 : decode cX8_init 10 = .ok (.putfield 9, 3) := by decide +kernel
theorem dX8_init_13 : decode cX8_init 13 = .ok (.return_, 1) := by decide +kernel
theorem EX8_init {bc bs : Nat} {h : jj_H} {Q : Value → jj_H → Prop} (r0 : Nat) (H : ∀ d : jj_D, r0 ≠ 0 ∧ (1 ≤ bc ∧ 400 ≤ bs ∧ (∀ h1, h1 = wA h 21 400 → (jK h1 r0 = 9 ∧ (∀ h2, h2 = wR h1 400 r0 0 (jZ h + 1) → (Q (.int 0) h2)))))) : jj_C mX8_init bc bs [.ref r0] h Q := j_enter (by decide +kernel) (Nat.le_of_ble_eq_true rfl) rfl fun d => have H := H d; j_aload_n dX8_init_0 rfl 0 rfl (j_objInit ml_X8_3 im_Object co_Object dX8_init_1 (Nat.le_of_ble_eq_true rfl) (by decide) (by decide) H.1 (j_aload_n dX8_init_4 rfl 0 rfl (j_sipush (v := 400) dX8_init_5 rfl (jj_bud (cj := 1) (sj := 400) H.2.1 H.2.2.1 (j_newI (bc := (bc - 1)) (bs := (bs - 400)) (N := 400) ac_int dX8_init_8 (by decide) rfl (by decide) (j_putR (f := 400) cls_X8 0 (by decide) fl_X8_9 rfl rfl (Or.inr ⟨_, rfl⟩) (Or.inr ⟨rfl, rfl, rfl⟩) dX8_init_10 (H.2.2.2 _ rfl).1 (j_ret (v := .int 0) dX8_init_13 rfl (((H.2.2.2 _ rfl).2 _ rfl)))))))))
theorem dX8_build_0 : decode cX8_build 0 = .ok (.aload_n 1, 1) := by decide +kernel
theorem dX8_build_1 : decode cX8_build 1 = .ok (.invokevirtual 15, 3) := by decide +kernel
theorem dX8_build_4 : decode cX8_build 4 = .ok (.aload_n 1, 1) := by decide +kernel
theorem dX8_build_5 : decode cX8_build 5 = .ok (.aload_n 1, 1) := by decide +kernel
theorem dX8_build_6 : decode cX8_build 6 = .ok (.getfield 20, 3) := by decide +kernel
theorem dX8_build_9 : decode cX8_build 9 = .ok (.getfield 24, 3) := by decide +kernel
theorem dX8_build_12 : decode cX8_build 12 = .ok (.aload_n 1, 1) := by decide +kernel
theorem dX8_build_13 : decode cX8_build 13 = .ok (.getfield 20, 3) := by decide +kernel
theorem dX8_build_16 : decode cX8_build 16 = .ok (.getfield 29, 3) := by decide +kernel
theorem dX8_build_19 : decode cX8_build 19 = .ok (.invokestatic 33, 3) := by decide +kernel
theorem dX8_build_22 : decode cX8_build 22 = .ok (.iconst 1, 1) := by decide +kernel
theorem dX8_build_23 : decode cX8_build 23 = .ok (.istore_n 2, 1) := by decide +kernel
theorem dX8_build_24 : decode cX8_build 24 = .ok (.iload_n 2, 1) := by decide +kernel
theorem dX8_build_25 : decode cX8_build 25 = .ok (.bipush 8, 2) := by decide +kernel
theorem dX8_build_27 : decode cX8_build 27 = .ok (.if_icmp .ge 38, 3) := by decide +kernel
theorem dX8_build_30 : decode cX8_build 30 = .ok (.aload_n 1, 1) := by decide +kernel
theorem dX8_build_31 : decode cX8_build 31 = .ok (.iload_n 2, 1) := by decide +kernel
theorem dX8_build_32 : decode cX8_build 32 = .ok (.iconst 1, 1) := by decide +kernel
theorem dX8_build_33 : decode cX8_build 33 = .ok (.isub, 1) := by decide +kernel
theorem dX8_build_34 : decode cX8_build 34 = .ok (.invokevirtual 37, 3) := by decide +kernel
theorem dX8_build_37 : decode cX8_build 37 = .ok (.iconst 1, 1) := by decide +kernel
theorem dX8_build_38 : decode cX8_build 38 = .ok (.if_icmp .le 27, 3) := by decide +kernel
theorem dX8_build_41 : decode cX8_build 41 = .ok (.aload_n 0, 1) := by decide +kernel
theorem dX8_build_42 : decode cX8_build 42 = .ok (.aload_n 1, 1) := by decide +kernel
theorem dX8_build_43 : decode cX8_build 43 = .ok (.iload_n 2, 1) := by decide +kernel
theorem dX8_build_44 : decode cX8_build 44 = .ok (.iconst 1, 1) := by decide +kernel
theorem dX8_build_45 : decode cX8_build 45 = .ok (.isub, 1) := by decide +kernel
theorem dX8_build_46 : decode cX8_build 46 = .ok (.invokevirtual 41, 3) := by decide +kernel
theorem dX8_build_49 : decode cX8_build 49 = .ok (.istore_n 3, 1) := by decide +kernel
theorem dX8_build_50 : decode cX8_build 50 = .ok (.aload_n 1, 1) := by decide +kernel
theorem dX8_build_51 : decode cX8_build 51 = .ok (.aload_n 0, 1) := by decide +kernel
theorem dX8_build_52 : decode cX8_build 52 = .ok (.getfield 9, 3) := by decide +kernel
theorem dX8_build_55 : decode cX8_build 55 = .ok (.iload_n 3, 1) := by decide +kernel
theorem dX8_build_56 : decode cX8_build 56 = .ok (.invokestatic 33, 3) := by decide +kernel
theorem dX8_build_59 : decode cX8_build 59 = .ok (.iinc 2 1, 3) := by decide +kernel
theorem dX8_build_62 : decode cX8_build 62 = .ok (.goto (-38), 3) := by decide +kernel
theorem dX8_build_65 : decode cX8_build 65 = .ok (.aload_n 1, 1) := by decide +kernel
theorem dX8_build_66 : decode cX8_build 66 = .ok (.iconst 0, 1) := by decide +kernel
theorem dX8_build_67 : decode cX8_build 67 = .ok (.putfield 45, 3) := by decide +kernel
theorem dX8_build_70 : decode cX8_build 70 = .ok (.return_, 1) := by decide +kernel
theorem EX8_build {bc bs : Nat} {h : jj_H} {Q : Value → jj_H → Prop} (r0 : Nat) (r1 : Nat) (H : ∀ d : jj_D, jK h r1 = 8 ∧ (jj_C mX7_clearNodes 0 0 [.ref r1] h (fun v2 h1 => jK h1 r1 = 8 ∧ (jK h1 (jR h1 350 r1 0) = 7 ∧ (202 ≤ bc ∧ 1818 ≤ bs ∧ (jj_C mX8_cutLevel 202 1818 [.ref r1, .ref (jR h1 300 (jR h1 350 r1 0) 0), .int (jI h1 301 (jR h1 350 r1 0) 0)] h1 (fun v5 h4 => jj_WP d mX8_build (bc - 202) (bs - 1818) 24 [(0, .ref r0), (1, .ref r1), (2, .int 1)] [] h4 Q))))))) : jj_C mX8_build bc bs [.ref r0, .ref r1] h Q := j_enter (by decide +kernel) (Nat.le_of_ble_eq_true rfl) rfl fun d => have H := H d; j_aload_n dX8_build_0 rfl 1 rfl (j_callV0 (as := []) cm_X7_clearNodes im_X7_clearNodes se_X7_clearNodes (ci := 7) rfl (by decide) ml_X8_15 ⟨by decide, by decide⟩ dX8_build_1 rfl rfl (Nat.le_of_ble_eq_true rfl) H.1 (jj_C.mono H.2 (fun v2 h1 H3 => j_aload_n dX8_build_4 rfl 1 rfl (j_aload_n dX8_build_5 rfl 1 rfl (j_getR (f := 350) cls_X7 0 (by decide) fl_X8_20 rfl rfl dX8_build_6 H3.1 (j_getR (f := 300) cls_X6 0 (by decide) fl_X8_24 rfl rfl dX8_build_9 H3.2.1 (j_aload_n dX8_build_12 rfl 1 rfl (j_getR (f := 350) cls_X7 0 (by decide) fl_X8_20 rfl rfl dX8_build_13 H3.1 (j_getI (f := 301) cls_X6 1 (by decide) fl_X8_29 rfl (by decide) dX8_build_16 H3.2.1 (jj_bud (cj := 202) (sj := 1818) H3.2.2.1 H3.2.2.2.1 (j_callS (cj := 202) (sj := 1818) (bc := (bc - 202)) (bs := (bs - 1818)) (as := [.ref r1, .ref (jR h1 300 (jR h1 350 r1 0) 0), .int (jI h1 301 (jR h1 350 r1 0) 0)]) cm_X8_cutLevel sm_X8_cutLevel ml_X8_33 ⟨by decide, by decide⟩ dX8_build_19 rfl rfl (Nat.le_of_ble_eq_true rfl) (jj_C.mono H3.2.2.2.2 (fun v5 h4 H6 => j_iconst (v := 1) dX8_build_22 rfl (j_istore_n (L' := [(2, .int 1), (0, .ref r0), (1, .ref r1)]) dX8_build_23 rfl (by decide) rfl (j_sub [1, 2, 0] rfl (H6))))))))))))))))
theorem VX8_build_24 {d : jj_D} {bc bs : Nat} {h : jj_H} {Q : Value → jj_H → Prop} (r0 : Nat) (r1 : Nat) (x2 : Int32) (H : (8 ≤ x2 → jK h r1 = 8 ∧ (∀ h2, h2 = wI h 354 r1 0 0 → (Q (.int 0) h2))) ∧ (¬ 8 ≤ x2 → jK h r1 = 8 ∧ (jj_C mX7_nodesOn 0 0 [.ref r1, .int (x2 - 1)] h (fun v4 h3 => jj_vi (fun y5 => (y5 ≤ 1 → jK h3 r1 = 8 ∧ (∀ h8, h8 = wI h3 354 r1 0 0 → (Q (.int 0) h8))) ∧ (¬ y5 ≤ 1 → jK h3 r0 = 9 ∧ (jj_C mX8_writeEntries 0 0 [.ref r0, .ref r1, .int (x2 - 1)] h3 (fun v10 h9 => jj_vi (fun y11 => jK h9 r0 = 9 ∧ (202 ≤ bc ∧ 1818 ≤ bs ∧ (jj_C mX8_cutLevel 202 1818 [.ref r1, .ref (jR h9 400 r0 0), .int y11] h9 (fun v14 h13 => jj_WP d mX8_build (bc - 202) (bs - 1818) 24 [(0, .ref r0), (1, .ref r1), (2, .int (x2 + 1))] [] h13 Q)))) v10)))) v4)))) : jj_WP d mX8_build bc bs 24 [(0, .ref r0), (1, .ref r1), (2, .int x2)] [] h Q := j_iload_n dX8_build_24 rfl 2 rfl (j_bipush (v := 8) dX8_build_25 rfl (j_icmp_ge (tgt := 65) dX8_build_27 (by decide) (fun c1 => j_aload_n dX8_build_65 rfl 1 rfl (j_iconst (v := 0) dX8_build_66 rfl (j_putZ (f := 354) cls_X7 4 (by decide) fl_X8_45 rfl rfl ⟨rfl, by decide⟩ (Or.inl rfl) dX8_build_67 (H.1 c1).1 (j_ret (v := .int 0) dX8_build_70 rfl (((H.1 c1).2 _ rfl)))))) (fun c1 => j_aload_n dX8_build_30 rfl 1 rfl (j_iload_n dX8_build_31 rfl 2 rfl (j_iconst (v := 1) dX8_build_32 rfl (j_isub dX8_build_33 (j_callV0 (as := [.int (x2 - 1)]) cm_X7_nodesOn im_X7_nodesOn se_X7_nodesOn (ci := 7) rfl (by decide) ml_X8_37 ⟨by decide, by decide⟩ dX8_build_34 rfl rfl (Nat.le_of_ble_eq_true rfl) (H.2 c1).1 (jj_C.mono (H.2 c1).2 (fun v4 h3 H6 => jj_vi_e (fun y5 H6 => j_iconst (v := 1) dX8_build_37 rfl (j_icmp_le (tgt := 65) dX8_build_38 (by decide) (fun c7 => j_aload_n dX8_build_65 rfl 1 rfl (j_iconst (v := 0) dX8_build_66 rfl (j_putZ (f := 354) cls_X7 4 (by decide) fl_X8_45 rfl rfl ⟨rfl, by decide⟩ (Or.inl rfl) dX8_build_67 (H6.1 c7).1 (j_ret (v := .int 0) dX8_build_70 rfl (((H6.1 c7).2 _ rfl)))))) (fun c7 => j_aload_n dX8_build_41 rfl 0 rfl (j_aload_n dX8_build_42 rfl 1 rfl (j_iload_n dX8_build_43 rfl 2 rfl (j_iconst (v := 1) dX8_build_44 rfl (j_isub dX8_build_45 (j_callV0 (as := [.ref r1, .int (x2 - 1)]) cm_X8_writeEntries im_X8_writeEntries se_X8_writeEntries (ci := 8) rfl (by decide) ml_X8_41 ⟨by decide, by decide⟩ dX8_build_46 rfl rfl (Nat.le_of_ble_eq_true rfl) (H6.2 c7).1 (jj_C.mono (H6.2 c7).2 (fun v10 h9 H12 => jj_vi_e (fun y11 H12 => j_istore_n (L' := [(3, .int y11), (0, .ref r0), (1, .ref r1), (2, .int x2)]) dX8_build_49 rfl (by decide) rfl (j_aload_n dX8_build_50 rfl 2 rfl (j_aload_n dX8_build_51 rfl 1 rfl (j_getR (f := 400) cls_X8 0 (by decide) fl_X8_9 rfl rfl dX8_build_52 H12.1 (j_iload_n dX8_build_55 rfl 0 rfl (jj_bud (cj := 202) (sj := 1818) H12.2.1 H12.2.2.1 (j_callS (cj := 202) (sj := 1818) (bc := (bc - 202)) (bs := (bs - 1818)) (as := [.ref r1, .ref (jR h9 400 r0 0), .int y11]) cm_X8_cutLevel sm_X8_cutLevel ml_X8_33 ⟨by decide, by decide⟩ dX8_build_56 rfl rfl (Nat.le_of_ble_eq_true rfl) (jj_C.mono H12.2.2.2 (fun v14 h13 H15 => j_iinc (v := (x2 + 1)) (L' := [(2, .int (x2 + 1)), (3, .int y11), (0, .ref r0), (1, .ref r1)]) dX8_build_59 3 rfl rfl (by decide) rfl (j_goto (tgt := 24) dX8_build_62 (by decide) (j_sub [2, 3, 0] rfl (H15)))))))))))) H12)))))))))) H6)))))))))
theorem dX8_writeEntries_0 : decode cX8_writeEntries 0 = .ok (.aload_n 1, 1) := by decide +kernel
theorem dX8_writeEntries_1 : decode cX8_writeEntries 1 = .ok (.iload_n 2, 1) := by decide +kernel
theorem dX8_writeEntries_2 : decode cX8_writeEntries 2 = .ok (.invokevirtual 37, 3) := by decide +kernel
theorem dX8_writeEntries_5 : decode cX8_writeEntries 5 = .ok (.aload_n 0, 1) := by decide +kernel
theorem dX8_writeEntries_6 : decode cX8_writeEntries 6 = .ok (.getfield 9, 3) := by decide +kernel
theorem dX8_writeEntries_9 : decode cX8_writeEntries 9 = .ok (.arraylength, 1) := by decide +kernel
theorem dX8_writeEntries_10 : decode cX8_writeEntries 10 = .ok (.iconst 4, 1) := by decide +kernel
theorem dX8_writeEntries_11 : decode cX8_writeEntries 11 = .ok (.idiv, 1) := by decide +kernel
theorem dX8_writeEntries_12 : decode cX8_writeEntries 12 = .ok (.invokestatic 49, 3) := by decide +kernel
theorem dX8_writeEntries_15 : decode cX8_writeEntries 15 = .ok (.istore_n 3, 1) := by decide +kernel
theorem dX8_writeEntries_16 : decode cX8_writeEntries 16 = .ok (.iconst 0, 1) := by decide +kernel
theorem dX8_writeEntries_17 : decode cX8_writeEntries 17 = .ok (.istore 4, 2) := by decide +kernel
theorem dX8_writeEntries_19 : decode cX8_writeEntries 19 = .ok (.iload 4, 2) := by decide +kernel
theorem dX8_writeEntries_21 : decode cX8_writeEntries 21 = .ok (.iload_n 3, 1) := by decide +kernel
theorem dX8_writeEntries_22 : decode cX8_writeEntries 22 = .ok (.if_icmp .ge 94, 3) := by decide +kernel
theorem dX8_writeEntries_25 : decode cX8_writeEntries 25 = .ok (.aload_n 1, 1) := by decide +kernel
theorem dX8_writeEntries_26 : decode cX8_writeEntries 26 = .ok (.iload_n 2, 1) := by decide +kernel
theorem dX8_writeEntries_27 : decode cX8_writeEntries 27 = .ok (.iload 4, 2) := by decide +kernel
theorem dX8_writeEntries_29 : decode cX8_writeEntries 29 = .ok (.invokevirtual 55, 3) := by decide +kernel
theorem dX8_writeEntries_32 : decode cX8_writeEntries 32 = .ok (.astore 5, 2) := by decide +kernel
theorem dX8_writeEntries_34 : decode cX8_writeEntries 34 = .ok (.aload 5, 2) := by decide +kernel
theorem dX8_writeEntries_36 : decode cX8_writeEntries 36 = .ok (.ifnonnull 6, 3) := by decide +kernel
theorem dX8_writeEntries_39 : decode cX8_writeEntries 39 = .ok (.iload 4, 2) := by decide +kernel
theorem dX8_writeEntries_41 : decode cX8_writeEntries 41 = .ok (.ireturn, 1) := by decide +kernel
theorem dX8_writeEntries_42 : decode cX8_writeEntries 42 = .ok (.aload_n 0, 1) := by decide +kernel
theorem dX8_writeEntries_43 : decode cX8_writeEntries 43 = .ok (.getfield 9, 3) := by decide +kernel
theorem dX8_writeEntries_46 : decode cX8_writeEntries 46 = .ok (.iconst 4, 1) := by decide +kernel
theorem dX8_writeEntries_47 : decode cX8_writeEntries 47 = .ok (.iload 4, 2) := by decide +kernel
theorem dX8_writeEntries_49 : decode cX8_writeEntries 49 = .ok (.imul, 1) := by decide +kernel
theorem dX8_writeEntries_50 : decode cX8_writeEntries 50 = .ok (.aload 5, 2) := by decide +kernel
theorem dX8_writeEntries_52 : decode cX8_writeEntries 52 = .ok (.invokevirtual 59, 3) := by decide +kernel
theorem dX8_writeEntries_55 : decode cX8_writeEntries 55 = .ok (.l2i, 1) := by decide +kernel
theorem dX8_writeEntries_56 : decode cX8_writeEntries 56 = .ok (.iastore, 1) := by decide +kernel
theorem dX8_writeEntries_57 : decode cX8_writeEntries 57 = .ok (.aload_n 0, 1) := by decide +kernel
theorem dX8_writeEntries_58 : decode cX8_writeEntries 58 = .ok (.getfield 9, 3) := by decide +kernel
theorem dX8_writeEntries_61 : decode cX8_writeEntries 61 = .ok (.iconst 4, 1) := by decide +kernel
theorem dX8_writeEntries_62 : decode cX8_writeEntries 62 = .ok (.iload 4, 2) := by decide +kernel
theorem dX8_writeEntries_64 : decode cX8_writeEntries 64 = .ok (.imul, 1) := by decide +kernel
theorem dX8_writeEntries_65 : decode cX8_writeEntries 65 = .ok (.iconst 1, 1) := by decide +kernel
theorem dX8_writeEntries_66 : decode cX8_writeEntries 66 = .ok (.iadd, 1) := by decide +kernel
theorem dX8_writeEntries_67 : decode cX8_writeEntries 67 = .ok (.aload 5, 2) := by decide +kernel
theorem dX8_writeEntries_69 : decode cX8_writeEntries 69 = .ok (.getfield 65, 3) := by decide +kernel
theorem dX8_writeEntries_72 : decode cX8_writeEntries 72 = .ok (.bipush 32, 2) := by decide +kernel
theorem dX8_writeEntries_74 : decode cX8_writeEntries 74 = .ok (.lushr, 1) := by decide +kernel
theorem dX8_writeEntries_75 : decode cX8_writeEntries 75 = .ok (.l2i, 1) := by decide +kernel
theorem dX8_writeEntries_76 : decode cX8_writeEntries 76 = .ok (.iastore, 1) := by decide +kernel
theorem dX8_writeEntries_77 : decode cX8_writeEntries 77 = .ok (.aload_n 0, 1) := by decide +kernel
theorem dX8_writeEntries_78 : decode cX8_writeEntries 78 = .ok (.getfield 9, 3) := by decide +kernel
theorem dX8_writeEntries_81 : decode cX8_writeEntries 81 = .ok (.iconst 4, 1) := by decide +kernel
theorem dX8_writeEntries_82 : decode cX8_writeEntries 82 = .ok (.iload 4, 2) := by decide +kernel
theorem dX8_writeEntries_84 : decode cX8_writeEntries 84 = .ok (.imul, 1) := by decide +kernel
theorem dX8_writeEntries_85 : decode cX8_writeEntries 85 = .ok (.iconst 2, 1) := by decide +kernel
theorem dX8_writeEntries_86 : decode cX8_writeEntries 86 = .ok (.iadd, 1) := by decide +kernel
theorem dX8_writeEntries_87 : decode cX8_writeEntries 87 = .ok (.aload 5, 2) := by decide +kernel
theorem dX8_writeEntries_89 : decode cX8_writeEntries 89 = .ok (.getfield 65, 3) := by decide +kernel
theorem dX8_writeEntries_92 : decode cX8_writeEntries 92 = .ok (.l2i, 1) := by decide +kernel
theorem dX8_writeEntries_93 : decode cX8_writeEntries 93 = .ok (.iastore, 1) := by decide +kernel
theorem dX8_writeEntries_94 : decode cX8_writeEntries 94 = .ok (.aload_n 0, 1) := by decide +kernel
theorem dX8_writeEntries_95 : decode cX8_writeEntries 95 = .ok (.getfield 9, 3) := by decide +kernel
theorem dX8_writeEntries_98 : decode cX8_writeEntries 98 = .ok (.iconst 4, 1) := by decide +kernel
theorem dX8_writeEntries_99 : decode cX8_writeEntries 99 = .ok (.iload 4, 2) := by decide +kernel
theorem dX8_writeEntries_101 : decode cX8_writeEntries 101 = .ok (.imul, 1) := by decide +kernel
theorem dX8_writeEntries_102 : decode cX8_writeEntries 102 = .ok (.iconst 3, 1) := by decide +kernel
theorem dX8_writeEntries_103 : decode cX8_writeEntries 103 = .ok (.iadd, 1) := by decide +kernel
theorem dX8_writeEntries_104 : decode cX8_writeEntries 104 = .ok (.aload 5, 2) := by decide +kernel
theorem dX8_writeEntries_106 : decode cX8_writeEntries 106 = .ok (.getfield 69, 3) := by decide +kernel
theorem dX8_writeEntries_109 : decode cX8_writeEntries 109 = .ok (.iastore, 1) := by decide +kernel
theorem dX8_writeEntries_110 : decode cX8_writeEntries 110 = .ok (.iinc 4 1, 3) := by decide +kernel
theorem dX8_writeEntries_113 : decode cX8_writeEntries 113 = .ok (.goto (-94), 3) := by decide +kernel
theorem dX8_writeEntries_116 : decode cX8_writeEntries 116 = .ok (.iload_n 3, 1) := by decide +kernel
theorem dX8_writeEntries_117 : decode cX8_writeEntries 117 = .ok (.ireturn, 1) := by decide +kernel
theorem EX8_writeEntries {h : jj_H} {Q : Value → jj_H → Prop} (r0 : Nat) (r1 : Nat) (x2 : Int32) (H : ∀ d : jj_D, jK h r1 = 8 ∧ (jj_C mX7_nodesOn 0 0 [.ref r1, .int x2] h (fun v2 h1 => jj_vi (fun y3 => jK h1 r0 = 9 ∧ (jK h1 (jR h1 400 r0 0) = 21 ∧ (jj_WP d mX8_writeEntries 0 0 19 [(0, .ref r0), (1, .ref r1), (2, .int x2), (3, .int (if ((nI (jN h1 (jR h1 400 r0 0))) / 4) < y3 then ((nI (jN h1 (jR h1 400 r0 0))) / 4) else y3)), (4, .int 0)] [] h1 Q))) v2))) : jj_C mX8_writeEntries 0 0 [.ref r0, .ref r1, .int x2] h Q := j_enter (by decide +kernel) (Nat.le_of_ble_eq_true rfl) rfl fun d => have H := H d; j_aload_n dX8_writeEntries_0 rfl 1 rfl (j_iload_n dX8_writeEntries_1 rfl 2 rfl (j_callV0 (as := [.int x2]) cm_X7_nodesOn im_X7_nodesOn se_X7_nodesOn (ci := 7) rfl (by decide) ml_X8_37 ⟨by decide, by decide⟩ dX8_writeEntries_2 rfl rfl (Nat.le_of_ble_eq_true rfl) H.1 (jj_C.mono H.2 (fun v2 h1 H4 => jj_vi_e (fun y3 H4 => j_aload_n dX8_writeEntries_5 rfl 0 rfl (j_getR (f := 400) cls_X8 0 (by decide) fl_X8_9 rfl rfl dX8_writeEntries_6 H4.1 (j_alenI dX8_writeEntries_9 H4.2.1 (j_iconst (v := 4) dX8_writeEntries_10 rfl (j_idiv dX8_writeEntries_11 (by decide) (j_mmin ml_min_X8_49 sm_min it_Math co_min (by decide) (by decide) dX8_writeEntries_12 (Nat.le_of_ble_eq_true rfl) (j_istore_n (L' := [(3, .int (if ((nI (jN h1 (jR h1 400 r0 0))) / 4) < y3 then ((nI (jN h1 (jR h1 400 r0 0))) / 4) else y3)), (0, .ref r0), (1, .ref r1), (2, .int x2)]) dX8_writeEntries_15 rfl (by decide) rfl (j_iconst (v := 0) dX8_writeEntries_16 rfl (j_istore (L' := [(4, .int 0), (3, .int (if ((nI (jN h1 (jR h1 400 r0 0))) / 4) < y3 then ((nI (jN h1 (jR h1 400 r0 0))) / 4) else y3)), (0, .ref r0), (1, .ref r1), (2, .int x2)]) dX8_writeEntries_17 (by decide) rfl (j_sub [2, 3, 4, 1, 0] rfl (H4.2.2))))))))))) H4))))
theorem VX8_writeEntries_19 {d : jj_D} {h : jj_H} {Q : Value → jj_H → Prop} (r0 : Nat) (r1 : Nat) (x2 : Int32) (x3 : Int32) (x4 : Int32) (H : (x3 ≤ x4 → Q (.int x3) h) ∧ (¬ x3 ≤ x4 → jK h r1 = 8 ∧ (jj_C mX7_nodeAt 0 0 [.ref r1, .int x2, .int x4] h (fun v3 h2 => jj_vr (fun q4 => (¬ q4 = 0 → jK h2 r0 = 9 ∧ (jK h2 q4 = 4 ∧ (jj_C mX3_lastKey 0 0 [.ref q4] h2 (fun v8 h7 => jj_vj (fun k9 => jK h7 (jR h2 400 r0 0) = 21 ∧ (vp_in (4 * x4) (jN h7 (jR h2 400 r0 0)) ∧ (∀ h11, h11 = wI h7 1000 (jR h2 400 r0 0) (Int32.toNatClampNeg (4 * x4)) (Int64.toInt32 k9) → (jK h7 r0 = 9 ∧ (jK h7 q4 = 4 ∧ (jK h7 (jR h11 400 r0 0) = 21 ∧ (vp_in ((4 * x4) + 1) (jN h7 (jR h11 400 r0 0)) ∧ (∀ h12, h12 = wI h11 1000 (jR h11 400 r0 0) (Int32.toNatClampNeg ((4 * x4) + 1)) (Int64.toInt32 (Int64.toUInt64 (jL h11 155 q4 0) >>> ((Int32.toInt64 32).toUInt64 &&& Int64.toUInt64 63)).toInt64) → (jK h7 (jR h12 400 r0 0) = 21 ∧ (vp_in ((4 * x4) + 2) (jN h7 (jR h12 400 r0 0)) ∧ (∀ h13, h13 = wI h12 1000 (jR h12 400 r0 0) (Int32.toNatClampNeg ((4 * x4) + 2)) (Int64.toInt32 (jL h12 155 q4 0)) → (jK h7 (jR h13 400 r0 0) = 21 ∧ (vp_in ((4 * x4) + 3) (jN h7 (jR h13 400 r0 0)) ∧ (∀ h14, h14 = wI h13 1000 (jR h13 400 r0 0) (Int32.toNatClampNeg ((4 * x4) + 3)) (jI h13 153 q4 0) → (jj_WP d mX8_writeEntries 0 0 19 [(0, .ref r0), (1, .ref r1), (2, .int x2), (3, .int x3), (4, .int (x4 + 1))] [] h14 Q))))))))))))))) v8)))) ∧ (q4 = 0 → Q (.int x4) h2)) v3)))) : jj_WP d mX8_writeEntries 0 0 19 [(0, .ref r0), (1, .ref r1), (2, .int x2), (3, .int x3), (4, .int x4)] [] h Q := j_iload dX8_writeEntries_19 4 rfl (j_iload_n dX8_writeEntries_21 rfl 3 rfl (j_icmp_ge (tgt := 116) dX8_writeEntries_22 (by decide) (fun c1 => j_iload_n dX8_writeEntries_116 rfl 3 rfl (j_ret (v := .int x3) ⟨dX8_writeEntries_117, _, rfl⟩ rfl ((H.1 c1)))) (fun c1 => j_aload_n dX8_writeEntries_25 rfl 1 rfl (j_iload_n dX8_writeEntries_26 rfl 2 rfl (j_iload dX8_writeEntries_27 4 rfl (j_callV0 (as := [.int x2, .int x4]) cm_X7_nodeAt im_X7_nodeAt se_X7_nodeAt (ci := 7) rfl (by decide) ml_X8_55 ⟨by decide, by decide⟩ dX8_writeEntries_29 rfl rfl (Nat.le_of_ble_eq_true rfl) (H.2 c1).1 (jj_C.mono (H.2 c1).2 (fun v3 h2 H5 => jj_vr_e (fun q4 H5 => j_astore (L' := [(5, .ref q4), (0, .ref r0), (1, .ref r1), (2, .int x2), (3, .int x3), (4, .int x4)]) dX8_writeEntries_32 (by decide) rfl (j_aload dX8_writeEntries_34 0 rfl (j_ifnonnull (tgt := 42) dX8_writeEntries_36 (by decide) (fun c6 => j_aload_n dX8_writeEntries_42 rfl 1 rfl (j_getR (f := 400) cls_X8 0 (by decide) fl_X8_9 rfl rfl dX8_writeEntries_43 (H5.1 c6).1 (j_iconst (v := 4) dX8_writeEntries_46 rfl (j_iload dX8_writeEntries_47 5 rfl (j_imul dX8_writeEntries_49 (j_aload dX8_writeEntries_50 0 rfl (j_callV0 (as := []) cm_X3_lastKey im_X3_lastKey se_X3_lastKey (ci := 3) rfl (by decide) ml_X8_59 ⟨by decide, by decide⟩ dX8_writeEntries_52 rfl rfl (Nat.le_of_ble_eq_true rfl) (H5.1 c6).2.1 (jj_C.mono (H5.1 c6).2.2 (fun v8 h7 H10 => jj_vj_e (fun k9 H10 => j_l2i dX8_writeEntries_55 (j_iast dX8_writeEntries_56 H10.1 H10.2.1 (j_aload_n dX8_writeEntries_57 rfl 1 rfl (j_getR (f := 400) cls_X8 0 (by decide) fl_X8_9 rfl rfl dX8_writeEntries_58 (H10.2.2 _ rfl).1 (j_iconst (v := 4) dX8_writeEntries_61 rfl (j_iload dX8_writeEntries_62 5 rfl (j_imul dX8_writeEntries_64 (j_iconst (v := 1) dX8_writeEntries_65 rfl (j_iadd dX8_writeEntries_66 (j_aload dX8_writeEntries_67 0 rfl (j_getL (f := 155) cls_X3 5 (by decide) fl_X8_65 rfl rfl dX8_writeEntries_69 (H10.2.2 _ rfl).2.1 (j_bipush (v := 32) dX8_writeEntries_72 rfl (j_lushr dX8_writeEntries_74 (j_l2i dX8_writeEntries_75 (j_iast dX8_writeEntries_76 (H10.2.2 _ rfl).2.2.1 (H10.2.2 _ rfl).2.2.2.1 (j_aload_n dX8_writeEntries_77 rfl 1 rfl (j_getR (f := 400) cls_X8 0 (by decide) fl_X8_9 rfl rfl dX8_writeEntries_78 (H10.2.2 _ rfl).1 (j_iconst (v := 4) dX8_writeEntries_81 rfl (j_iload dX8_writeEntries_82 5 rfl (j_imul dX8_writeEntries_84 (j_iconst (v := 2) dX8_writeEntries_85 rfl (j_iadd dX8_writeEntries_86 (j_aload dX8_writeEntries_87 0 rfl (j_getL (f := 155) cls_X3 5 (by decide) fl_X8_65 rfl rfl dX8_writeEntries_89 (H10.2.2 _ rfl).2.1 (j_l2i dX8_writeEntries_92 (j_iast dX8_writeEntries_93 ((H10.2.2 _ rfl).2.2.2.2 _ rfl).1 ((H10.2.2 _ rfl).2.2.2.2 _ rfl).2.1 (j_aload_n dX8_writeEntries_94 rfl 1 rfl (j_getR (f := 400) cls_X8 0 (by decide) fl_X8_9 rfl rfl dX8_writeEntries_95 (H10.2.2 _ rfl).1 (j_iconst (v := 4) dX8_writeEntries_98 rfl (j_iload dX8_writeEntries_99 5 rfl (j_imul dX8_writeEntries_101 (j_iconst (v := 3) dX8_writeEntries_102 rfl (j_iadd dX8_writeEntries_103 (j_aload dX8_writeEntries_104 0 rfl (j_getI (f := 153) cls_X3 3 (by decide) fl_X8_69 rfl (by decide) dX8_writeEntries_106 (H10.2.2 _ rfl).2.1 (j_iast dX8_writeEntries_109 (((H10.2.2 _ rfl).2.2.2.2 _ rfl).2.2 _ rfl).1 (((H10.2.2 _ rfl).2.2.2.2 _ rfl).2.2 _ rfl).2.1 (j_iinc (v := (x4 + 1)) (L' := [(4, .int (x4 + 1)), (5, .ref q4), (0, .ref r0), (1, .ref r1), (2, .int x2), (3, .int x3)]) dX8_writeEntries_110 5 rfl rfl (by decide) rfl (j_goto (tgt := 19) dX8_writeEntries_113 (by decide) (j_sub [2, 3, 4, 5, 0] rfl (((((H10.2.2 _ rfl).2.2.2.2 _ rfl).2.2 _ rfl).2.2 _ rfl))))))))))))))))))))))))))))))))))))))))) H10))))))))) (fun c6 => j_iload dX8_writeEntries_39 5 rfl (j_ret (v := .int x4) ⟨dX8_writeEntries_41, _, rfl⟩ rfl ((H5.2 c6))))))) H5))))))))
theorem dX8_cutLevel_0 : decode cX8_cutLevel 0 = .ok (.aload_n 0, 1) := by decide +kernel
theorem dX8_cutLevel_1 : decode cX8_cutLevel 1 = .ok (.invokevirtual 72, 3) := by decide +kernel
theorem dX8_cutLevel_4 : decode cX8_cutLevel 4 = .ok (.istore_n 3, 1) := by decide +kernel
theorem dX8_cutLevel_5 : decode cX8_cutLevel 5 = .ok (.iload_n 2, 1) := by decide +kernel
theorem dX8_cutLevel_6 : decode cX8_cutLevel 6 = .ok (.ifCond .ne 17, 3) := by decide +kernel
theorem dX8_cutLevel_9 : decode cX8_cutLevel 9 = .ok (.aload_n 0, 1) := by decide +kernel
theorem dX8_cutLevel_10 : decode cX8_cutLevel 10 = .ok (.iconst 0, 1) := by decide +kernel
theorem dX8_cutLevel_11 : decode cX8_cutLevel 11 = .ok (.iconst 0, 1) := by decide +kernel
theorem dX8_cutLevel_12 : decode cX8_cutLevel 12 = .ok (.iconst 0, 1) := by decide +kernel
theorem dX8_cutLevel_13 : decode cX8_cutLevel 13 = .ok (.iload_n 3, 1) := by decide +kernel
theorem dX8_cutLevel_14 : decode cX8_cutLevel 14 = .ok (.aload_n 1, 1) := by decide +kernel
theorem dX8_cutLevel_15 : decode cX8_cutLevel 15 = .ok (.iconst 0, 1) := by decide +kernel
theorem dX8_cutLevel_16 : decode cX8_cutLevel 16 = .ok (.iconst 0, 1) := by decide +kernel
theorem dX8_cutLevel_17 : decode cX8_cutLevel 17 = .ok (.invokestatic 76, 3) := by decide +kernel
theorem dX8_cutLevel_20 : decode cX8_cutLevel 20 = .ok (.invokevirtual 80, 3) := by decide +kernel
theorem dX8_cutLevel_23 : decode cX8_cutLevel 23 = .ok (.iconst 0, 1) := by decide +kernel
theorem dX8_cutLevel_24 : decode cX8_cutLevel 24 = .ok (.istore 4, 2) := by decide +kernel
theorem dX8_cutLevel_26 : decode cX8_cutLevel 26 = .ok (.iconst 0, 1) := by decide +kernel
theorem dX8_cutLevel_27 : decode cX8_cutLevel 27 = .ok (.istore 5, 2) := by decide +kernel
theorem dX8_cutLevel_29 : decode cX8_cutLevel 29 = .ok (.iconst 0, 1) := by decide +kernel
theorem dX8_cutLevel_30 : decode cX8_cutLevel 30 = .ok (.istore 6, 2) := by decide +kernel
theorem dX8_cutLevel_32 : decode cX8_cutLevel 32 = .ok (.iconst 0, 1) := by decide +kernel
theorem dX8_cutLevel_33 : decode cX8_cutLevel 33 = .ok (.istore 7, 2) := by decide +kernel
theorem dX8_cutLevel_35 : decode cX8_cutLevel 35 = .ok (.iload 7, 2) := by decide +kernel
theorem dX8_cutLevel_37 : decode cX8_cutLevel 37 = .ok (.iload_n 2, 1) := by decide +kernel
theorem dX8_cutLevel_38 : decode cX8_cutLevel 38 = .ok (.if_icmp .ge 99, 3) := by decide +kernel
theorem dX8_cutLevel_41 : decode cX8_cutLevel 41 = .ok (.iload 6, 2) := by decide +kernel
theorem dX8_cutLevel_43 : decode cX8_cutLevel 43 = .ok (.aload_n 1, 1) := by decide +kernel
theorem dX8_cutLevel_44 : decode cX8_cutLevel 44 = .ok (.iload 4, 2) := by decide +kernel
theorem dX8_cutLevel_46 : decode cX8_cutLevel 46 = .ok (.iload 7, 2) := by decide +kernel
theorem dX8_cutLevel_48 : decode cX8_cutLevel 48 = .ok (.invokestatic 84, 3) := by decide +kernel
theorem dX8_cutLevel_51 : decode cX8_cutLevel 51 = .ok (.istore 6, 2) := by decide +kernel
theorem dX8_cutLevel_53 : decode cX8_cutLevel 53 = .ok (.iload 7, 2) := by decide +kernel
theorem dX8_cutLevel_55 : decode cX8_cutLevel 55 = .ok (.iload_n 2, 1) := by decide +kernel
theorem dX8_cutLevel_56 : decode cX8_cutLevel 56 = .ok (.iconst 1, 1) := by decide +kernel
theorem dX8_cutLevel_57 : decode cX8_cutLevel 57 = .ok (.isub, 1) := by decide +kernel
theorem dX8_cutLevel_58 : decode cX8_cutLevel 58 = .ok (.if_icmp .eq 18, 3) := by decide +kernel
theorem dX8_cutLevel_61 : decode cX8_cutLevel 61 = .ok (.iload 7, 2) := by decide +kernel
theorem dX8_cutLevel_63 : decode cX8_cutLevel 63 = .ok (.iload 4, 2) := by decide +kernel
theorem dX8_cutLevel_65 : decode cX8_cutLevel 65 = .ok (.isub, 1) := by decide +kernel
theorem dX8_cutLevel_66 : decode cX8_cutLevel 66 = .ok (.iconst 1, 1) := by decide +kernel
theorem dX8_cutLevel_67 : decode cX8_cutLevel 67 = .ok (.iadd, 1) := by decide +kernel
theorem dX8_cutLevel_68 : decode cX8_cutLevel 68 = .ok (.iload 6, 2) := by decide +kernel
theorem dX8_cutLevel_70 : decode cX8_cutLevel 70 = .ok (.invokestatic 88, 3) := by decide +kernel
theorem dX8_cutLevel_73 : decode cX8_cutLevel 73 = .ok (.ifCond .eq 58, 3) := by decide +kernel
theorem dX8_cutLevel_76 : decode cX8_cutLevel 76 = .ok (.iload_n 3, 1) := by decide +kernel
theorem dX8_cutLevel_77 : decode cX8_cutLevel 77 = .ok (.aload_n 1, 1) := by decide +kernel
theorem dX8_cutLevel_78 : decode cX8_cutLevel 78 = .ok (.iload 4, 2) := by decide +kernel
theorem dX8_cutLevel_80 : decode cX8_cutLevel 80 = .ok (.iload 7, 2) := by decide +kernel
theorem dX8_cutLevel_82 : decode cX8_cutLevel 82 = .ok (.iconst 1, 1) := by decide +kernel
theorem dX8_cutLevel_83 : decode cX8_cutLevel 83 = .ok (.iadd, 1) := by decide +kernel
theorem dX8_cutLevel_84 : decode cX8_cutLevel 84 = .ok (.invokestatic 92, 3) := by decide +kernel
theorem dX8_cutLevel_87 : decode cX8_cutLevel 87 = .ok (.istore 8, 2) := by decide +kernel
theorem dX8_cutLevel_89 : decode cX8_cutLevel 89 = .ok (.aload_n 0, 1) := by decide +kernel
theorem dX8_cutLevel_90 : decode cX8_cutLevel 90 = .ok (.iload 5, 2) := by decide +kernel
theorem dX8_cutLevel_92 : decode cX8_cutLevel 92 = .ok (.iload 8, 2) := by decide +kernel
theorem dX8_cutLevel_94 : decode cX8_cutLevel 94 = .ok (.iload 7, 2) := by decide +kernel
theorem dX8_cutLevel_96 : decode cX8_cutLevel 96 = .ok (.iload 4, 2) := by decide +kernel
theorem dX8_cutLevel_98 : decode cX8_cutLevel 98 = .ok (.isub, 1) := by decide +kernel
theorem dX8_cutLevel_99 : decode cX8_cutLevel 99 = .ok (.iconst 1, 1) := by decide +kernel
theorem dX8_cutLevel_100 : decode cX8_cutLevel 100 = .ok (.iadd, 1) := by decide +kernel
theorem dX8_cutLevel_101 : decode cX8_cutLevel 101 = .ok (.iload_n 3, 1) := by decide +kernel
theorem dX8_cutLevel_102 : decode cX8_cutLevel 102 = .ok (.aload_n 1, 1) := by decide +kernel
theorem dX8_cutLevel_103 : decode cX8_cutLevel 103 = .ok (.iload 4, 2) := by decide +kernel
theorem dX8_cutLevel_105 : decode cX8_cutLevel 105 = .ok (.iload 7, 2) := by decide +kernel
theorem dX8_cutLevel_107 : decode cX8_cutLevel 107 = .ok (.iconst 1, 1) := by decide +kernel
theorem dX8_cutLevel_108 : decode cX8_cutLevel 108 = .ok (.iadd, 1) := by decide +kernel
theorem dX8_cutLevel_109 : decode cX8_cutLevel 109 = .ok (.invokestatic 76, 3) := by decide +kernel
theorem dX8_cutLevel_112 : decode cX8_cutLevel 112 = .ok (.invokevirtual 80, 3) := by decide +kernel
theorem dX8_cutLevel_115 : decode cX8_cutLevel 115 = .ok (.iload 5, 2) := by decide +kernel
theorem dX8_cutLevel_117 : decode cX8_cutLevel 117 = .ok (.iload 8, 2) := by decide +kernel
theorem dX8_cutLevel_119 : decode cX8_cutLevel 119 = .ok (.iadd, 1) := by decide +kernel
theorem dX8_cutLevel_120 : decode cX8_cutLevel 120 = .ok (.istore 5, 2) := by decide +kernel
theorem dX8_cutLevel_122 : decode cX8_cutLevel 122 = .ok (.iload 7, 2) := by decide +kernel
theorem dX8_cutLevel_124 : decode cX8_cutLevel 124 = .ok (.iconst 1, 1) := by decide +kernel
theorem dX8_cutLevel_125 : decode cX8_cutLevel 125 = .ok (.iadd, 1) := by decide +kernel
theorem dX8_cutLevel_126 : decode cX8_cutLevel 126 = .ok (.istore 4, 2) := by decide +kernel
theorem dX8_cutLevel_128 : decode cX8_cutLevel 128 = .ok (.iconst 0, 1) := by decide +kernel
theorem dX8_cutLevel_129 : decode cX8_cutLevel 129 = .ok (.istore 6, 2) := by decide +kernel
theorem dX8_cutLevel_131 : decode cX8_cutLevel 131 = .ok (.iinc 7 1, 3) := by decide +kernel
theorem dX8_cutLevel_134 : decode cX8_cutLevel 134 = .ok (.goto (-99), 3) := by decide +kernel
theorem dX8_cutLevel_137 : decode cX8_cutLevel 137 = .ok (.return_, 1) := by decide +kernel
theorem EX8_cutLevel {bc bs : Nat} {h : jj_H} {Q : Value → jj_H → Prop} (r0 : Nat) (r1 : Nat) (x2 : Int32) (H : ∀ d : jj_D, jK h r0 = 8 ∧ (jj_C mX7_beginLevel 0 0 [.ref r0] h (fun v2 h1 => jj_vi (fun y3 => (¬ x2 = 0 → jj_WP d mX8_cutLevel bc bs 35 [(0, .ref r0), (1, .ref r1), (2, .int x2), (3, .int y3), (4, .int 0), (5, .int 0), (6, .int 0), (7, .int 0)] [] h1 Q) ∧ (x2 = 0 → jj_C mX8_hashOf 0 0 [.int y3, .ref r1, .int 0, .int 0] h1 (fun v7 h6 => jj_vj (fun k8 => jK h6 r0 = 8 ∧ (1 ≤ bc ∧ 9 ≤ bs ∧ (jj_C mX7_addNode 1 9 [.ref r0, .int 0, .int 0, .int 0, .long k8] h6 (fun v11 h10 => jj_WP d mX8_cutLevel (bc - 1) (bs - 9) 35 [(0, .ref r0), (1, .ref r1), (2, .int x2), (3, .int y3), (4, .int 0), (5, .int 0), (6, .int 0), (7, .int 0)] [] h10 Q)))) v7))) v2))) : jj_C mX8_cutLevel bc bs [.ref r0, .ref r1, .int x2] h Q := j_enter (by decide +kernel) (Nat.le_of_ble_eq_true rfl) rfl fun d => have H := H d; j_aload_n dX8_cutLevel_0 rfl 0 rfl (j_callV0 (as := []) cm_X7_beginLevel im_X7_beginLevel se_X7_beginLevel (ci := 7) rfl (by decide) ml_X8_72 ⟨by decide, by decide⟩ dX8_cutLevel_1 rfl rfl (Nat.le_of_ble_eq_true rfl) H.1 (jj_C.mono H.2 (fun v2 h1 H4 => jj_vi_e (fun y3 H4 => j_istore_n (L' := [(3, .int y3), (0, .ref r0), (1, .ref r1), (2, .int x2)]) dX8_cutLevel_4 rfl (by decide) rfl (j_iload_n dX8_cutLevel_5 rfl 3 rfl (j_if_ne (tgt := 23) dX8_cutLevel_6 (by decide) (fun c5 => j_iconst (v := 0) dX8_cutLevel_23 rfl (j_istore (L' := [(4, .int 0), (3, .int y3), (0, .ref r0), (1, .ref r1), (2, .int x2)]) dX8_cutLevel_24 (by decide) rfl (j_iconst (v := 0) dX8_cutLevel_26 rfl (j_istore (L' := [(5, .int 0), (4, .int 0), (3, .int y3), (0, .ref r0), (1, .ref r1), (2, .int x2)]) dX8_cutLevel_27 (by decide) rfl (j_iconst (v := 0) dX8_cutLevel_29 rfl (j_istore (L' := [(6, .int 0), (5, .int 0), (4, .int 0), (3, .int y3), (0, .ref r0), (1, .ref r1), (2, .int x2)]) dX8_cutLevel_30 (by decide) rfl (j_iconst (v := 0) dX8_cutLevel_32 rfl (j_istore (L' := [(7, .int 0), (6, .int 0), (5, .int 0), (4, .int 0), (3, .int y3), (0, .ref r0), (1, .ref r1), (2, .int x2)]) dX8_cutLevel_33 (by decide) rfl (j_sub [5, 6, 7, 4, 3, 2, 1, 0] rfl ((H4.1 c5))))))))))) (fun c5 => j_aload_n dX8_cutLevel_9 rfl 1 rfl (j_iconst (v := 0) dX8_cutLevel_10 rfl (j_iconst (v := 0) dX8_cutLevel_11 rfl (j_iconst (v := 0) dX8_cutLevel_12 rfl (j_iload_n dX8_cutLevel_13 rfl 0 rfl (j_aload_n dX8_cutLevel_14 rfl 2 rfl (j_iconst (v := 0) dX8_cutLevel_15 rfl (j_iconst (v := 0) dX8_cutLevel_16 rfl (j_callS0 (as := [.int y3, .ref r1, .int 0, .int 0]) cm_X8_hashOf sm_X8_hashOf ml_X8_76 ⟨by decide, by decide⟩ dX8_cutLevel_17 rfl rfl (Nat.le_of_ble_eq_true rfl) (jj_C.mono (H4.2 c5) (fun v7 h6 H9 => jj_vj_e (fun k8 H9 => jj_bud (cj := 1) (sj := 9) H9.2.1 H9.2.2.1 (j_callV (cj := 1) (sj := 9) (bc := (bc - 1)) (bs := (bs - 9)) (as := [.int 0, .int 0, .int 0, .long k8]) cm_X7_addNode im_X7_addNode se_X7_addNode (ci := 7) rfl (by decide) ml_X8_80 ⟨by decide, by decide⟩ dX8_cutLevel_20 rfl rfl (Nat.le_of_ble_eq_true rfl) H9.1 (jj_C.mono H9.2.2.2 (fun v11 h10 H12 => j_iconst (v := 0) dX8_cutLevel_23 rfl (j_istore (L' := [(4, .int 0), (3, .int y3), (0, .ref r0), (1, .ref r1), (2, .int x2)]) dX8_cutLevel_24 (by decide) rfl (j_iconst (v := 0) dX8_cutLevel_26 rfl (j_istore (L' := [(5, .int 0), (4, .int 0), (3, .int y3), (0, .ref r0), (1, .ref r1), (2, .int x2)]) dX8_cutLevel_27 (by decide) rfl (j_iconst (v := 0) dX8_cutLevel_29 rfl (j_istore (L' := [(6, .int 0), (5, .int 0), (4, .int 0), (3, .int y3), (0, .ref r0), (1, .ref r1), (2, .int x2)]) dX8_cutLevel_30 (by decide) rfl (j_iconst (v := 0) dX8_cutLevel_32 rfl (j_istore (L' := [(7, .int 0), (6, .int 0), (5, .int 0), (4, .int 0), (3, .int y3), (0, .ref r0), (1, .ref r1), (2, .int x2)]) dX8_cutLevel_33 (by decide) rfl (j_sub [5, 6, 7, 4, 3, 2, 1, 0] rfl (H12))))))))))))) H9)))))))))))))) H4)))
theorem VX8_cutLevel_35 {d : jj_D} {bc bs : Nat} {h : jj_H} {Q : Value → jj_H → Prop} (r0 : Nat) (r1 : Nat) (x2 : Int32) (x3 : Int32) (x4 : Int32) (x5 : Int32) (x6 : Int32) (x7 : Int32) (H : (x2 ≤ x7 → Q (.int 0) h) ∧ (¬ x2 ≤ x7 → jj_C mX8_rollEntry 0 0 [.int x6, .ref r1, .int x4, .int x7] h (fun v3 h2 => jj_vi (fun y4 => (x7 = (x2 - 1) → jj_WP d mX8_cutLevel bc bs 76 [(0, .ref r0), (1, .ref r1), (2, .int x2), (3, .int x3), (4, .int x4), (5, .int x5), (7, .int x7)] [] h2 Q) ∧ (¬ x7 = (x2 - 1) → jj_C mX8_endsNode 0 0 [.int ((x7 - x4) + 1), .int y4] h2 (fun v8 h7 => jj_vi (fun y9 => (y9 = 0 → jj_WP d mX8_cutLevel bc bs 35 [(0, .ref r0), (1, .ref r1), (2, .int x2), (3, .int x3), (4, .int x4), (5, .int x5), (6, .int y4), (7, .int (x7 + 1))] [] h7 Q) ∧ (¬ y9 = 0 → jj_WP d mX8_cutLevel bc bs 76 [(0, .ref r0), (1, .ref r1), (2, .int x2), (3, .int x3), (4, .int x4), (5, .int x5), (7, .int x7)] [] h7 Q)) v8))) v3))) : jj_WP d mX8_cutLevel bc bs 35 [(0, .ref r0), (1, .ref r1), (2, .int x2), (3, .int x3), (4, .int x4), (5, .int x5), (6, .int x6), (7, .int x7)] [] h Q := j_iload dX8_cutLevel_35 7 rfl (j_iload_n dX8_cutLevel_37 rfl 2 rfl (j_icmp_ge (tgt := 137) dX8_cutLevel_38 (by decide) (fun c1 => j_ret (v := .int 0) dX8_cutLevel_137 rfl ((H.1 c1))) (fun c1 => j_iload dX8_cutLevel_41 6 rfl (j_aload_n dX8_cutLevel_43 rfl 1 rfl (j_iload dX8_cutLevel_44 4 rfl (j_iload dX8_cutLevel_46 7 rfl (j_callS0 (as := [.int x6, .ref r1, .int x4, .int x7]) cm_X8_rollEntry sm_X8_rollEntry ml_X8_84 ⟨by decide, by decide⟩ dX8_cutLevel_48 rfl rfl (Nat.le_of_ble_eq_true rfl) (jj_C.mono (H.2 c1) (fun v3 h2 H5 => jj_vi_e (fun y4 H5 => j_istore (L' := [(6, .int y4), (0, .ref r0), (1, .ref r1), (2, .int x2), (3, .int x3), (4, .int x4), (5, .int x5), (7, .int x7)]) dX8_cutLevel_51 (by decide) rfl (j_iload dX8_cutLevel_53 7 rfl (j_iload_n dX8_cutLevel_55 rfl 3 rfl (j_iconst (v := 1) dX8_cutLevel_56 rfl (j_isub dX8_cutLevel_57 (j_icmp_eq (tgt := 76) dX8_cutLevel_58 (by decide) (fun c6 => j_sub [1, 2, 3, 4, 5, 6, 7] rfl ((H5.1 c6))) (fun c6 => j_iload dX8_cutLevel_61 7 rfl (j_iload dX8_cutLevel_63 5 rfl (j_isub dX8_cutLevel_65 (j_iconst (v := 1) dX8_cutLevel_66 rfl (j_iadd dX8_cutLevel_67 (j_iload dX8_cutLevel_68 0 rfl (j_callS0 (as := [.int ((x7 - x4) + 1), .int y4]) cm_X8_endsNode sm_X8_endsNode ml_X8_88 ⟨by decide, by decide⟩ dX8_cutLevel_70 rfl rfl (Nat.le_of_ble_eq_true rfl) (jj_C.mono (H5.2 c6) (fun v8 h7 H10 => jj_vi_e (fun y9 H10 => j_if_eq (tgt := 131) dX8_cutLevel_73 (by decide) (fun c11 => j_iinc (v := (x7 + 1)) (L' := [(7, .int (x7 + 1)), (6, .int y4), (0, .ref r0), (1, .ref r1), (2, .int x2), (3, .int x3), (4, .int x4), (5, .int x5)]) dX8_cutLevel_131 7 rfl rfl (by decide) rfl (j_goto (tgt := 35) dX8_cutLevel_134 (by decide) (j_sub [2, 3, 4, 5, 6, 7, 1, 0] rfl ((H10.1 c11))))) (fun c11 => j_sub [1, 2, 3, 4, 5, 6, 7] rfl ((H10.2 c11)))) H10))))))))))))))) H5)))))))))
theorem VX8_cutLevel_76 {d : jj_D} {bc bs : Nat} {h : jj_H} {Q : Value → jj_H → Prop} (r0 : Nat) (r1 : Nat) (x2 : Int32) (x3 : Int32) (x4 : Int32) (x5 : Int32) (x7 : Int32) (H : jj_C mX8_rowsBelow 0 0 [.int x3, .ref r1, .int x4, .int (x7 + 1)] h (fun v2 h1 => jj_vi (fun y3 => jj_C mX8_hashOf 0 0 [.int x3, .ref r1, .int x4, .int (x7 + 1)] h1 (fun v6 h5 => jj_vj (fun k7 => jK h5 r0 = 8 ∧ (1 ≤ bc ∧ 9 ≤ bs ∧ (jj_C mX7_addNode 1 9 [.ref r0, .int x5, .int y3, .int ((x7 - x4) + 1), .long k7] h5 (fun v10 h9 => jj_WP d mX8_cutLevel (bc - 1) (bs - 9) 35 [(0, .ref r0), (1, .ref r1), (2, .int x2), (3, .int x3), (4, .int (x7 + 1)), (5, .int (x5 + y3)), (6, .int 0), (7, .int (x7 + 1))] [] h9 Q)))) v6)) v2)) : jj_WP d mX8_cutLevel bc bs 76 [(0, .ref r0), (1, .ref r1), (2, .int x2), (3, .int x3), (4, .int x4), (5, .int x5), (7, .int x7)] [] h Q := j_iload_n dX8_cutLevel_76 rfl 3 rfl (j_aload_n dX8_cutLevel_77 rfl 1 rfl (j_iload dX8_cutLevel_78 4 rfl (j_iload dX8_cutLevel_80 6 rfl (j_iconst (v := 1) dX8_cutLevel_82 rfl (j_iadd dX8_cutLevel_83 (j_callS0 (as := [.int x3, .ref r1, .int x4, .int (x7 + 1)]) cm_X8_rowsBelow sm_X8_rowsBelow ml_X8_92 ⟨by decide, by decide⟩ dX8_cutLevel_84 rfl rfl (Nat.le_of_ble_eq_true rfl) (jj_C.mono H (fun v2 h1 H4 => jj_vi_e (fun y3 H4 => j_istore (L' := [(8, .int y3), (0, .ref r0), (1, .ref r1), (2, .int x2), (3, .int x3), (4, .int x4), (5, .int x5), (7, .int x7)]) dX8_cutLevel_87 (by decide) rfl (j_aload_n dX8_cutLevel_89 rfl 1 rfl (j_iload dX8_cutLevel_90 6 rfl (j_iload dX8_cutLevel_92 0 rfl (j_iload dX8_cutLevel_94 7 rfl (j_iload dX8_cutLevel_96 5 rfl (j_isub dX8_cutLevel_98 (j_iconst (v := 1) dX8_cutLevel_99 rfl (j_iadd dX8_cutLevel_100 (j_iload_n dX8_cutLevel_101 rfl 4 rfl (j_aload_n dX8_cutLevel_102 rfl 2 rfl (j_iload dX8_cutLevel_103 5 rfl (j_iload dX8_cutLevel_105 7 rfl (j_iconst (v := 1) dX8_cutLevel_107 rfl (j_iadd dX8_cutLevel_108 (j_callS0 (as := [.int x3, .ref r1, .int x4, .int (x7 + 1)]) cm_X8_hashOf sm_X8_hashOf ml_X8_76 ⟨by decide, by decide⟩ dX8_cutLevel_109 rfl rfl (Nat.le_of_ble_eq_true rfl) (jj_C.mono H4 (fun v6 h5 H8 => jj_vj_e (fun k7 H8 => jj_bud (cj := 1) (sj := 9) H8.2.1 H8.2.2.1 (j_callV (cj := 1) (sj := 9) (bc := (bc - 1)) (bs := (bs - 9)) (as := [.int x5, .int y3, .int ((x7 - x4) + 1), .long k7]) cm_X7_addNode im_X7_addNode se_X7_addNode (ci := 7) rfl (by decide) ml_X8_80 ⟨by decide, by decide⟩ dX8_cutLevel_112 rfl rfl (Nat.le_of_ble_eq_true rfl) H8.1 (jj_C.mono H8.2.2.2 (fun v10 h9 H11 => j_iload dX8_cutLevel_115 6 rfl (j_iload dX8_cutLevel_117 0 rfl (j_iadd dX8_cutLevel_119 (j_istore (L' := [(5, .int (x5 + y3)), (8, .int y3), (0, .ref r0), (1, .ref r1), (2, .int x2), (3, .int x3), (4, .int x4), (7, .int x7)]) dX8_cutLevel_120 (by decide) rfl (j_iload dX8_cutLevel_122 7 rfl (j_iconst (v := 1) dX8_cutLevel_124 rfl (j_iadd dX8_cutLevel_125 (j_istore (L' := [(4, .int (x7 + 1)), (5, .int (x5 + y3)), (8, .int y3), (0, .ref r0), (1, .ref r1), (2, .int x2), (3, .int x3), (7, .int x7)]) dX8_cutLevel_126 (by decide) rfl (j_iconst (v := 0) dX8_cutLevel_128 rfl (j_istore (L' := [(6, .int 0), (4, .int (x7 + 1)), (5, .int (x5 + y3)), (8, .int y3), (0, .ref r0), (1, .ref r1), (2, .int x2), (3, .int x3), (7, .int x7)]) dX8_cutLevel_129 (by decide) rfl (j_iinc (v := (x7 + 1)) (L' := [(7, .int (x7 + 1)), (6, .int 0), (4, .int (x7 + 1)), (5, .int (x5 + y3)), (8, .int y3), (0, .ref r0), (1, .ref r1), (2, .int x2), (3, .int x3)]) dX8_cutLevel_131 8 rfl rfl (by decide) rfl (j_goto (tgt := 35) dX8_cutLevel_134 (by decide) (j_sub [5, 6, 7, 8, 2, 3, 1, 0] rfl (H11))))))))))))))))) H8)))))))))))))))))) H4))))))))
theorem dX8_endsNode_0 : decode cX8_endsNode 0 = .ok (.iload_n 0, 1) := by decide +kernel
theorem dX8_endsNode_1 : decode cX8_endsNode 1 = .ok (.bipush 10, 2) := by decide +kernel
theorem dX8_endsNode_3 : decode cX8_endsNode 3 = .ok (.if_icmp .ge 14, 3) := by decide +kernel
theorem dX8_endsNode_6 : decode cX8_endsNode 6 = .ok (.iload_n 0, 1) := by decide +kernel
theorem dX8_endsNode_7 : decode cX8_endsNode 7 = .ok (.iconst 2, 1) := by decide +kernel
theorem dX8_endsNode_8 : decode cX8_endsNode 8 = .ok (.if_icmp .lt 13, 3) := by decide +kernel
theorem dX8_endsNode_11 : decode cX8_endsNode 11 = .ok (.iload_n 1, 1) := by decide +kernel
theorem dX8_endsNode_12 : decode cX8_endsNode 12 = .ok (.iconst 3, 1) := by decide +kernel
theorem dX8_endsNode_13 : decode cX8_endsNode 13 = .ok (.iand, 1) := by decide +kernel
theorem dX8_endsNode_14 : decode cX8_endsNode 14 = .ok (.ifCond .ne 7, 3) := by decide +kernel
theorem dX8_endsNode_17 : decode cX8_endsNode 17 = .ok (.iconst 1, 1) := by decide +kernel
theorem dX8_endsNode_18 : decode cX8_endsNode 18 = .ok (.goto 4, 3) := by decide +kernel
theorem dX8_endsNode_21 : decode cX8_endsNode 21 = .ok (.iconst 0, 1) := by decide +kernel
theorem dX8_endsNode_22 : decode cX8_endsNode 22 = .ok (.ireturn, 1) := by decide +kernel
theorem EX8_endsNode {h : jj_H} {Q : Value → jj_H → Prop} (x0 : Int32) (x1 : Int32) (H : ∀ d : jj_D, (10 ≤ x0 → Q (.int 1) h) ∧ (¬ 10 ≤ x0 → (x0 < 2 → Q (.int 0) h) ∧ (¬ x0 < 2 → (¬ (x1 &&& 3) = 0 → Q (.int 0) h) ∧ ((x1 &&& 3) = 0 → Q (.int 1) h)))) : jj_C mX8_endsNode 0 0 [.int x0, .int x1] h Q := j_enter (by decide +kernel) (Nat.le_of_ble_eq_true rfl) rfl fun d => have H := H d; j_iload_n dX8_endsNode_0 rfl 0 rfl (j_bipush (v := 10) dX8_endsNode_1 rfl (j_icmp_ge (tgt := 17) dX8_endsNode_3 (by decide) (fun c1 => j_iconst (v := 1) dX8_endsNode_17 rfl (j_goto (tgt := 22) dX8_endsNode_18 (by decide) (j_ret (v := .int 1) ⟨dX8_endsNode_22, _, rfl, by decide⟩ rfl ((H.1 c1))))) (fun c1 => j_iload_n dX8_endsNode_6 rfl 0 rfl (j_iconst (v := 2) dX8_endsNode_7 rfl (j_icmp_lt (tgt := 21) dX8_endsNode_8 (by decide) (fun c2 => j_iconst (v := 0) dX8_endsNode_21 rfl (j_ret (v := .int 0) ⟨dX8_endsNode_22, _, rfl, by decide⟩ rfl (((H.2 c1).1 c2)))) (fun c2 => j_iload_n dX8_endsNode_11 rfl 1 rfl (j_iconst (v := 3) dX8_endsNode_12 rfl (j_iand dX8_endsNode_13 (j_if_ne (tgt := 21) dX8_endsNode_14 (by decide) (fun c3 => j_iconst (v := 0) dX8_endsNode_21 rfl (j_ret (v := .int 0) ⟨dX8_endsNode_22, _, rfl, by decide⟩ rfl ((((H.2 c1).2 c2).1 c3)))) (fun c3 => j_iconst (v := 1) dX8_endsNode_17 rfl (j_goto (tgt := 22) dX8_endsNode_18 (by decide) (j_ret (v := .int 1) ⟨dX8_endsNode_22, _, rfl, by decide⟩ rfl ((((H.2 c1).2 c2).2 c3))))))))))))))
theorem dX8_rowsBelow_0 : decode cX8_rowsBelow 0 = .ok (.iload_n 0, 1) := by decide +kernel
theorem dX8_rowsBelow_1 : decode cX8_rowsBelow 1 = .ok (.ifCond .ne 7, 3) := by decide +kernel
theorem dX8_rowsBelow_4 : decode cX8_rowsBelow 4 = .ok (.iload_n 3, 1) := by decide +kernel
theorem dX8_rowsBelow_5 : decode cX8_rowsBelow 5 = .ok (.iload_n 2, 1) := by decide +kernel
theorem dX8_rowsBelow_6 : decode cX8_rowsBelow 6 = .ok (.isub, 1) := by decide +kernel
theorem dX8_rowsBelow_7 : decode cX8_rowsBelow 7 = .ok (.ireturn, 1) := by decide +kernel
theorem dX8_rowsBelow_8 : decode cX8_rowsBelow 8 = .ok (.iconst 0, 1) := by decide +kernel
theorem dX8_rowsBelow_9 : decode cX8_rowsBelow 9 = .ok (.istore 4, 2) := by decide +kernel
theorem dX8_rowsBelow_11 : decode cX8_rowsBelow 11 = .ok (.iload_n 2, 1) := by decide +kernel
theorem dX8_rowsBelow_12 : decode cX8_rowsBelow 12 = .ok (.istore 5, 2) := by decide +kernel
theorem dX8_rowsBelow_14 : decode cX8_rowsBelow 14 = .ok (.iload 5, 2) := by decide +kernel
theorem dX8_rowsBelow_16 : decode cX8_rowsBelow 16 = .ok (.iload_n 3, 1) := by decide +kernel
theorem dX8_rowsBelow_17 : decode cX8_rowsBelow 17 = .ok (.if_icmp .ge 22, 3) := by decide +kernel
theorem dX8_rowsBelow_20 : decode cX8_rowsBelow 20 = .ok (.iload 4, 2) := by decide +kernel
theorem dX8_rowsBelow_22 : decode cX8_rowsBelow 22 = .ok (.aload_n 1, 1) := by decide +kernel
theorem dX8_rowsBelow_23 : decode cX8_rowsBelow 23 = .ok (.iconst 4, 1) := by decide +kernel
theorem dX8_rowsBelow_24 : decode cX8_rowsBelow 24 = .ok (.iload 5, 2) := by decide +kernel
theorem dX8_rowsBelow_26 : decode cX8_rowsBelow 26 = .ok (.imul, 1) := by decide +kernel
theorem dX8_rowsBelow_27 : decode cX8_rowsBelow 27 = .ok (.iconst 3, 1) := by decide +kernel
theorem dX8_rowsBelow_28 : decode cX8_rowsBelow 28 = .ok (.iadd, 1) := by decide +kernel
theorem dX8_rowsBelow_29 : decode cX8_rowsBelow 29 = .ok (.iaload, 1) := by decide +kernel
theorem dX8_rowsBelow_30 : decode cX8_rowsBelow 30 = .ok (.iadd, 1) := by decide +kernel
theorem dX8_rowsBelow_31 : decode cX8_rowsBelow 31 = .ok (.istore 4, 2) := by decide +kernel
theorem dX8_rowsBelow_33 : decode cX8_rowsBelow 33 = .ok (.iinc 5 1, 3) := by decide +kernel
theorem dX8_rowsBelow_36 : decode cX8_rowsBelow 36 = .ok (.goto (-22), 3) := by decide +kernel
theorem dX8_rowsBelow_39 : decode cX8_rowsBelow 39 = .ok (.iload 4, 2) := by decide +kernel
theorem dX8_rowsBelow_41 : decode cX8_rowsBelow 41 = .ok (.ireturn, 1) := by decide +kernel
theorem EX8_rowsBelow {h : jj_H} {Q : Value → jj_H → Prop} (x0 : Int32) (r1 : Nat) (x2 : Int32) (x3 : Int32) (H : ∀ d : jj_D, (¬ x0 = 0 → jj_WP d mX8_rowsBelow 0 0 14 [(1, .ref r1), (3, .int x3), (4, .int 0), (5, .int x2)] [] h Q) ∧ (x0 = 0 → Q (.int (x3 - x2)) h)) : jj_C mX8_rowsBelow 0 0 [.int x0, .ref r1, .int x2, .int x3] h Q := j_enter (by decide +kernel) (Nat.le_of_ble_eq_true rfl) rfl fun d => have H := H d; j_iload_n dX8_rowsBelow_0 rfl 0 rfl (j_if_ne (tgt := 8) dX8_rowsBelow_1 (by decide) (fun c1 => j_iconst (v := 0) dX8_rowsBelow_8 rfl (j_istore (L' := [(4, .int 0), (0, .int x0), (1, .ref r1), (2, .int x2), (3, .int x3)]) dX8_rowsBelow_9 (by decide) rfl (j_iload_n dX8_rowsBelow_11 rfl 3 rfl (j_istore (L' := [(5, .int x2), (4, .int 0), (0, .int x0), (1, .ref r1), (2, .int x2), (3, .int x3)]) dX8_rowsBelow_12 (by decide) rfl (j_sub [3, 5, 1, 0] rfl ((H.1 c1))))))) (fun c1 => j_iload_n dX8_rowsBelow_4 rfl 3 rfl (j_iload_n dX8_rowsBelow_5 rfl 2 rfl (j_isub dX8_rowsBelow_6 (j_ret (v := .int (x3 - x2)) ⟨dX8_rowsBelow_7, _, rfl⟩ rfl ((H.2 c1)))))))
theorem VX8_rowsBelow_14 {d : jj_D} {h : jj_H} {Q : Value → jj_H → Prop} (r1 : Nat) (x3 : Int32) (x4 : Int32) (x5 : Int32) (H : (x3 ≤ x5 → Q (.int x4) h) ∧ (¬ x3 ≤ x5 → jK h r1 = 21 ∧ (vp_in ((4 * x5) + 3) (jN h r1) ∧ (jj_WP d mX8_rowsBelow 0 0 14 [(1, .ref r1), (3, .int x3), (4, .int (x4 + (jI h 1000 r1 (Int32.toNatClampNeg ((4 * x5) + 3))))), (5, .int (x5 + 1))] [] h Q)))) : jj_WP d mX8_rowsBelow 0 0 14 [(1, .ref r1), (3, .int x3), (4, .int x4), (5, .int x5)] [] h Q := j_iload dX8_rowsBelow_14 3 rfl (j_iload_n dX8_rowsBelow_16 rfl 1 rfl (j_icmp_ge (tgt := 39) dX8_rowsBelow_17 (by decide) (fun c1 => j_iload dX8_rowsBelow_39 2 rfl (j_ret (v := .int x4) ⟨dX8_rowsBelow_41, _, rfl⟩ rfl ((H.1 c1)))) (fun c1 => j_iload dX8_rowsBelow_20 2 rfl (j_aload_n dX8_rowsBelow_22 rfl 0 rfl (j_iconst (v := 4) dX8_rowsBelow_23 rfl (j_iload dX8_rowsBelow_24 3 rfl (j_imul dX8_rowsBelow_26 (j_iconst (v := 3) dX8_rowsBelow_27 rfl (j_iadd dX8_rowsBelow_28 (j_iald dX8_rowsBelow_29 (H.2 c1).1 (H.2 c1).2.1 (j_iadd dX8_rowsBelow_30 (j_istore (L' := [(4, .int (x4 + (jI h 1000 r1 (Int32.toNatClampNeg ((4 * x5) + 3))))), (1, .ref r1), (3, .int x3), (5, .int x5)]) dX8_rowsBelow_31 (by decide) rfl (j_iinc (v := (x5 + 1)) (L' := [(5, .int (x5 + 1)), (4, .int (x4 + (jI h 1000 r1 (Int32.toNatClampNeg ((4 * x5) + 3))))), (1, .ref r1), (3, .int x3)]) dX8_rowsBelow_33 3 rfl rfl (by decide) rfl (j_goto (tgt := 14) dX8_rowsBelow_36 (by decide) (j_sub [2, 3, 1, 0] rfl ((H.2 c1).2.2))))))))))))))))
theorem dX8_rollEntry_0 : decode cX8_rollEntry 0 = .ok (.iload_n 0, 1) := by decide +kernel
theorem dX8_rollEntry_1 : decode cX8_rollEntry 1 = .ok (.istore 4, 2) := by decide +kernel
theorem dX8_rollEntry_3 : decode cX8_rollEntry 3 = .ok (.iconst 4, 1) := by decide +kernel
theorem dX8_rollEntry_4 : decode cX8_rollEntry 4 = .ok (.iload_n 3, 1) := by decide +kernel
theorem dX8_rollEntry_5 : decode cX8_rollEntry 5 = .ok (.imul, 1) := by decide +kernel
theorem dX8_rollEntry_6 : decode cX8_rollEntry 6 = .ok (.istore 5, 2) := by decide +kernel
theorem dX8_rollEntry_8 : decode cX8_rollEntry 8 = .ok (.iload 5, 2) := by decide +kernel
theorem dX8_rollEntry_10 : decode cX8_rollEntry 10 = .ok (.iconst 4, 1) := by decide +kernel
theorem dX8_rollEntry_11 : decode cX8_rollEntry 11 = .ok (.iload_n 3, 1) := by decide +kernel
theorem dX8_rollEntry_12 : decode cX8_rollEntry 12 = .ok (.iconst 1, 1) := by decide +kernel
theorem dX8_rollEntry_13 : decode cX8_rollEntry 13 = .ok (.iadd, 1) := by decide +kernel
theorem dX8_rollEntry_14 : decode cX8_rollEntry 14 = .ok (.imul, 1) := by decide +kernel
theorem dX8_rollEntry_15 : decode cX8_rollEntry 15 = .ok (.if_icmp .ge 114, 3) := by decide +kernel
theorem dX8_rollEntry_18 : decode cX8_rollEntry 18 = .ok (.aload_n 1, 1) := by decide +kernel
theorem dX8_rollEntry_19 : decode cX8_rollEntry 19 = .ok (.iload 5, 2) := by decide +kernel
theorem dX8_rollEntry_21 : decode cX8_rollEntry 21 = .ok (.iaload, 1) := by decide +kernel
theorem dX8_rollEntry_22 : decode cX8_rollEntry 22 = .ok (.istore 6, 2) := by decide +kernel
theorem dX8_rollEntry_24 : decode cX8_rollEntry 24 = .ok (.iload 5, 2) := by decide +kernel
theorem dX8_rollEntry_26 : decode cX8_rollEntry 26 = .ok (.iconst 4, 1) := by decide +kernel
theorem dX8_rollEntry_27 : decode cX8_rollEntry 27 = .ok (.iload_n 2, 1) := by decide +kernel
theorem dX8_rollEntry_28 : decode cX8_rollEntry 28 = .ok (.imul, 1) := by decide +kernel
theorem dX8_rollEntry_29 : decode cX8_rollEntry 29 = .ok (.isub, 1) := by decide +kernel
theorem dX8_rollEntry_30 : decode cX8_rollEntry 30 = .ok (.bipush 6, 2) := by decide +kernel
theorem dX8_rollEntry_32 : decode cX8_rollEntry 32 = .ok (.if_icmp .lt 7, 3) := by decide +kernel
theorem dX8_rollEntry_35 : decode cX8_rollEntry 35 = .ok (.iconst 1, 1) := by decide +kernel
theorem dX8_rollEntry_36 : decode cX8_rollEntry 36 = .ok (.goto 4, 3) := by decide +kernel
theorem dX8_rollEntry_39 : decode cX8_rollEntry 39 = .ok (.iconst 0, 1) := by decide +kernel
theorem dX8_rollEntry_40 : decode cX8_rollEntry 40 = .ok (.istore 7, 2) := by decide +kernel
theorem dX8_rollEntry_42 : decode cX8_rollEntry 42 = .ok (.iload 7, 2) := by decide +kernel
theorem dX8_rollEntry_44 : decode cX8_rollEntry 44 = .ok (.ifCond .eq 13, 3) := by decide +kernel
theorem dX8_rollEntry_47 : decode cX8_rollEntry 47 = .ok (.aload_n 1, 1) := by decide +kernel
theorem dX8_rollEntry_48 : decode cX8_rollEntry 48 = .ok (.iload 5, 2) := by decide +kernel
theorem dX8_rollEntry_50 : decode cX8_rollEntry 50 = .ok (.bipush 6, 2) := by decide +kernel
theorem dX8_rollEntry_52 : decode cX8_rollEntry 52 = .ok (.isub, 1) := by decide +kernel
theorem dX8_rollEntry_53 : decode cX8_rollEntry 53 = .ok (.iaload, 1) := by decide +kernel
theorem dX8_rollEntry_54 : decode cX8_rollEntry 54 = .ok (.goto 4, 3) := by decide +kernel
theorem dX8_rollEntry_57 : decode cX8_rollEntry 57 = .ok (.iconst 0, 1) := by decide +kernel
theorem dX8_rollEntry_58 : decode cX8_rollEntry 58 = .ok (.istore 8, 2) := by decide +kernel
theorem dX8_rollEntry_60 : decode cX8_rollEntry 60 = .ok (.bipush 24, 2) := by decide +kernel
theorem dX8_rollEntry_62 : decode cX8_rollEntry 62 = .ok (.istore 9, 2) := by decide +kernel
theorem dX8_rollEntry_64 : decode cX8_rollEntry 64 = .ok (.iload 9, 2) := by decide +kernel
theorem dX8_rollEntry_66 : decode cX8_rollEntry 66 = .ok (.ifCond .lt 57, 3) := by decide +kernel
theorem dX8_rollEntry_69 : decode cX8_rollEntry 69 = .ok (.iload 4, 2) := by decide +kernel
theorem dX8_rollEntry_71 : decode cX8_rollEntry 71 = .ok (.iconst 1, 1) := by decide +kernel
theorem dX8_rollEntry_72 : decode cX8_rollEntry 72 = .ok (.invokestatic 95, 3) := by decide +kernel
theorem dX8_rollEntry_75 : decode cX8_rollEntry 75 = .ok (.iload 6, 2) := by decide +kernel
theorem dX8_rollEntry_77 : decode cX8_rollEntry 77 = .ok (.iload 9, 2) := by decide +kernel
theorem dX8_rollEntry_79 : decode cX8_rollEntry 79 = .ok (.iushr, 1) := by decide +kernel
theorem dX8_rollEntry_80 : decode cX8_rollEntry 80 = .ok (.sipush 255, 3) := by decide +kernel
theorem dX8_rollEntry_83 : decode cX8_rollEntry 83 = .ok (.iand, 1) := by decide +kernel
theorem dX8_rollEntry_84 : decode cX8_rollEntry 84 = .ok (.invokestatic 98, 3) := by decide +kernel
theorem dX8_rollEntry_87 : decode cX8_rollEntry 87 = .ok (.ixor, 1) := by decide +kernel
theorem dX8_rollEntry_88 : decode cX8_rollEntry 88 = .ok (.istore 4, 2) := by decide +kernel
theorem dX8_rollEntry_90 : decode cX8_rollEntry 90 = .ok (.iload 7, 2) := by decide +kernel
theorem dX8_rollEntry_92 : decode cX8_rollEntry 92 = .ok (.ifCond .eq 25, 3) := by decide +kernel
theorem dX8_rollEntry_95 : decode cX8_rollEntry 95 = .ok (.iload 4, 2) := by decide +kernel
theorem dX8_rollEntry_97 : decode cX8_rollEntry 97 = .ok (.iload 8, 2) := by decide +kernel
theorem dX8_rollEntry_99 : decode cX8_rollEntry 99 = .ok (.iload 9, 2) := by decide +kernel
theorem dX8_rollEntry_101 : decode cX8_rollEntry 101 = .ok (.iushr, 1) := by decide +kernel
theorem dX8_rollEntry_102 : decode cX8_rollEntry 102 = .ok (.sipush 255, 3) := by decide +kernel
theorem dX8_rollEntry_105 : decode cX8_rollEntry 105 = .ok (.iand, 1) := by decide +kernel
theorem dX8_rollEntry_106 : decode cX8_rollEntry 106 = .ok (.invokestatic 98, 3) := by decide +kernel
theorem dX8_rollEntry_109 : decode cX8_rollEntry 109 = .ok (.bipush 24, 2) := by decide +kernel
theorem dX8_rollEntry_111 : decode cX8_rollEntry 111 = .ok (.invokestatic 95, 3) := by decide +kernel
theorem dX8_rollEntry_114 : decode cX8_rollEntry 114 = .ok (.ixor, 1) := by decide +kernel
theorem dX8_rollEntry_115 : decode cX8_rollEntry 115 = .ok (.istore 4, 2) := by decide +kernel
theorem dX8_rollEntry_117 : decode cX8_rollEntry 117 = .ok (.iinc 9 (-8), 3) := by decide +kernel
theorem dX8_rollEntry_120 : decode cX8_rollEntry 120 = .ok (.goto (-56), 3) := by decide +kernel
theorem dX8_rollEntry_123 : decode cX8_rollEntry 123 = .ok (.iinc 5 1, 3) := by decide +kernel
theorem dX8_rollEntry_126 : decode cX8_rollEntry 126 = .ok (.goto (-118), 3) := by decide +kernel
theorem dX8_rollEntry_129 : decode cX8_rollEntry 129 = .ok (.iload 4, 2) := by decide +kernel
theorem dX8_rollEntry_131 : decode cX8_rollEntry 131 = .ok (.ireturn, 1) := by decide +kernel
theorem EX8_rollEntry {h : jj_H} {Q : Value → jj_H → Prop} (x0 : Int32) (r1 : Nat) (x2 : Int32) (x3 : Int32) (H : ∀ d : jj_D, jj_WP d mX8_rollEntry 0 0 8 [(1, .ref r1), (2, .int x2), (3, .int x3), (4, .int x0), (5, .int (4 * x3))] [] h Q) : jj_C mX8_rollEntry 0 0 [.int x0, .ref r1, .int x2, .int x3] h Q := j_enter (by decide +kernel) (Nat.le_of_ble_eq_true rfl) rfl fun d => have H := H d; j_iload_n dX8_rollEntry_0 rfl 0 rfl (j_istore (L' := [(4, .int x0), (0, .int x0), (1, .ref r1), (2, .int x2), (3, .int x3)]) dX8_rollEntry_1 (by decide) rfl (j_iconst (v := 4) dX8_rollEntry_3 rfl (j_iload_n dX8_rollEntry_4 rfl 4 rfl (j_imul dX8_rollEntry_5 (j_istore (L' := [(5, .int (4 * x3)), (4, .int x0), (0, .int x0), (1, .ref r1), (2, .int x2), (3, .int x3)]) dX8_rollEntry_6 (by decide) rfl (j_sub [3, 4, 5, 1, 0] rfl (H)))))))
theorem VX8_rollEntry_8 {d : jj_D} {h : jj_H} {Q : Value → jj_H → Prop} (r1 : Nat) (x2 : Int32) (x3 : Int32) (x4 : Int32) (x5 : Int32) (H : ((4 * (x3 + 1)) ≤ x5 → Q (.int x4) h) ∧ (¬ (4 * (x3 + 1)) ≤ x5 → jK h r1 = 21 ∧ (vp_in x5 (jN h r1) ∧ (((x5 - (4 * x2)) < 6 → jj_WP d mX8_rollEntry 0 0 64 [(1, .ref r1), (2, .int x2), (3, .int x3), (4, .int x4), (5, .int x5), (6, .int (jI h 1000 r1 (Int32.toNatClampNeg x5))), (7, .int 0), (8, .int 0), (9, .int 24)] [] h Q) ∧ (¬ (x5 - (4 * x2)) < 6 → vp_in (x5 - 6) (jN h r1) ∧ (jj_WP d mX8_rollEntry 0 0 64 [(1, .ref r1), (2, .int x2), (3, .int x3), (4, .int x4), (5, .int x5), (6, .int (jI h 1000 r1 (Int32.toNatClampNeg x5))), (7, .int 1), (8, .int (jI h 1000 r1 (Int32.toNatClampNeg (x5 - 6)))), (9, .int 24)] [] h Q)))))) : jj_WP d mX8_rollEntry 0 0 8 [(1, .ref r1), (2, .int x2), (3, .int x3), (4, .int x4), (5, .int x5)] [] h Q := j_iload dX8_rollEntry_8 4 rfl (j_iconst (v := 4) dX8_rollEntry_10 rfl (j_iload_n dX8_rollEntry_11 rfl 2 rfl (j_iconst (v := 1) dX8_rollEntry_12 rfl (j_iadd dX8_rollEntry_13 (j_imul dX8_rollEntry_14 (j_icmp_ge (tgt := 129) dX8_rollEntry_15 (by decide) (fun c1 => j_iload dX8_rollEntry_129 3 rfl (j_ret (v := .int x4) ⟨dX8_rollEntry_131, _, rfl⟩ rfl ((H.1 c1)))) (fun c1 => j_aload_n dX8_rollEntry_18 rfl 0 rfl (j_iload dX8_rollEntry_19 4 rfl (j_iald dX8_rollEntry_21 (H.2 c1).1 (H.2 c1).2.1 (j_istore (L' := [(6, .int (jI h 1000 r1 (Int32.toNatClampNeg x5))), (1, .ref r1), (2, .int x2), (3, .int x3), (4, .int x4), (5, .int x5)]) dX8_rollEntry_22 (by decide) rfl (j_iload dX8_rollEntry_24 5 rfl (j_iconst (v := 4) dX8_rollEntry_26 rfl (j_iload_n dX8_rollEntry_27 rfl 2 rfl (j_imul dX8_rollEntry_28 (j_isub dX8_rollEntry_29 (j_bipush (v := 6) dX8_rollEntry_30 rfl (j_icmp_lt (tgt := 39) dX8_rollEntry_32 (by decide) (fun c2 => j_iconst (v := 0) dX8_rollEntry_39 rfl (j_istore (L' := [(7, .int 0), (6, .int (jI h 1000 r1 (Int32.toNatClampNeg x5))), (1, .ref r1), (2, .int x2), (3, .int x3), (4, .int x4), (5, .int x5)]) dX8_rollEntry_40 (by decide) rfl (j_iload dX8_rollEntry_42 0 rfl (j_if_eq (tgt := 57) dX8_rollEntry_44 (by decide) (fun c3 => j_iconst (v := 0) dX8_rollEntry_57 rfl (j_istore (L' := [(8, .int 0), (7, .int 0), (6, .int (jI h 1000 r1 (Int32.toNatClampNeg x5))), (1, .ref r1), (2, .int x2), (3, .int x3), (4, .int x4), (5, .int x5)]) dX8_rollEntry_58 (by decide) rfl (j_bipush (v := 24) dX8_rollEntry_60 rfl (j_istore (L' := [(9, .int 24), (8, .int 0), (7, .int 0), (6, .int (jI h 1000 r1 (Int32.toNatClampNeg x5))), (1, .ref r1), (2, .int x2), (3, .int x3), (4, .int x4), (5, .int x5)]) dX8_rollEntry_62 (by decide) rfl (j_sub [4, 5, 6, 7, 8, 3, 2, 1, 0] rfl (((H.2 c1).2.2.1 c2))))))) (fun c3 => absurd c3 (by decide)))))) (fun c2 => j_iconst (v := 1) dX8_rollEntry_35 rfl (j_goto (tgt := 40) dX8_rollEntry_36 (by decide) (j_istore (L' := [(7, .int 1), (6, .int (jI h 1000 r1 (Int32.toNatClampNeg x5))), (1, .ref r1), (2, .int x2), (3, .int x3), (4, .int x4), (5, .int x5)]) dX8_rollEntry_40 (by decide) rfl (j_iload dX8_rollEntry_42 0 rfl (j_if_eq (tgt := 57) dX8_rollEntry_44 (by decide) (fun c4 => absurd c4 (by decide)) (fun c4 => j_aload_n dX8_rollEntry_47 rfl 2 rfl (j_iload dX8_rollEntry_48 6 rfl (j_bipush (v := 6) dX8_rollEntry_50 rfl (j_isub dX8_rollEntry_52 (j_iald dX8_rollEntry_53 (H.2 c1).1 ((H.2 c1).2.2.2 c2).1 (j_goto (tgt := 58) dX8_rollEntry_54 (by decide) (j_istore (L' := [(8, .int (jI h 1000 r1 (Int32.toNatClampNeg (x5 - 6)))), (7, .int 1), (6, .int (jI h 1000 r1 (Int32.toNatClampNeg x5))), (1, .ref r1), (2, .int x2), (3, .int x3), (4, .int x4), (5, .int x5)]) dX8_rollEntry_58 (by decide) rfl (j_bipush (v := 24) dX8_rollEntry_60 rfl (j_istore (L' := [(9, .int 24), (8, .int (jI h 1000 r1 (Int32.toNatClampNeg (x5 - 6)))), (7, .int 1), (6, .int (jI h 1000 r1 (Int32.toNatClampNeg x5))), (1, .ref r1), (2, .int x2), (3, .int x3), (4, .int x4), (5, .int x5)]) dX8_rollEntry_62 (by decide) rfl (j_sub [4, 5, 6, 7, 8, 3, 2, 1, 0] rfl (((H.2 c1).2.2.2 c2).2)))))))))))))))))))))))))))))))))
theorem VX8_rollEntry_64 {d : jj_D} {h : jj_H} {Q : Value → jj_H → Prop} (r1 : Nat) (x2 : Int32) (x3 : Int32) (x4 : Int32) (x5 : Int32) (x6 : Int32) (x7 : Int32) (x8 : Int32) (x9 : Int32) (H : (x9 < 0 → jj_WP d mX8_rollEntry 0 0 8 [(1, .ref r1), (2, .int x2), (3, .int x3), (4, .int x4), (5, .int (x5 + 1))] [] h Q) ∧ (¬ x9 < 0 → jj_C mX8_turned 0 0 [.int x4, .int 1] h (fun v3 h2 => jj_vi (fun y4 => jj_C mX8_spread 0 0 [.int ((Int32.toUInt32 x6 >>> (Int32.toUInt32 x9 &&& Int32.toUInt32 31)).toInt32 &&& 255)] h2 (fun v7 h6 => jj_vi (fun y8 => (x7 = 0 → jj_WP d mX8_rollEntry 0 0 64 [(1, .ref r1), (2, .int x2), (3, .int x3), (4, .int (y4 ^^^ y8)), (5, .int x5), (6, .int x6), (7, .int x7), (8, .int x8), (9, .int (x9 + (-8)))] [] h6 Q) ∧ (¬ x7 = 0 → jj_C mX8_spread 0 0 [.int ((Int32.toUInt32 x8 >>> (Int32.toUInt32 x9 &&& Int32.toUInt32 31)).toInt32 &&& 255)] h6 (fun v12 h11 => jj_vi (fun y13 => jj_C mX8_turned 0 0 [.int y13, .int 24] h11 (fun v16 h15 => jj_vi (fun y17 => jj_WP d mX8_rollEntry 0 0 64 [(1, .ref r1), (2, .int x2), (3, .int x3), (4, .int ((y4 ^^^ y8) ^^^ y17)), (5, .int x5), (6, .int x6), (7, .int x7), (8, .int x8), (9, .int (x9 + (-8)))] [] h15 Q) v16)) v12))) v7)) v3))) : jj_WP d mX8_rollEntry 0 0 64 [(1, .ref r1), (2, .int x2), (3, .int x3), (4, .int x4), (5, .int x5), (6, .int x6), (7, .int x7), (8, .int x8), (9, .int x9)] [] h Q := j_iload dX8_rollEntry_64 8 rfl (j_if_lt (tgt := 123) dX8_rollEntry_66 (by decide) (fun c1 => j_iinc (v := (x5 + 1)) (L' := [(5, .int (x5 + 1)), (1, .ref r1), (2, .int x2), (3, .int x3), (4, .int x4), (6, .int x6), (7, .int x7), (8, .int x8), (9, .int x9)]) dX8_rollEntry_123 4 rfl rfl (by decide) rfl (j_goto (tgt := 8) dX8_rollEntry_126 (by decide) (j_sub [1, 2, 3, 4, 0] rfl ((H.1 c1))))) (fun c1 => j_iload dX8_rollEntry_69 3 rfl (j_iconst (v := 1) dX8_rollEntry_71 rfl (j_callS0 (as := [.int x4, .int 1]) cm_X8_turned sm_X8_turned ml_X8_95 ⟨by decide, by decide⟩ dX8_rollEntry_72 rfl rfl (Nat.le_of_ble_eq_true rfl) (jj_C.mono (H.2 c1) (fun v3 h2 H5 => jj_vi_e (fun y4 H5 => j_iload dX8_rollEntry_75 5 rfl (j_iload dX8_rollEntry_77 8 rfl (j_iushr dX8_rollEntry_79 (j_sipush (v := 255) dX8_rollEntry_80 rfl (j_iand dX8_rollEntry_83 (j_callS0 (as := [.int ((Int32.toUInt32 x6 >>> (Int32.toUInt32 x9 &&& Int32.toUInt32 31)).toInt32 &&& 255)]) cm_X8_spread sm_X8_spread ml_X8_98 ⟨by decide, by decide⟩ dX8_rollEntry_84 rfl rfl (Nat.le_of_ble_eq_true rfl) (jj_C.mono H5 (fun v7 h6 H9 => jj_vi_e (fun y8 H9 => j_ixor dX8_rollEntry_87 (j_istore (L' := [(4, .int (y4 ^^^ y8)), (1, .ref r1), (2, .int x2), (3, .int x3), (5, .int x5), (6, .int x6), (7, .int x7), (8, .int x8), (9, .int x9)]) dX8_rollEntry_88 (by decide) rfl (j_iload dX8_rollEntry_90 6 rfl (j_if_eq (tgt := 117) dX8_rollEntry_92 (by decide) (fun c10 => j_iinc (v := (x9 + (-8))) (L' := [(9, .int (x9 + (-8))), (4, .int (y4 ^^^ y8)), (1, .ref r1), (2, .int x2), (3, .int x3), (5, .int x5), (6, .int x6), (7, .int x7), (8, .int x8)]) dX8_rollEntry_117 8 rfl rfl (by decide) rfl (j_goto (tgt := 64) dX8_rollEntry_120 (by decide) (j_sub [2, 3, 4, 1, 5, 6, 7, 8, 0] rfl ((H9.1 c10))))) (fun c10 => j_iload dX8_rollEntry_95 0 rfl (j_iload dX8_rollEntry_97 7 rfl (j_iload dX8_rollEntry_99 8 rfl (j_iushr dX8_rollEntry_101 (j_sipush (v := 255) dX8_rollEntry_102 rfl (j_iand dX8_rollEntry_105 (j_callS0 (as := [.int ((Int32.toUInt32 x8 >>> (Int32.toUInt32 x9 &&& Int32.toUInt32 31)).toInt32 &&& 255)]) cm_X8_spread sm_X8_spread ml_X8_98 ⟨by decide, by decide⟩ dX8_rollEntry_106 rfl rfl (Nat.le_of_ble_eq_true rfl) (jj_C.mono (H9.2 c10) (fun v12 h11 H14 => jj_vi_e (fun y13 H14 => j_bipush (v := 24) dX8_rollEntry_109 rfl (j_callS0 (as := [.int y13, .int 24]) cm_X8_turned sm_X8_turned ml_X8_95 ⟨by decide, by decide⟩ dX8_rollEntry_111 rfl rfl (Nat.le_of_ble_eq_true rfl) (jj_C.mono H14 (fun v16 h15 H18 => jj_vi_e (fun y17 H18 => j_ixor dX8_rollEntry_114 (j_istore (L' := [(4, .int ((y4 ^^^ y8) ^^^ y17)), (1, .ref r1), (2, .int x2), (3, .int x3), (5, .int x5), (6, .int x6), (7, .int x7), (8, .int x8), (9, .int x9)]) dX8_rollEntry_115 (by decide) rfl (j_iinc (v := (x9 + (-8))) (L' := [(9, .int (x9 + (-8))), (4, .int ((y4 ^^^ y8) ^^^ y17)), (1, .ref r1), (2, .int x2), (3, .int x3), (5, .int x5), (6, .int x6), (7, .int x7), (8, .int x8)]) dX8_rollEntry_117 8 rfl rfl (by decide) rfl (j_goto (tgt := 64) dX8_rollEntry_120 (by decide) (j_sub [2, 3, 4, 1, 5, 6, 7, 8, 0] rfl (H18)))))) H18)))) H14))))))))))))) H9)))))))) H5))))))
theorem dX8_spread_0 : decode cX8_spread 0 = .ok (.iload_n 0, 1) := by decide +kernel
theorem dX8_spread_1 : decode cX8_spread 1 = .ok (.iconst 1, 1) := by decide +kernel
theorem dX8_spread_2 : decode cX8_spread 2 = .ok (.iadd, 1) := by decide +kernel
theorem dX8_spread_3 : decode cX8_spread 3 = .ok (.ldc 101, 2) := by decide +kernel
theorem dX8_spread_5 : decode cX8_spread 5 = .ok (.imul, 1) := by decide +kernel
theorem dX8_spread_6 : decode cX8_spread 6 = .ok (.ireturn, 1) := by decide +kernel
theorem EX8_spread {h : jj_H} {Q : Value → jj_H → Prop} (x0 : Int32) (H : ∀ d : jj_D, Q (.int ((x0 + 1) * (-1640531535))) h) : jj_C mX8_spread 0 0 [.int x0] h Q := j_enter (by decide +kernel) (Nat.le_of_ble_eq_true rfl) rfl fun d => have H := H d; j_iload_n dX8_spread_0 rfl 0 rfl (j_iconst (v := 1) dX8_spread_1 rfl (j_iadd dX8_spread_2 (j_ldc (v := (-1640531535)) dX8_spread_3 kc_X8_101 (j_imul dX8_spread_5 (j_ret (v := .int ((x0 + 1) * (-1640531535))) ⟨dX8_spread_6, _, rfl⟩ rfl (H))))))
theorem dX8_turned_0 : decode cX8_turned 0 = .ok (.iload_n 0, 1) := by decide +kernel
theorem dX8_turned_1 : decode cX8_turned 1 = .ok (.iload_n 1, 1) := by decide +kernel
theorem dX8_turned_2 : decode cX8_turned 2 = .ok (.ishl, 1) := by decide +kernel
theorem dX8_turned_3 : decode cX8_turned 3 = .ok (.iload_n 0, 1) := by decide +kernel
theorem dX8_turned_4 : decode cX8_turned 4 = .ok (.bipush 32, 2) := by decide +kernel
theorem dX8_turned_6 : decode cX8_turned 6 = .ok (.iload_n 1, 1) := by decide +kernel
theorem dX8_turned_7 : decode cX8_turned 7 = .ok (.isub, 1) := by decide +kernel
theorem dX8_turned_8 : decode cX8_turned 8 = .ok (.iushr, 1) := by decide +kernel
theorem dX8_turned_9 : decode cX8_turned 9 = .ok (.ior, 1) := by decide +kernel
theorem dX8_turned_10 : decode cX8_turned 10 = .ok (.ireturn, 1) := by decide +kernel
theorem EX8_turned {h : jj_H} {Q : Value → jj_H → Prop} (x0 : Int32) (x1 : Int32) (H : ∀ d : jj_D, Q (.int ((x0 <<< (x1 &&& 31)) ||| (Int32.toUInt32 x0 >>> (Int32.toUInt32 (32 - x1) &&& Int32.toUInt32 31)).toInt32)) h) : jj_C mX8_turned 0 0 [.int x0, .int x1] h Q := j_enter (by decide +kernel) (Nat.le_of_ble_eq_true rfl) rfl fun d => have H := H d; j_iload_n dX8_turned_0 rfl 0 rfl (j_iload_n dX8_turned_1 rfl 1 rfl (j_ishl dX8_turned_2 (j_iload_n dX8_turned_3 rfl 0 rfl (j_bipush (v := 32) dX8_turned_4 rfl (j_iload_n dX8_turned_6 rfl 1 rfl (j_isub dX8_turned_7 (j_iushr dX8_turned_8 (j_ior dX8_turned_9 (j_ret (v := .int ((x0 <<< (x1 &&& 31)) ||| (Int32.toUInt32 x0 >>> (Int32.toUInt32 (32 - x1) &&& Int32.toUInt32 31)).toInt32)) ⟨dX8_turned_10, _, rfl⟩ rfl (H))))))))))
theorem dX8_hashOf_0 : decode cX8_hashOf 0 = .ok (.iload_n 0, 1) := by decide +kernel
theorem dX8_hashOf_1 : decode cX8_hashOf 1 = .ok (.iconst 1, 1) := by decide +kernel
theorem dX8_hashOf_2 : decode cX8_hashOf 2 = .ok (.iadd, 1) := by decide +kernel
theorem dX8_hashOf_3 : decode cX8_hashOf 3 = .ok (.i2l, 1) := by decide +kernel
theorem dX8_hashOf_4 : decode cX8_hashOf 4 = .ok (.lstore 4, 2) := by decide +kernel
theorem dX8_hashOf_6 : decode cX8_hashOf 6 = .ok (.iconst 4, 1) := by decide +kernel
theorem dX8_hashOf_7 : decode cX8_hashOf 7 = .ok (.iload_n 2, 1) := by decide +kernel
theorem dX8_hashOf_8 : decode cX8_hashOf 8 = .ok (.imul, 1) := by decide +kernel
theorem dX8_hashOf_9 : decode cX8_hashOf 9 = .ok (.istore 6, 2) := by decide +kernel
theorem dX8_hashOf_11 : decode cX8_hashOf 11 = .ok (.iload 6, 2) := by decide +kernel
theorem dX8_hashOf_13 : decode cX8_hashOf 13 = .ok (.iconst 4, 1) := by decide +kernel
theorem dX8_hashOf_14 : decode cX8_hashOf 14 = .ok (.iload_n 3, 1) := by decide +kernel
theorem dX8_hashOf_15 : decode cX8_hashOf 15 = .ok (.imul, 1) := by decide +kernel
theorem dX8_hashOf_16 : decode cX8_hashOf 16 = .ok (.if_icmp .ge 62, 3) := by decide +kernel
theorem dX8_hashOf_19 : decode cX8_hashOf 19 = .ok (.aload_n 1, 1) := by decide +kernel
theorem dX8_hashOf_20 : decode cX8_hashOf 20 = .ok (.iload 6, 2) := by decide +kernel
theorem dX8_hashOf_22 : decode cX8_hashOf 22 = .ok (.iaload, 1) := by decide +kernel
theorem dX8_hashOf_23 : decode cX8_hashOf 23 = .ok (.istore 7, 2) := by decide +kernel
theorem dX8_hashOf_25 : decode cX8_hashOf 25 = .ok (.bipush 24, 2) := by decide +kernel
theorem dX8_hashOf_27 : decode cX8_hashOf 27 = .ok (.istore 8, 2) := by decide +kernel
theorem dX8_hashOf_29 : decode cX8_hashOf 29 = .ok (.iload 8, 2) := by decide +kernel
theorem dX8_hashOf_31 : decode cX8_hashOf 31 = .ok (.ifCond .lt 41, 3) := by decide +kernel
theorem dX8_hashOf_34 : decode cX8_hashOf 34 = .ok (.lload 4, 2) := by decide +kernel
theorem dX8_hashOf_36 : decode cX8_hashOf 36 = .ok (.iload 7, 2) := by decide +kernel
theorem dX8_hashOf_38 : decode cX8_hashOf 38 = .ok (.iload 8, 2) := by decide +kernel
theorem dX8_hashOf_40 : decode cX8_hashOf 40 = .ok (.iushr, 1) := by decide +kernel
theorem dX8_hashOf_41 : decode cX8_hashOf 41 = .ok (.sipush 255, 3) := by decide +kernel
theorem dX8_hashOf_44 : decode cX8_hashOf 44 = .ok (.iand, 1) := by decide +kernel
theorem dX8_hashOf_45 : decode cX8_hashOf 45 = .ok (.i2l, 1) := by decide +kernel
theorem dX8_hashOf_46 : decode cX8_hashOf 46 = .ok (.lxor, 1) := by decide +kernel
theorem dX8_hashOf_47 : decode cX8_hashOf 47 = .ok (.lstore 4, 2) := by decide +kernel
theorem dX8_hashOf_49 : decode cX8_hashOf 49 = .ok (.lload 4, 2) := by decide +kernel
theorem dX8_hashOf_51 : decode cX8_hashOf 51 = .ok (.bipush 29, 2) := by decide +kernel
theorem dX8_hashOf_53 : decode cX8_hashOf 53 = .ok (.lshl, 1) := by decide +kernel
theorem dX8_hashOf_54 : decode cX8_hashOf 54 = .ok (.lload 4, 2) := by decide +kernel
theorem dX8_hashOf_56 : decode cX8_hashOf 56 = .ok (.bipush 35, 2) := by decide +kernel
theorem dX8_hashOf_58 : decode cX8_hashOf 58 = .ok (.lushr, 1) := by decide +kernel
theorem dX8_hashOf_59 : decode cX8_hashOf 59 = .ok (.lor, 1) := by decide +kernel
theorem dX8_hashOf_60 : decode cX8_hashOf 60 = .ok (.ldc2_w 102, 3) := by decide +kernel
theorem dX8_hashOf_63 : decode cX8_hashOf 63 = .ok (.lmul, 1) := by decide +kernel
theorem dX8_hashOf_64 : decode cX8_hashOf 64 = .ok (.lstore 4, 2) := by decide +kernel
theorem dX8_hashOf_66 : decode cX8_hashOf 66 = .ok (.iinc 8 (-8), 3) := by decide +kernel
theorem dX8_hashOf_69 : decode cX8_hashOf 69 = .ok (.goto (-40), 3) := by decide +kernel
theorem dX8_hashOf_72 : decode cX8_hashOf 72 = .ok (.iinc 6 1, 3) := by decide +kernel
theorem dX8_hashOf_75 : decode cX8_hashOf 75 = .ok (.goto (-64), 3) := by decide +kernel
theorem dX8_hashOf_78 : decode cX8_hashOf 78 = .ok (.lload 4, 2) := by decide +kernel
theorem dX8_hashOf_80 : decode cX8_hashOf 80 = .ok (.lreturn, 1) := by decide +kernel
theorem EX8_hashOf {h : jj_H} {Q : Value → jj_H → Prop} (x0 : Int32) (r1 : Nat) (x2 : Int32) (x3 : Int32) (H : ∀ d : jj_D, jj_WP d mX8_hashOf 0 0 11 [(1, .ref r1), (3, .int x3), (4, .long (Int32.toInt64 (x0 + 1))), (6, .int (4 * x2))] [] h Q) : jj_C mX8_hashOf 0 0 [.int x0, .ref r1, .int x2, .int x3] h Q := j_enter (by decide +kernel) (Nat.le_of_ble_eq_true rfl) rfl fun d => have H := H d; j_iload_n dX8_hashOf_0 rfl 0 rfl (j_iconst (v := 1) dX8_hashOf_1 rfl (j_iadd dX8_hashOf_2 (j_i2l dX8_hashOf_3 (j_lstore (L' := [(4, .long (Int32.toInt64 (x0 + 1))), (0, .int x0), (1, .ref r1), (2, .int x2), (3, .int x3)]) dX8_hashOf_4 (by decide) rfl (j_iconst (v := 4) dX8_hashOf_6 rfl (j_iload_n dX8_hashOf_7 rfl 3 rfl (j_imul dX8_hashOf_8 (j_istore (L' := [(6, .int (4 * x2)), (4, .long (Int32.toInt64 (x0 + 1))), (0, .int x0), (1, .ref r1), (2, .int x2), (3, .int x3)]) dX8_hashOf_9 (by decide) rfl (j_sub [3, 5, 1, 0] rfl (H))))))))))
theorem VX8_hashOf_11 {d : jj_D} {h : jj_H} {Q : Value → jj_H → Prop} (r1 : Nat) (x3 : Int32) (l4 : Int64) (x6 : Int32) (H : ((4 * x3) ≤ x6 → Q (.long l4) h) ∧ (¬ (4 * x3) ≤ x6 → jK h r1 = 21 ∧ (vp_in x6 (jN h r1) ∧ (jj_WP d mX8_hashOf 0 0 29 [(1, .ref r1), (3, .int x3), (4, .long l4), (6, .int x6), (7, .int (jI h 1000 r1 (Int32.toNatClampNeg x6))), (8, .int 24)] [] h Q)))) : jj_WP d mX8_hashOf 0 0 11 [(1, .ref r1), (3, .int x3), (4, .long l4), (6, .int x6)] [] h Q := j_iload dX8_hashOf_11 3 rfl (j_iconst (v := 4) dX8_hashOf_13 rfl (j_iload_n dX8_hashOf_14 rfl 1 rfl (j_imul dX8_hashOf_15 (j_icmp_ge (tgt := 78) dX8_hashOf_16 (by decide) (fun c1 => j_lload dX8_hashOf_78 2 rfl (j_ret (v := .long l4) ⟨dX8_hashOf_80, _, rfl⟩ rfl ((H.1 c1)))) (fun c1 => j_aload_n dX8_hashOf_19 rfl 0 rfl (j_iload dX8_hashOf_20 3 rfl (j_iald dX8_hashOf_22 (H.2 c1).1 (H.2 c1).2.1 (j_istore (L' := [(7, .int (jI h 1000 r1 (Int32.toNatClampNeg x6))), (1, .ref r1), (3, .int x3), (4, .long l4), (6, .int x6)]) dX8_hashOf_23 (by decide) rfl (j_bipush (v := 24) dX8_hashOf_25 rfl (j_istore (L' := [(8, .int 24), (7, .int (jI h 1000 r1 (Int32.toNatClampNeg x6))), (1, .ref r1), (3, .int x3), (4, .long l4), (6, .int x6)]) dX8_hashOf_27 (by decide) rfl (j_sub [2, 3, 4, 5, 1, 0] rfl ((H.2 c1).2.2))))))))))))
theorem VX8_hashOf_29 {d : jj_D} {h : jj_H} {Q : Value → jj_H → Prop} (r1 : Nat) (x3 : Int32) (l4 : Int64) (x6 : Int32) (x7 : Int32) (x8 : Int32) (H : (x8 < 0 → jj_WP d mX8_hashOf 0 0 11 [(1, .ref r1), (3, .int x3), (4, .long l4), (6, .int (x6 + 1))] [] h Q) ∧ (¬ x8 < 0 → jj_WP d mX8_hashOf 0 0 29 [(1, .ref r1), (3, .int x3), (4, .long ((((l4 ^^^ (Int32.toInt64 ((Int32.toUInt32 x7 >>> (Int32.toUInt32 x8 &&& Int32.toUInt32 31)).toInt32 &&& 255))) <<< (Int32.toInt64 29 &&& 63)) ||| (Int64.toUInt64 (l4 ^^^ (Int32.toInt64 ((Int32.toUInt32 x7 >>> (Int32.toUInt32 x8 &&& Int32.toUInt32 31)).toInt32 &&& 255))) >>> ((Int32.toInt64 35).toUInt64 &&& Int64.toUInt64 63)).toInt64) * (-2960836687051489901))), (6, .int x6), (7, .int x7), (8, .int (x8 + (-8)))] [] h Q)) : jj_WP d mX8_hashOf 0 0 29 [(1, .ref r1), (3, .int x3), (4, .long l4), (6, .int x6), (7, .int x7), (8, .int x8)] [] h Q := j_iload dX8_hashOf_29 5 rfl (j_if_lt (tgt := 72) dX8_hashOf_31 (by decide) (fun c1 => j_iinc (v := (x6 + 1)) (L' := [(6, .int (x6 + 1)), (1, .ref r1), (3, .int x3), (4, .long l4), (7, .int x7), (8, .int x8)]) dX8_hashOf_72 3 rfl rfl (by decide) rfl (j_goto (tgt := 11) dX8_hashOf_75 (by decide) (j_sub [1, 2, 3, 0] rfl ((H.1 c1))))) (fun c1 => j_lload dX8_hashOf_34 2 rfl (j_iload dX8_hashOf_36 4 rfl (j_iload dX8_hashOf_38 5 rfl (j_iushr dX8_hashOf_40 (j_sipush (v := 255) dX8_hashOf_41 rfl (j_iand dX8_hashOf_44 (j_i2l dX8_hashOf_45 (j_lxor dX8_hashOf_46 (j_lstore (L' := [(4, .long (l4 ^^^ (Int32.toInt64 ((Int32.toUInt32 x7 >>> (Int32.toUInt32 x8 &&& Int32.toUInt32 31)).toInt32 &&& 255)))), (1, .ref r1), (3, .int x3), (6, .int x6), (7, .int x7), (8, .int x8)]) dX8_hashOf_47 (by decide) rfl (j_lload dX8_hashOf_49 0 rfl (j_bipush (v := 29) dX8_hashOf_51 rfl (j_lshl dX8_hashOf_53 (j_lload dX8_hashOf_54 0 rfl (j_bipush (v := 35) dX8_hashOf_56 rfl (j_lushr dX8_hashOf_58 (j_lor dX8_hashOf_59 (j_ldc2 (v := (-2960836687051489901)) dX8_hashOf_60 kc_X8_102 (j_lmul dX8_hashOf_63 (j_lstore (L' := [(4, .long ((((l4 ^^^ (Int32.toInt64 ((Int32.toUInt32 x7 >>> (Int32.toUInt32 x8 &&& Int32.toUInt32 31)).toInt32 &&& 255))) <<< (Int32.toInt64 29 &&& 63)) ||| (Int64.toUInt64 (l4 ^^^ (Int32.toInt64 ((Int32.toUInt32 x7 >>> (Int32.toUInt32 x8 &&& Int32.toUInt32 31)).toInt32 &&& 255))) >>> ((Int32.toInt64 35).toUInt64 &&& Int64.toUInt64 63)).toInt64) * (-2960836687051489901))), (1, .ref r1), (3, .int x3), (6, .int x6), (7, .int x7), (8, .int x8)]) dX8_hashOf_64 (by decide) rfl (j_iinc (v := (x8 + (-8))) (L' := [(8, .int (x8 + (-8))), (4, .long ((((l4 ^^^ (Int32.toInt64 ((Int32.toUInt32 x7 >>> (Int32.toUInt32 x8 &&& Int32.toUInt32 31)).toInt32 &&& 255))) <<< (Int32.toInt64 29 &&& 63)) ||| (Int64.toUInt64 (l4 ^^^ (Int32.toInt64 ((Int32.toUInt32 x7 >>> (Int32.toUInt32 x8 &&& Int32.toUInt32 31)).toInt32 &&& 255))) >>> ((Int32.toInt64 35).toUInt64 &&& Int64.toUInt64 63)).toInt64) * (-2960836687051489901))), (1, .ref r1), (3, .int x3), (6, .int x6), (7, .int x7)]) dX8_hashOf_66 5 rfl rfl (by decide) rfl (j_goto (tgt := 29) dX8_hashOf_69 (by decide) (j_sub [2, 3, 1, 4, 5, 0] rfl ((H.2 c1)))))))))))))))))))))))))
