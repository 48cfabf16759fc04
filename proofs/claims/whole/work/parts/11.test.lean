theorem dX10_isIn_0 : decode cX10_isIn 0 = .ok (.lload_n 0, 1) := by decide +kernel
theorem dX10_isIn_1 : decode cX10_isIn 1 = .ok (.lload_n 2, 1) := by decide +kernel
theorem dX10_isIn_2 : decode cX10_isIn 2 = .ok (.lcmp, 1) := by decide +kernel
theorem dX10_isIn_3 : decode cX10_isIn 3 = .ok (.ifCond .lt 14, 3) := by decide +kernel
theorem dX10_isIn_6 : decode cX10_isIn 6 = .ok (.lload_n 0, 1) := by decide +kernel
theorem dX10_isIn_7 : decode cX10_isIn 7 = .ok (.lload 4, 2) := by decide +kernel
theorem dX10_isIn_9 : decode cX10_isIn 9 = .ok (.lcmp, 1) := by decide +kernel
theorem dX10_isIn_10 : decode cX10_isIn 10 = .ok (.ifCond .gt 7, 3) := by decide +kernel
theorem dX10_isIn_13 : decode cX10_isIn 13 = .ok (.iconst 1, 1) := by decide +kernel
theorem dX10_isIn_14 : decode cX10_isIn 14 = .ok (.goto 4, 3) := by decide +kernel
theorem dX10_isIn_17 : decode cX10_isIn 17 = .ok (.iconst 0, 1) := by decide +kernel
theorem dX10_isIn_18 : decode cX10_isIn 18 = .ok (.ireturn, 1) := by decide +kernel
theorem EX10_isIn {h : jj_H} {Q : Value → jj_H → Prop} (l0 : Int64) (l2 : Int64) (l4 : Int64) (H : ∀ d : jj_D, (l0 < l2 → Q (.int 0) h) ∧ (¬ l0 < l2 → (l4 < l0 → Q (.int 0) h) ∧ (¬ l4 < l0 → Q (.int 1) h))) : jj_C mX10_isIn 0 0 [.long l0, .long l2, .long l4] h Q := j_enter (by decide +kernel) (Nat.le_of_ble_eq_true rfl) rfl fun d => have H := H d; j_lload_n dX10_isIn_0 rfl 0 rfl (j_lload_n dX10_isIn_1 rfl 1 rfl (j_lcmp dX10_isIn_2 (j_if_lt (tgt := 17) dX10_isIn_3 (by decide) (fun c1 => j_iconst (v := 0) dX10_isIn_17 rfl (j_ret (v := .int 0) ⟨dX10_isIn_18, _, rfl, by decide⟩ rfl ((H.1 ((lg_cmp_lt _ _).mp c1))))) (fun c1 => j_lload_n dX10_isIn_6 rfl 0 rfl (j_lload dX10_isIn_7 2 rfl (j_lcmp dX10_isIn_9 (j_if_gt (tgt := 17) dX10_isIn_10 (by decide) (fun c2 => j_iconst (v := 0) dX10_isIn_17 rfl (j_ret (v := .int 0) ⟨dX10_isIn_18, _, rfl, by decide⟩ rfl (((H.2 (fun z => c1 ((lg_cmp_lt _ _).mpr z))).1 ((lg_cmp_gt _ _).mp c2))))) (fun c2 => j_iconst (v := 1) dX10_isIn_13 rfl (j_goto (tgt := 18) dX10_isIn_14 (by decide) (j_ret (v := .int 1) ⟨dX10_isIn_18, _, rfl, by decide⟩ rfl (((H.2 (fun z => c1 ((lg_cmp_lt _ _).mpr z))).2 (fun z => c2 ((lg_cmp_gt _ _).mpr z))))))))))))))
theorem dX10_isTable_0 : decode cX10_isTable 0 = .ok (.iload_n 0, 1) := by decide +kernel
theorem dX10_isTable_1 : decode cX10_isTable 1 = .ok (.ifCond .lt 12, 3) := by decide +kernel
theorem dX10_isTable_4 : decode cX10_isTable 4 = .ok (.iload_n 0, 1) := by decide +kernel
theorem dX10_isTable_5 : decode cX10_isTable 5 = .ok (.iconst 3, 1) := by decide +kernel
theorem dX10_isTable_6 : decode cX10_isTable 6 = .ok (.if_icmp .ge 7, 3) := by decide +kernel
theorem dX10_isTable_9 : decode cX10_isTable 9 = .ok (.iconst 1, 1) := by decide +kernel
theorem dX10_isTable_10 : decode cX10_isTable 10 = .ok (.goto 4, 3) := by decide +kernel
theorem dX10_isTable_13 : decode cX10_isTable 13 = .ok (.iconst 0, 1) := by decide +kernel
theorem dX10_isTable_14 : decode cX10_isTable 14 = .ok (.ireturn, 1) := by decide +kernel
theorem EX10_isTable {h : jj_H} {Q : Value → jj_H → Prop} (x0 : Int32) (H : ∀ d : jj_D, (x0 < 0 → Q (.int 0) h) ∧ (¬ x0 < 0 → (3 ≤ x0 → Q (.int 0) h) ∧ (¬ 3 ≤ x0 → Q (.int 1) h))) : jj_C mX10_isTable 0 0 [.int x0] h Q := j_enter (by decide +kernel) (Nat.le_of_ble_eq_true rfl) rfl fun d => have H := H d; j_iload_n dX10_isTable_0 rfl 0 rfl (j_if_lt (tgt := 13) dX10_isTable_1 (by decide) (fun c1 => j_iconst (v := 0) dX10_isTable_13 rfl (j_ret (v := .int 0) ⟨dX10_isTable_14, _, rfl, by decide⟩ rfl ((H.1 c1)))) (fun c1 => j_iload_n dX10_isTable_4 rfl 0 rfl (j_iconst (v := 3) dX10_isTable_5 rfl (j_icmp_ge (tgt := 13) dX10_isTable_6 (by decide) (fun c2 => j_iconst (v := 0) dX10_isTable_13 rfl (j_ret (v := .int 0) ⟨dX10_isTable_14, _, rfl, by decide⟩ rfl (((H.2 c1).1 c2)))) (fun c2 => j_iconst (v := 1) dX10_isTable_9 rfl (j_goto (tgt := 14) dX10_isTable_10 (by decide) (j_ret (v := .int 1) ⟨dX10_isTable_14, _, rfl, by decide⟩ rfl (((H.2 c1).2 c2)))))))))
theorem dX10_isCommit_0 : decode cX10_isCommit 0 = .ok (.iload_n 1, 1) := by decide +kernel
theorem dX10_isCommit_1 : decode cX10_isCommit 1 = .ok (.ifCond .lt 26, 3) := by decide +kernel
theorem dX10_isCommit_4 : decode cX10_isCommit 4 = .ok (.iload_n 1, 1) := by decide +kernel
theorem dX10_isCommit_5 : decode cX10_isCommit 5 = .ok (.bipush 60, 2) := by decide +kernel
theorem dX10_isCommit_7 : decode cX10_isCommit 7 = .ok (.if_icmp .ge 20, 3) := by decide +kernel
theorem dX10_isCommit_10 : decode cX10_isCommit 10 = .ok (.aload_n 0, 1) := by decide +kernel
theorem dX10_isCommit_11 : decode cX10_isCommit 11 = .ok (.getfield 54, 3) := by decide +kernel
theorem dX10_isCommit_14 : decode cX10_isCommit 14 = .ok (.iload_n 1, 1) := by decide +kernel
theorem dX10_isCommit_15 : decode cX10_isCommit 15 = .ok (.lshr, 1) := by decide +kernel
theorem dX10_isCommit_16 : decode cX10_isCommit 16 = .ok (.lconst 1, 1) := by decide +kernel
theorem dX10_isCommit_17 : decode cX10_isCommit 17 = .ok (.land, 1) := by decide +kernel
theorem dX10_isCommit_18 : decode cX10_isCommit 18 = .ok (.lconst 0, 1) := by decide +kernel
theorem dX10_isCommit_19 : decode cX10_isCommit 19 = .ok (.lcmp, 1) := by decide +kernel
theorem dX10_isCommit_20 : decode cX10_isCommit 20 = .ok (.ifCond .eq 7, 3) := by decide +kernel
theorem dX10_isCommit_23 : decode cX10_isCommit 23 = .ok (.iconst 1, 1) := by decide +kernel
theorem dX10_isCommit_24 : decode cX10_isCommit 24 = .ok (.goto 4, 3) := by decide +kernel
theorem dX10_isCommit_27 : decode cX10_isCommit 27 = .ok (.iconst 0, 1) := by decide +kernel
theorem dX10_isCommit_28 : decode cX10_isCommit 28 = .ok (.ireturn, 1) := by decide +kernel
theorem EX10_isCommit {h : jj_H} {Q : Value → jj_H → Prop} (r0 : Nat) (x1 : Int32) (H : ∀ d : jj_D, (x1 < 0 → Q (.int 0) h) ∧ (¬ x1 < 0 → (60 ≤ x1 → Q (.int 0) h) ∧ (¬ 60 ≤ x1 → jK h r0 = 11 ∧ (((((jL h 514 r0 0) >>> (Int32.toInt64 x1 &&& 63)) &&& 1) = 0 → Q (.int 0) h) ∧ (¬ (((jL h 514 r0 0) >>> (Int32.toInt64 x1 &&& 63)) &&& 1) = 0 → Q (.int 1) h))))) : jj_C mX10_isCommit 0 0 [.ref r0, .int x1] h Q := j_enter (by decide +kernel) (Nat.le_of_ble_eq_true rfl) rfl fun d => have H := H d; j_iload_n dX10_isCommit_0 rfl 1 rfl (j_if_lt (tgt := 27) dX10_isCommit_1 (by decide) (fun c1 => j_iconst (v := 0) dX10_isCommit_27 rfl (j_ret (v := .int 0) ⟨dX10_isCommit_28, _, rfl, by decide⟩ rfl ((H.1 c1)))) (fun c1 => j_iload_n dX10_isCommit_4 rfl 1 rfl (j_bipush (v := 60) dX10_isCommit_5 rfl (j_icmp_ge (tgt := 27) dX10_isCommit_7 (by decide) (fun c2 => j_iconst (v := 0) dX10_isCommit_27 rfl (j_ret (v := .int 0) ⟨dX10_isCommit_28, _, rfl, by decide⟩ rfl (((H.2 c1).1 c2)))) (fun c2 => j_aload_n dX10_isCommit_10 rfl 0 rfl (j_getL (f := 514) cls_X10 14 (by decide) fl_X10_54 rfl rfl dX10_isCommit_11 ((H.2 c1).2 c2).1 (j_iload_n dX10_isCommit_14 rfl 1 rfl (j_lshr dX10_isCommit_15 (j_lconst (v := 1) dX10_isCommit_16 rfl (j_land dX10_isCommit_17 (j_lconst (v := 0) dX10_isCommit_18 rfl (j_lcmp dX10_isCommit_19 (j_if_eq (tgt := 27) dX10_isCommit_20 (by decide) (fun c3 => j_iconst (v := 0) dX10_isCommit_27 rfl (j_ret (v := .int 0) ⟨dX10_isCommit_28, _, rfl, by decide⟩ rfl ((((H.2 c1).2 c2).2.1 ((lg_cmp_eq _ _).mp c3))))) (fun c3 => j_iconst (v := 1) dX10_isCommit_23 rfl (j_goto (tgt := 28) dX10_isCommit_24 (by decide) (j_ret (v := .int 1) ⟨dX10_isCommit_28, _, rfl, by decide⟩ rfl ((((H.2 c1).2 c2).2.2 (fun z => c3 ((lg_cmp_eq _ _).mpr z))))))))))))))))))))
theorem dX10_placeOf_0 : decode cX10_placeOf 0 = .ok (.iload_n 1, 1) := by decide +kernel
theorem dX10_placeOf_1 : decode cX10_placeOf 1 = .ok (.iconst (-1), 1) := by decide +kernel
theorem dX10_placeOf_2 : decode cX10_placeOf 2 = .ok (.if_icmp .ne 8, 3) := by decide +kernel
theorem dX10_placeOf_5 : decode cX10_placeOf 5 = .ok (.bipush 60, 2) := by decide +kernel
theorem dX10_placeOf_7 : decode cX10_placeOf 7 = .ok (.goto 17, 3) := by decide +kernel
theorem dX10_placeOf_10 : decode cX10_placeOf 10 = .ok (.aload_n 0, 1) := by decide +kernel
theorem dX10_placeOf_11 : decode cX10_placeOf 11 = .ok (.iload_n 1, 1) := by decide +kernel
theorem dX10_placeOf_12 : decode cX10_placeOf 12 = .ok (.invokevirtual 106, 3) := by decide +kernel
theorem dX10_placeOf_15 : decode cX10_placeOf 15 = .ok (.ifCond .eq 7, 3) := by decide +kernel
theorem dX10_placeOf_18 : decode cX10_placeOf 18 = .ok (.iload_n 1, 1) := by decide +kernel
theorem dX10_placeOf_19 : decode cX10_placeOf 19 = .ok (.goto 5, 3) := by decide +kernel
theorem dX10_placeOf_22 : decode cX10_placeOf 22 = .ok (.bipush (-5), 2) := by decide +kernel
theorem dX10_placeOf_24 : decode cX10_placeOf 24 = .ok (.ireturn, 1) := by decide +kernel
theorem EX10_placeOf {h : jj_H} {Q : Value → jj_H → Prop} (r0 : Nat) (x1 : Int32) (H : ∀ d : jj_D, (¬ x1 = (-1) → jK h r0 = 11 ∧ (jj_C mX10_isCommit 0 0 [.ref r0, .int x1] h (fun v3 h2 => jj_vi (fun y4 => (y4 = 0 → Q (.int (-5)) h2) ∧ (¬ y4 = 0 → Q (.int x1) h2)) v3))) ∧ (x1 = (-1) → Q (.int 60) h)) : jj_C mX10_placeOf 0 0 [.ref r0, .int x1] h Q := j_enter (by decide +kernel) (Nat.le_of_ble_eq_true rfl) rfl fun d => have H := H d; j_iload_n dX10_placeOf_0 rfl 1 rfl (j_iconst (v := (-1)) dX10_placeOf_1 rfl (j_icmp_ne (tgt := 10) dX10_placeOf_2 (by decide) (fun c1 => j_aload_n dX10_placeOf_10 rfl 0 rfl (j_iload_n dX10_placeOf_11 rfl 1 rfl (j_callV (cj := 0) (sj := 0) (as := [.int x1]) cm_X10_isCommit im_X10_isCommit se_X10_isCommit (ci := 10) rfl (by decide) ml_X10_106 ⟨by decide, by decide⟩ dX10_placeOf_12 rfl rfl (Nat.le_of_ble_eq_true rfl) (H.1 c1).1 (jj_C.mono (H.1 c1).2 (fun v3 h2 H5 => jj_vi_e (fun y4 H5 => j_if_eq (tgt := 22) dX10_placeOf_15 (by decide) (fun c6 => j_bipush (v := (-5)) dX10_placeOf_22 rfl (j_ret (v := .int (-5)) ⟨dX10_placeOf_24, _, rfl⟩ rfl ((H5.1 c6)))) (fun c6 => j_iload_n dX10_placeOf_18 rfl 1 rfl (j_goto (tgt := 24) dX10_placeOf_19 (by decide) (j_ret (v := .int x1) ⟨dX10_placeOf_24, _, rfl⟩ rfl ((H5.2 c6)))))) H5))))) (fun c1 => j_bipush (v := 60) dX10_placeOf_5 rfl (j_goto (tgt := 24) dX10_placeOf_7 (by decide) (j_ret (v := .int 60) ⟨dX10_placeOf_24, _, rfl⟩ rfl ((H.2 c1)))))))
theorem dX10_rowAt_0 : decode cX10_rowAt 0 = .ok (.sipush 600, 3) := by decide +kernel
theorem dX10_rowAt_3 : decode cX10_rowAt 3 = .ok (.iload_n 1, 1) := by decide +kernel
theorem dX10_rowAt_4 : decode cX10_rowAt 4 = .ok (.imul, 1) := by decide +kernel
theorem dX10_rowAt_5 : decode cX10_rowAt 5 = .ok (.sipush 200, 3) := by decide +kernel
theorem dX10_rowAt_8 : decode cX10_rowAt 8 = .ok (.iload_n 2, 1) := by decide +kernel
theorem dX10_rowAt_9 : decode cX10_rowAt 9 = .ok (.imul, 1) := by decide +kernel
theorem dX10_rowAt_10 : decode cX10_rowAt 10 = .ok (.iadd, 1) := by decide +kernel
theorem dX10_rowAt_11 : decode cX10_rowAt 11 = .ok (.iload_n 3, 1) := by decide +kernel
theorem dX10_rowAt_12 : decode cX10_rowAt 12 = .ok (.iadd, 1) := by decide +kernel
theorem dX10_rowAt_13 : decode cX10_rowAt 13 = .ok (.ireturn, 1) := by decide +kernel
theorem EX10_rowAt {h : jj_H} {Q : Value → jj_H → Prop} (r0 : Nat) (x1 : Int32) (x2 : Int32) (x3 : Int32) (H : ∀ d : jj_D, Q (.int (((600 * x1) + (200 * x2)) + x3)) h) : jj_C mX10_rowAt 0 0 [.ref r0, .int x1, .int x2, .int x3] h Q := j_enter (by decide +kernel) (Nat.le_of_ble_eq_true rfl) rfl fun d => have H := H d; j_sipush (v := 600) dX10_rowAt_0 rfl (j_iload_n dX10_rowAt_3 rfl 1 rfl (j_imul dX10_rowAt_4 (j_sipush (v := 200) dX10_rowAt_5 rfl (j_iload_n dX10_rowAt_8 rfl 2 rfl (j_imul dX10_rowAt_9 (j_iadd dX10_rowAt_10 (j_iload_n dX10_rowAt_11 rfl 3 rfl (j_iadd dX10_rowAt_12 (j_ret (v := .int (((600 * x1) + (200 * x2)) + x3)) ⟨dX10_rowAt_13, _, rfl⟩ rfl (H))))))))))
theorem dX10_rankOf_0 : decode cX10_rankOf 0 = .ok (.iconst 0, 1) := by decide +kernel
theorem dX10_rankOf_1 : decode cX10_rankOf 1 = .ok (.istore 4, 2) := by decide +kernel
theorem dX10_rankOf_3 : decode cX10_rankOf 3 = .ok (.iload 4, 2) := by decide +kernel
theorem dX10_rankOf_5 : decode cX10_rankOf 5 = .ok (.aload_n 0, 1) := by decide +kernel
theorem dX10_rankOf_6 : decode cX10_rankOf 6 = .ok (.getfield 18, 3) := by decide +kernel
theorem dX10_rankOf_9 : decode cX10_rankOf 9 = .ok (.iconst 3, 1) := by decide +kernel
theorem dX10_rankOf_10 : decode cX10_rankOf 10 = .ok (.iload_n 1, 1) := by decide +kernel
theorem dX10_rankOf_11 : decode cX10_rankOf 11 = .ok (.imul, 1) := by decide +kernel
theorem dX10_rankOf_12 : decode cX10_rankOf 12 = .ok (.iload_n 2, 1) := by decide +kernel
theorem dX10_rankOf_13 : decode cX10_rankOf 13 = .ok (.iadd, 1) := by decide +kernel
theorem dX10_rankOf_14 : decode cX10_rankOf 14 = .ok (.iaload, 1) := by decide +kernel
theorem dX10_rankOf_15 : decode cX10_rankOf 15 = .ok (.if_icmp .ge 26, 3) := by decide +kernel
theorem dX10_rankOf_18 : decode cX10_rankOf 18 = .ok (.aload_n 0, 1) := by decide +kernel
theorem dX10_rankOf_19 : decode cX10_rankOf 19 = .ok (.getfield 8, 3) := by decide +kernel
theorem dX10_rankOf_22 : decode cX10_rankOf 22 = .ok (.aload_n 0, 1) := by decide +kernel
theorem dX10_rankOf_23 : decode cX10_rankOf 23 = .ok (.iload_n 1, 1) := by decide +kernel
theorem dX10_rankOf_24 : decode cX10_rankOf 24 = .ok (.iload_n 2, 1) := by decide +kernel
theorem dX10_rankOf_25 : decode cX10_rankOf 25 = .ok (.iload 4, 2) := by decide +kernel
theorem dX10_rankOf_27 : decode cX10_rankOf 27 = .ok (.invokevirtual 110, 3) := by decide +kernel
theorem dX10_rankOf_30 : decode cX10_rankOf 30 = .ok (.iaload, 1) := by decide +kernel
theorem dX10_rankOf_31 : decode cX10_rankOf 31 = .ok (.iload_n 3, 1) := by decide +kernel
theorem dX10_rankOf_32 : decode cX10_rankOf 32 = .ok (.if_icmp .ge 9, 3) := by decide +kernel
theorem dX10_rankOf_35 : decode cX10_rankOf 35 = .ok (.iinc 4 1, 3) := by decide +kernel
theorem dX10_rankOf_38 : decode cX10_rankOf 38 = .ok (.goto (-35), 3) := by decide +kernel
theorem dX10_rankOf_41 : decode cX10_rankOf 41 = .ok (.iload 4, 2) := by decide +kernel
theorem dX10_rankOf_43 : decode cX10_rankOf 43 = .ok (.ireturn, 1) := by decide +kernel
theorem EX10_rankOf {h : jj_H} {Q : Value → jj_H → Prop} (r0 : Nat) (x1 : Int32) (x2 : Int32) (x3 : Int32) (H : ∀ d : jj_D, jj_WP d mX10_rankOf 0 0 3 [(0, .ref r0), (1, .int x1), (2, .int x2), (3, .int x3), (4, .int 0)] [] h Q) : jj_C mX10_rankOf 0 0 [.ref r0, .int x1, .int x2, .int x3] h Q := j_enter (by decide +kernel) (Nat.le_of_ble_eq_true rfl) rfl fun d => have H := H d; j_iconst (v := 0) dX10_rankOf_0 rfl (j_istore (L' := [(4, .int 0), (0, .ref r0), (1, .int x1), (2, .int x2), (3, .int x3)]) dX10_rankOf_1 (by decide) rfl (j_sub [1, 2, 3, 4, 0] rfl (H)))
theorem VX10_rankOf_3 {d : jj_D} {h : jj_H} {Q : Value → jj_H → Prop} (r0 : Nat) (x1 : Int32) (x2 : Int32) (x3 : Int32) (x4 : Int32) (H : jK h r0 = 11 ∧ (jK h (jR h 503 r0 0) = 21 ∧ (vp_in ((3 * x1) + x2) (jN h (jR h 503 r0 0)) ∧ (((jI h 1000 (jR h 503 r0 0) (Int32.toNatClampNeg ((3 * x1) + x2))) ≤ x4 → Q (.int x4) h) ∧ (¬ (jI h 1000 (jR h 503 r0 0) (Int32.toNatClampNeg ((3 * x1) + x2))) ≤ x4 → jj_C mX10_rowAt 0 0 [.ref r0, .int x1, .int x2, .int x4] h (fun v3 h2 => jj_vi (fun y4 => jK h2 (jR h 501 r0 0) = 21 ∧ (vp_in y4 (jN h2 (jR h 501 r0 0)) ∧ ((x3 ≤ (jI h2 1000 (jR h 501 r0 0) (Int32.toNatClampNeg y4)) → Q (.int x4) h2) ∧ (¬ x3 ≤ (jI h2 1000 (jR h 501 r0 0) (Int32.toNatClampNeg y4)) → jj_WP d mX10_rankOf 0 0 3 [(0, .ref r0), (1, .int x1), (2, .int x2), (3, .int x3), (4, .int (x4 + 1))] [] h2 Q)))) v3)))))) : jj_WP d mX10_rankOf 0 0 3 [(0, .ref r0), (1, .int x1), (2, .int x2), (3, .int x3), (4, .int x4)] [] h Q := j_iload dX10_rankOf_3 4 rfl (j_aload_n dX10_rankOf_5 rfl 0 rfl (j_getR (f := 503) cls_X10 3 (by decide) fl_X10_18 rfl rfl dX10_rankOf_6 H.1 (j_iconst (v := 3) dX10_rankOf_9 rfl (j_iload_n dX10_rankOf_10 rfl 1 rfl (j_imul dX10_rankOf_11 (j_iload_n dX10_rankOf_12 rfl 2 rfl (j_iadd dX10_rankOf_13 (j_iald dX10_rankOf_14 H.2.1 H.2.2.1 (j_icmp_ge (tgt := 41) dX10_rankOf_15 (by decide) (fun c1 => j_iload dX10_rankOf_41 4 rfl (j_ret (v := .int x4) ⟨dX10_rankOf_43, _, rfl⟩ rfl ((H.2.2.2.1 c1)))) (fun c1 => j_aload_n dX10_rankOf_18 rfl 0 rfl (j_getR (f := 501) cls_X10 1 (by decide) fl_X10_8 rfl rfl dX10_rankOf_19 H.1 (j_aload_n dX10_rankOf_22 rfl 0 rfl (j_iload_n dX10_rankOf_23 rfl 1 rfl (j_iload_n dX10_rankOf_24 rfl 2 rfl (j_iload dX10_rankOf_25 4 rfl (j_callV (cj := 0) (sj := 0) (as := [.int x1, .int x2, .int x4]) cm_X10_rowAt im_X10_rowAt se_X10_rowAt (ci := 10) rfl (by decide) ml_X10_110 ⟨by decide, by decide⟩ dX10_rankOf_27 rfl rfl (Nat.le_of_ble_eq_true rfl) H.1 (jj_C.mono (H.2.2.2.2 c1) (fun v3 h2 H5 => jj_vi_e (fun y4 H5 => j_iald dX10_rankOf_30 H5.1 H5.2.1 (j_iload_n dX10_rankOf_31 rfl 3 rfl (j_icmp_ge (tgt := 41) dX10_rankOf_32 (by decide) (fun c6 => j_iload dX10_rankOf_41 4 rfl (j_ret (v := .int x4) ⟨dX10_rankOf_43, _, rfl⟩ rfl ((H5.2.2.1 c6)))) (fun c6 => j_iinc (v := (x4 + 1)) (L' := [(4, .int (x4 + 1)), (0, .ref r0), (1, .int x1), (2, .int x2), (3, .int x3)]) dX10_rankOf_35 4 rfl rfl (by decide) rfl (j_goto (tgt := 3) dX10_rankOf_38 (by decide) (j_sub [1, 2, 3, 4, 0] rfl ((H5.2.2.2 c6)))))))) H5))))))))))))))))))
theorem dX10_find_0 : decode cX10_find 0 = .ok (.aload_n 0, 1) := by decide +kernel
theorem dX10_find_1 : decode cX10_find 1 = .ok (.iload_n 1, 1) := by decide +kernel
theorem dX10_find_2 : decode cX10_find 2 = .ok (.iload_n 2, 1) := by decide +kernel
theorem dX10_find_3 : decode cX10_find 3 = .ok (.iload_n 3, 1) := by decide +kernel
theorem dX10_find_4 : decode cX10_find 4 = .ok (.invokevirtual 114, 3) := by decide +kernel
theorem dX10_find_7 : decode cX10_find 7 = .ok (.istore 4, 2) := by decide +kernel
theorem dX10_find_9 : decode cX10_find 9 = .ok (.aload_n 0, 1) := by decide +kernel
theorem dX10_find_10 : decode cX10_find 10 = .ok (.iload_n 1, 1) := by decide +kernel
theorem dX10_find_11 : decode cX10_find 11 = .ok (.iload_n 2, 1) := by decide +kernel
theorem dX10_find_12 : decode cX10_find 12 = .ok (.iload 4, 2) := by decide +kernel
theorem dX10_find_14 : decode cX10_find 14 = .ok (.invokevirtual 110, 3) := by decide +kernel
theorem dX10_find_17 : decode cX10_find 17 = .ok (.istore 5, 2) := by decide +kernel
theorem dX10_find_19 : decode cX10_find 19 = .ok (.iload 4, 2) := by decide +kernel
theorem dX10_find_21 : decode cX10_find 21 = .ok (.aload_n 0, 1) := by decide +kernel
theorem dX10_find_22 : decode cX10_find 22 = .ok (.getfield 18, 3) := by decide +kernel
theorem dX10_find_25 : decode cX10_find 25 = .ok (.iconst 3, 1) := by decide +kernel
theorem dX10_find_26 : decode cX10_find 26 = .ok (.iload_n 1, 1) := by decide +kernel
theorem dX10_find_27 : decode cX10_find 27 = .ok (.imul, 1) := by decide +kernel
theorem dX10_find_28 : decode cX10_find 28 = .ok (.iload_n 2, 1) := by decide +kernel
theorem dX10_find_29 : decode cX10_find 29 = .ok (.iadd, 1) := by decide +kernel
theorem dX10_find_30 : decode cX10_find 30 = .ok (.iaload, 1) := by decide +kernel
theorem dX10_find_31 : decode cX10_find 31 = .ok (.if_icmp .ge 19, 3) := by decide +kernel
theorem dX10_find_34 : decode cX10_find 34 = .ok (.aload_n 0, 1) := by decide +kernel
theorem dX10_find_35 : decode cX10_find 35 = .ok (.getfield 8, 3) := by decide +kernel
theorem dX10_find_38 : decode cX10_find 38 = .ok (.iload 5, 2) := by decide +kernel
theorem dX10_find_40 : decode cX10_find 40 = .ok (.iaload, 1) := by decide +kernel
theorem dX10_find_41 : decode cX10_find 41 = .ok (.iload_n 3, 1) := by decide +kernel
theorem dX10_find_42 : decode cX10_find 42 = .ok (.if_icmp .ne 8, 3) := by decide +kernel
theorem dX10_find_45 : decode cX10_find 45 = .ok (.iload 5, 2) := by decide +kernel
theorem dX10_find_47 : decode cX10_find 47 = .ok (.goto 4, 3) := by decide +kernel
theorem dX10_find_50 : decode cX10_find 50 = .ok (.iconst (-1), 1) := by decide +kernel
theorem dX10_find_51 : decode cX10_find 51 = .ok (.ireturn, 1) := by decide +kernel
theorem EX10_find {h : jj_H} {Q : Value → jj_H → Prop} (r0 : Nat) (x1 : Int32) (x2 : Int32) (x3 : Int32) (H : ∀ d : jj_D, jK h r0 = 11 ∧ (jj_C mX10_rankOf 0 0 [.ref r0, .int x1, .int x2, .int x3] h (fun v2 h1 => jj_vi (fun y3 => jK h1 r0 = 11 ∧ (jj_C mX10_rowAt 0 0 [.ref r0, .int x1, .int x2, .int y3] h1 (fun v6 h5 => jj_vi (fun y7 => jK h5 r0 = 11 ∧ (jK h5 (jR h5 503 r0 0) = 21 ∧ (vp_in ((3 * x1) + x2) (jN h5 (jR h5 503 r0 0)) ∧ (((jI h5 1000 (jR h5 503 r0 0) (Int32.toNatClampNeg ((3 * x1) + x2))) ≤ y3 → Q (.int (-1)) h5) ∧ (¬ (jI h5 1000 (jR h5 503 r0 0) (Int32.toNatClampNeg ((3 * x1) + x2))) ≤ y3 → jK h5 (jR h5 501 r0 0) = 21 ∧ (vp_in y7 (jN h5 (jR h5 501 r0 0)) ∧ ((¬ (jI h5 1000 (jR h5 501 r0 0) (Int32.toNatClampNeg y7)) = x3 → Q (.int (-1)) h5) ∧ ((jI h5 1000 (jR h5 501 r0 0) (Int32.toNatClampNeg y7)) = x3 → Q (.int y7) h5)))))))) v6))) v2))) : jj_C mX10_find 0 0 [.ref r0, .int x1, .int x2, .int x3] h Q := j_enter (by decide +kernel) (Nat.le_of_ble_eq_true rfl) rfl fun d => have H := H d; j_aload_n dX10_find_0 rfl 0 rfl (j_iload_n dX10_find_1 rfl 1 rfl (j_iload_n dX10_find_2 rfl 2 rfl (j_iload_n dX10_find_3 rfl 3 rfl (j_callV (cj := 0) (sj := 0) (as := [.int x1, .int x2, .int x3]) cm_X10_rankOf im_X10_rankOf se_X10_rankOf (ci := 10) rfl (by decide) ml_X10_114 ⟨by decide, by decide⟩ dX10_find_4 rfl rfl (Nat.le_of_ble_eq_true rfl) H.1 (jj_C.mono H.2 (fun v2 h1 H4 => jj_vi_e (fun y3 H4 => j_istore (L' := [(4, .int y3), (0, .ref r0), (1, .int x1), (2, .int x2), (3, .int x3)]) dX10_find_7 (by decide) rfl (j_aload_n dX10_find_9 rfl 1 rfl (j_iload_n dX10_find_10 rfl 2 rfl (j_iload_n dX10_find_11 rfl 3 rfl (j_iload dX10_find_12 0 rfl (j_callV (cj := 0) (sj := 0) (as := [.int x1, .int x2, .int y3]) cm_X10_rowAt im_X10_rowAt se_X10_rowAt (ci := 10) rfl (by decide) ml_X10_110 ⟨by decide, by decide⟩ dX10_find_14 rfl rfl (Nat.le_of_ble_eq_true rfl) H4.1 (jj_C.mono H4.2 (fun v6 h5 H8 => jj_vi_e (fun y7 H8 => j_istore (L' := [(5, .int y7), (4, .int y3), (0, .ref r0), (1, .int x1), (2, .int x2), (3, .int x3)]) dX10_find_17 (by decide) rfl (j_iload dX10_find_19 1 rfl (j_aload_n dX10_find_21 rfl 2 rfl (j_getR (f := 503) cls_X10 3 (by decide) fl_X10_18 rfl rfl dX10_find_22 H8.1 (j_iconst (v := 3) dX10_find_25 rfl (j_iload_n dX10_find_26 rfl 3 rfl (j_imul dX10_find_27 (j_iload_n dX10_find_28 rfl 4 rfl (j_iadd dX10_find_29 (j_iald dX10_find_30 H8.2.1 H8.2.2.1 (j_icmp_ge (tgt := 50) dX10_find_31 (by decide) (fun c9 => j_iconst (v := (-1)) dX10_find_50 rfl (j_ret (v := .int (-1)) ⟨dX10_find_51, _, rfl⟩ rfl ((H8.2.2.2.1 c9)))) (fun c9 => j_aload_n dX10_find_34 rfl 2 rfl (j_getR (f := 501) cls_X10 1 (by decide) fl_X10_8 rfl rfl dX10_find_35 H8.1 (j_iload dX10_find_38 0 rfl (j_iald dX10_find_40 (H8.2.2.2.2 c9).1 (H8.2.2.2.2 c9).2.1 (j_iload_n dX10_find_41 rfl 5 rfl (j_icmp_ne (tgt := 50) dX10_find_42 (by decide) (fun c10 => j_iconst (v := (-1)) dX10_find_50 rfl (j_ret (v := .int (-1)) ⟨dX10_find_51, _, rfl⟩ rfl (((H8.2.2.2.2 c9).2.2.1 c10)))) (fun c10 => j_iload dX10_find_45 0 rfl (j_goto (tgt := 51) dX10_find_47 (by decide) (j_ret (v := .int y7) ⟨dX10_find_51, _, rfl⟩ rfl (((H8.2.2.2.2 c9).2.2.2 c10)))))))))))))))))))))) H8)))))))) H4))))))
theorem dX10_copyRow_0 : decode cX10_copyRow 0 = .ok (.aload_n 0, 1) := by decide +kernel
theorem dX10_copyRow_1 : decode cX10_copyRow 1 = .ok (.getfield 8, 3) := by decide +kernel
theorem dX10_copyRow_4 : decode cX10_copyRow 4 = .ok (.iload_n 2, 1) := by decide +kernel
theorem dX10_copyRow_5 : decode cX10_copyRow 5 = .ok (.aload_n 0, 1) := by decide +kernel
theorem dX10_copyRow_6 : decode cX10_copyRow 6 = .ok (.getfield 8, 3) := by decide +kernel
theorem dX10_copyRow_9 : decode cX10_copyRow 9 = .ok (.iload_n 1, 1) := by decide +kernel
theorem dX10_copyRow_10 : decode cX10_copyRow 10 = .ok (.iaload, 1) := by decide +kernel
theorem dX10_copyRow_11 : decode cX10_copyRow 11 = .ok (.iastore, 1) := by decide +kernel
theorem dX10_copyRow_12 : decode cX10_copyRow 12 = .ok (.aload_n 0, 1) := by decide +kernel
theorem dX10_copyRow_13 : decode cX10_copyRow 13 = .ok (.getfield 15, 3) := by decide +kernel
theorem dX10_copyRow_16 : decode cX10_copyRow 16 = .ok (.iconst 3, 1) := by decide +kernel
theorem dX10_copyRow_17 : decode cX10_copyRow 17 = .ok (.iload_n 2, 1) := by decide +kernel
theorem dX10_copyRow_18 : decode cX10_copyRow 18 = .ok (.imul, 1) := by decide +kernel
theorem dX10_copyRow_19 : decode cX10_copyRow 19 = .ok (.aload_n 0, 1) := by decide +kernel
theorem dX10_copyRow_20 : decode cX10_copyRow 20 = .ok (.getfield 15, 3) := by decide +kernel
theorem dX10_copyRow_23 : decode cX10_copyRow 23 = .ok (.iconst 3, 1) := by decide +kernel
theorem dX10_copyRow_24 : decode cX10_copyRow 24 = .ok (.iload_n 1, 1) := by decide +kernel
theorem dX10_copyRow_25 : decode cX10_copyRow 25 = .ok (.imul, 1) := by decide +kernel
theorem dX10_copyRow_26 : decode cX10_copyRow 26 = .ok (.iaload, 1) := by decide +kernel
theorem dX10_copyRow_27 : decode cX10_copyRow 27 = .ok (.iastore, 1) := by decide +kernel
theorem dX10_copyRow_28 : decode cX10_copyRow 28 = .ok (.aload_n 0, 1) := by decide +kernel
theorem dX10_copyRow_29 : decode cX10_copyRow 29 = .ok (.getfield 15, 3) := by decide +kernel
theorem dX10_copyRow_32 : decode cX10_copyRow 32 = .ok (.iconst 3, 1) := by decide +kernel
theorem dX10_copyRow_33 : decode cX10_copyRow 33 = .ok (.iload_n 2, 1) := by decide +kernel
theorem dX10_copyRow_34 : decode cX10_copyRow 34 = .ok (.imul, 1) := by decide +kernel
theorem dX10_copyRow_35 : decode cX10_copyRow 35 = .ok (.iconst 1, 1) := by decide +kernel
theorem dX10_copyRow_36 : decode cX10_copyRow 36 = .ok (.iadd, 1) := by decide +kernel
theorem dX10_copyRow_37 : decode cX10_copyRow 37 = .ok (.aload_n 0, 1) := by decide +kernel
theorem dX10_copyRow_38 : decode cX10_copyRow 38 = .ok (.getfield 15, 3) := by decide +kernel
theorem dX10_copyRow_41 : decode cX10_copyRow 41 = .ok (.iconst 3, 1) := by decide +kernel
theorem dX10_copyRow_42 : decode cX10_copyRow 42 = .ok (.iload_n 1, 1) := by decide +kernel
theorem dX10_copyRow_43 : decode cX10_copyRow 43 = .ok (.imul, 1) := by decide +kernel
theorem dX10_copyRow_44 : decode cX10_copyRow 44 = .ok (.iconst 1, 1) := by decide +kernel
theorem dX10_copyRow_45 : decode cX10_copyRow 45 = .ok (.iadd, 1) := by decide +kernel
theorem dX10_copyRow_46 : decode cX10_copyRow 46 = .ok (.iaload, 1) := by decide +kernel
theorem dX10_copyRow_47 : decode cX10_copyRow 47 = .ok (.iastore, 1) := by decide +kernel
theorem dX10_copyRow_48 : decode cX10_copyRow 48 = .ok (.aload_n 0, 1) := by decide +kernel
theorem dX10_copyRow_49 : decode cX10_copyRow 49 = .ok (.getfield 15, 3) := by decide +kernel
theorem dX10_copyRow_52 : decode cX10_copyRow 52 = .ok (.iconst 3, 1) := by decide +kernel
theorem dX10_copyRow_53 : decode cX10_copyRow 53 = .ok (.iload_n 2, 1) := by decide +kernel
theorem dX10_copyRow_54 : decode cX10_copyRow 54 = .ok (.imul, 1) := by decide +kernel
theorem dX10_copyRow_55 : decode cX10_copyRow 55 = .ok (.iconst 2, 1) := by decide +kernel
theorem dX10_copyRow_56 : decode cX10_copyRow 56 = .ok (.iadd, 1) := by decide +kernel
theorem dX10_copyRow_57 : decode cX10_copyRow 57 = .ok (.aload_n 0, 1) := by decide +kernel
theorem dX10_copyRow_58 : decode cX10_copyRow 58 = .ok (.getfield 15, 3) := by decide +kernel
theorem dX10_copyRow_61 : decode cX10_copyRow 61 = .ok (.iconst 3, 1) := by decide +kernel
theorem dX10_copyRow_62 : decode cX10_copyRow 62 = .ok (.iload_n 1, 1) := by decide +kernel
theorem dX10_copyRow_63 : decode cX10_copyRow 63 = .ok (.imul, 1) := by decide +kernel
theorem dX10_copyRow_64 : decode cX10_copyRow 64 = .ok (.iconst 2, 1) := by decide +kernel
theorem dX10_copyRow_65 : decode cX10_copyRow 65 = .ok (.iadd, 1) := by decide +kernel
theorem dX10_copyRow_66 : decode cX10_copyRow 66 = .ok (.iaload, 1) := by decide +kernel
theorem dX10_copyRow_67 : decode cX10_copyRow 67 = .ok (.iastore, 1) := by decide +kernel
theorem dX10_copyRow_68 : decode cX10_copyRow 68 = .ok (.return_, 1) := by decide +kernel
theorem EX10_copyRow {h : jj_H} {Q : Value → jj_H → Prop} (r0 : Nat) (x1 : Int32) (x2 : Int32) (H : ∀ d : jj_D, jK h r0 = 11 ∧ (jK h (jR h 501 r0 0) = 21 ∧ (vp_in x1 (jN h (jR h 501 r0 0)) ∧ (vp_in x2 (jN h (jR h 501 r0 0)) ∧ (∀ h1, h1 = wI h 1000 (jR h 501 r0 0) (Int32.toNatClampNeg x2) (jI h 1000 (jR h 501 r0 0) (Int32.toNatClampNeg x1)) → (jK h (jR h1 502 r0 0) = 21 ∧ (vp_in (3 * x1) (jN h (jR h1 502 r0 0)) ∧ (vp_in (3 * x2) (jN h (jR h1 502 r0 0)) ∧ (∀ h2, h2 = wI h1 1000 (jR h1 502 r0 0) (Int32.toNatClampNeg (3 * x2)) (jI h1 1000 (jR h1 502 r0 0) (Int32.toNatClampNeg (3 * x1))) → (jK h (jR h2 502 r0 0) = 21 ∧ (vp_in ((3 * x1) + 1) (jN h (jR h2 502 r0 0)) ∧ (vp_in ((3 * x2) + 1) (jN h (jR h2 502 r0 0)) ∧ (∀ h3, h3 = wI h2 1000 (jR h2 502 r0 0) (Int32.toNatClampNeg ((3 * x2) + 1)) (jI h2 1000 (jR h2 502 r0 0) (Int32.toNatClampNeg ((3 * x1) + 1))) → (jK h (jR h3 502 r0 0) = 21 ∧ (vp_in ((3 * x1) + 2) (jN h (jR h3 502 r0 0)) ∧ (vp_in ((3 * x2) + 2) (jN h (jR h3 502 r0 0)) ∧ (∀ h4, h4 = wI h3 1000 (jR h3 502 r0 0) (Int32.toNatClampNeg ((3 * x2) + 2)) (jI h3 1000 (jR h3 502 r0 0) (Int32.toNatClampNeg ((3 * x1) + 2))) → (Q (.int 0) h4)))))))))))))))))) : jj_C mX10_copyRow 0 0 [.ref r0, .int x1, .int x2] h Q := j_enter (by decide +kernel) (Nat.le_of_ble_eq_true rfl) rfl fun d => have H := H d; j_aload_n dX10_copyRow_0 rfl 0 rfl (j_getR (f := 501) cls_X10 1 (by decide) fl_X10_8 rfl rfl dX10_copyRow_1 H.1 (j_iload_n dX10_copyRow_4 rfl 2 rfl (j_aload_n dX10_copyRow_5 rfl 0 rfl (j_getR (f := 501) cls_X10 1 (by decide) fl_X10_8 rfl rfl dX10_copyRow_6 H.1 (j_iload_n dX10_copyRow_9 rfl 1 rfl (j_iald dX10_copyRow_10 H.2.1 H.2.2.1 (j_iast dX10_copyRow_11 H.2.1 H.2.2.2.1 (j_aload_n dX10_copyRow_12 rfl 0 rfl (j_getR (f := 502) cls_X10 2 (by decide) fl_X10_15 rfl rfl dX10_copyRow_13 H.1 (j_iconst (v := 3) dX10_copyRow_16 rfl (j_iload_n dX10_copyRow_17 rfl 2 rfl (j_imul dX10_copyRow_18 (j_aload_n dX10_copyRow_19 rfl 0 rfl (j_getR (f := 502) cls_X10 2 (by decide) fl_X10_15 rfl rfl dX10_copyRow_20 H.1 (j_iconst (v := 3) dX10_copyRow_23 rfl (j_iload_n dX10_copyRow_24 rfl 1 rfl (j_imul dX10_copyRow_25 (j_iald dX10_copyRow_26 (H.2.2.2.2 _ rfl).1 (H.2.2.2.2 _ rfl).2.1 (j_iast dX10_copyRow_27 (H.2.2.2.2 _ rfl).1 (H.2.2.2.2 _ rfl).2.2.1 (j_aload_n dX10_copyRow_28 rfl 0 rfl (j_getR (f := 502) cls_X10 2 (by decide) fl_X10_15 rfl rfl dX10_copyRow_29 H.1 (j_iconst (v := 3) dX10_copyRow_32 rfl (j_iload_n dX10_copyRow_33 rfl 2 rfl (j_imul dX10_copyRow_34 (j_iconst (v := 1) dX10_copyRow_35 rfl (j_iadd dX10_copyRow_36 (j_aload_n dX10_copyRow_37 rfl 0 rfl (j_getR (f := 502) cls_X10 2 (by decide) fl_X10_15 rfl rfl dX10_copyRow_38 H.1 (j_iconst (v := 3) dX10_copyRow_41 rfl (j_iload_n dX10_copyRow_42 rfl 1 rfl (j_imul dX10_copyRow_43 (j_iconst (v := 1) dX10_copyRow_44 rfl (j_iadd dX10_copyRow_45 (j_iald dX10_copyRow_46 ((H.2.2.2.2 _ rfl).2.2.2 _ rfl).1 ((H.2.2.2.2 _ rfl).2.2.2 _ rfl).2.1 (j_iast dX10_copyRow_47 ((H.2.2.2.2 _ rfl).2.2.2 _ rfl).1 ((H.2.2.2.2 _ rfl).2.2.2 _ rfl).2.2.1 (j_aload_n dX10_copyRow_48 rfl 0 rfl (j_getR (f := 502) cls_X10 2 (by decide) fl_X10_15 rfl rfl dX10_copyRow_49 H.1 (j_iconst (v := 3) dX10_copyRow_52 rfl (j_iload_n dX10_copyRow_53 rfl 2 rfl (j_imul dX10_copyRow_54 (j_iconst (v := 2) dX10_copyRow_55 rfl (j_iadd dX10_copyRow_56 (j_aload_n dX10_copyRow_57 rfl 0 rfl (j_getR (f := 502) cls_X10 2 (by decide) fl_X10_15 rfl rfl dX10_copyRow_58 H.1 (j_iconst (v := 3) dX10_copyRow_61 rfl (j_iload_n dX10_copyRow_62 rfl 1 rfl (j_imul dX10_copyRow_63 (j_iconst (v := 2) dX10_copyRow_64 rfl (j_iadd dX10_copyRow_65 (j_iald dX10_copyRow_66 (((H.2.2.2.2 _ rfl).2.2.2 _ rfl).2.2.2 _ rfl).1 (((H.2.2.2.2 _ rfl).2.2.2 _ rfl).2.2.2 _ rfl).2.1 (j_iast dX10_copyRow_67 (((H.2.2.2.2 _ rfl).2.2.2 _ rfl).2.2.2 _ rfl).1 (((H.2.2.2.2 _ rfl).2.2.2 _ rfl).2.2.2 _ rfl).2.2.1 (j_ret (v := .int 0) dX10_copyRow_68 rfl (((((H.2.2.2.2 _ rfl).2.2.2 _ rfl).2.2.2 _ rfl).2.2.2 _ rfl))))))))))))))))))))))))))))))))))))))))))))))))))))))
theorem dX10_copyTable_0 : decode cX10_copyTable 0 = .ok (.iconst 0, 1) := by decide +kernel
theorem dX10_copyTable_1 : decode cX10_copyTable 1 = .ok (.istore 4, 2) := by decide +kernel
theorem dX10_copyTable_3 : decode cX10_copyTable 3 = .ok (.iload 4, 2) := by decide +kernel
theorem dX10_copyTable_5 : decode cX10_copyTable 5 = .ok (.aload_n 0, 1) := by decide +kernel
theorem dX10_copyTable_6 : decode cX10_copyTable 6 = .ok (.getfield 18, 3) := by decide +kernel
theorem dX10_copyTable_9 : decode cX10_copyTable 9 = .ok (.iconst 3, 1) := by decide +kernel
theorem dX10_copyTable_10 : decode cX10_copyTable 10 = .ok (.iload_n 1, 1) := by decide +kernel
theorem dX10_copyTable_11 : decode cX10_copyTable 11 = .ok (.imul, 1) := by decide +kernel
theorem dX10_copyTable_12 : decode cX10_copyTable 12 = .ok (.iload_n 3, 1) := by decide +kernel
theorem dX10_copyTable_13 : decode cX10_copyTable 13 = .ok (.iadd, 1) := by decide +kernel
theorem dX10_copyTable_14 : decode cX10_copyTable 14 = .ok (.iaload, 1) := by decide +kernel
theorem dX10_copyTable_15 : decode cX10_copyTable 15 = .ok (.if_icmp .ge 29, 3) := by decide +kernel
theorem dX10_copyTable_18 : decode cX10_copyTable 18 = .ok (.aload_n 0, 1) := by decide +kernel
theorem dX10_copyTable_19 : decode cX10_copyTable 19 = .ok (.aload_n 0, 1) := by decide +kernel
theorem dX10_copyTable_20 : decode cX10_copyTable 20 = .ok (.iload_n 1, 1) := by decide +kernel
theorem dX10_copyTable_21 : decode cX10_copyTable 21 = .ok (.iload_n 3, 1) := by decide +kernel
theorem dX10_copyTable_22 : decode cX10_copyTable 22 = .ok (.iload 4, 2) := by decide +kernel
theorem dX10_copyTable_24 : decode cX10_copyTable 24 = .ok (.invokevirtual 110, 3) := by decide +kernel
theorem dX10_copyTable_27 : decode cX10_copyTable 27 = .ok (.aload_n 0, 1) := by decide +kernel
theorem dX10_copyTable_28 : decode cX10_copyTable 28 = .ok (.iload_n 2, 1) := by decide +kernel
theorem dX10_copyTable_29 : decode cX10_copyTable 29 = .ok (.iload_n 3, 1) := by decide +kernel
theorem dX10_copyTable_30 : decode cX10_copyTable 30 = .ok (.iload 4, 2) := by decide +kernel
theorem dX10_copyTable_32 : decode cX10_copyTable 32 = .ok (.invokevirtual 110, 3) := by decide +kernel
theorem dX10_copyTable_35 : decode cX10_copyTable 35 = .ok (.invokevirtual 117, 3) := by decide +kernel
theorem dX10_copyTable_38 : decode cX10_copyTable 38 = .ok (.iinc 4 1, 3) := by decide +kernel
theorem dX10_copyTable_41 : decode cX10_copyTable 41 = .ok (.goto (-38), 3) := by decide +kernel
theorem dX10_copyTable_44 : decode cX10_copyTable 44 = .ok (.aload_n 0, 1) := by decide +kernel
theorem dX10_copyTable_45 : decode cX10_copyTable 45 = .ok (.getfield 18, 3) := by decide +kernel
theorem dX10_copyTable_48 : decode cX10_copyTable 48 = .ok (.iconst 3, 1) := by decide +kernel
theorem dX10_copyTable_49 : decode cX10_copyTable 49 = .ok (.iload_n 2, 1) := by decide +kernel
theorem dX10_copyTable_50 : decode cX10_copyTable 50 = .ok (.imul, 1) := by decide +kernel
theorem dX10_copyTable_51 : decode cX10_copyTable 51 = .ok (.iload_n 3, 1) := by decide +kernel
theorem dX10_copyTable_52 : decode cX10_copyTable 52 = .ok (.iadd, 1) := by decide +kernel
theorem dX10_copyTable_53 : decode cX10_copyTable 53 = .ok (.aload_n 0, 1) := by decide +kernel
theorem dX10_copyTable_54 : decode cX10_copyTable 54 = .ok (.getfield 18, 3) := by decide +kernel
theorem dX10_copyTable_57 : decode cX10_copyTable 57 = .ok (.iconst 3, 1) := by decide +kernel
theorem dX10_copyTable_58 : decode cX10_copyTable 58 = .ok (.iload_n 1, 1) := by decide +kernel
theorem dX10_copyTable_59 : decode cX10_copyTable 59 = .ok (.imul, 1) := by decide +kernel
theorem dX10_copyTable_60 : decode cX10_copyTable 60 = .ok (.iload_n 3, 1) := by decide +kernel
theorem dX10_copyTable_61 : decode cX10_copyTable 61 = .ok (.iadd, 1) := by decide +kernel
theorem dX10_copyTable_62 : decode cX10_copyTable 62 = .ok (.iaload, 1) := by decide +kernel
theorem dX10_copyTable_63 : decode cX10_copyTable 63 = .ok (.iastore, 1) := by decide +kernel
theorem dX10_copyTable_64 : decode cX10_copyTable 64 = .ok (.return_, 1) := by decide +kernel
theorem EX10_copyTable {h : jj_H} {Q : Value → jj_H → Prop} (r0 : Nat) (x1 : Int32) (x2 : Int32) (x3 : Int32) (H : ∀ d : jj_D, jj_WP d mX10_copyTable 0 0 3 [(0, .ref r0), (1, .int x1), (2, .int x2), (3, .int x3), (4, .int 0)] [] h Q) : jj_C mX10_copyTable 0 0 [.ref r0, .int x1, .int x2, .int x3] h Q := j_enter (by decide +kernel) (Nat.le_of_ble_eq_true rfl) rfl fun d => have H := H d; j_iconst (v := 0) dX10_copyTable_0 rfl (j_istore (L' := [(4, .int 0), (0, .ref r0), (1, .int x1), (2, .int x2), (3, .int x3)]) dX10_copyTable_1 (by decide) rfl (j_sub [1, 2, 3, 4, 0] rfl (H)))
theorem VX10_copyTable_3 {d : jj_D} {h : jj_H} {Q : Value → jj_H → Prop} (r0 : Nat) (x1 : Int32) (x2 : Int32) (x3 : Int32) (x4 : Int32) (H : jK h r0 = 11 ∧ (jK h (jR h 503 r0 0) = 21 ∧ (vp_in ((3 * x1) + x3) (jN h (jR h 503 r0 0)) ∧ (((jI h 1000 (jR h 503 r0 0) (Int32.toNatClampNeg ((3 * x1) + x3))) ≤ x4 → vp_in ((3 * x2) + x3) (jN h (jR h 503 r0 0)) ∧ (∀ h2, h2 = wI h 1000 (jR h 503 r0 0) (Int32.toNatClampNeg ((3 * x2) + x3)) (jI h 1000 (jR h 503 r0 0) (Int32.toNatClampNeg ((3 * x1) + x3))) → (Q (.int 0) h2))) ∧ (¬ (jI h 1000 (jR h 503 r0 0) (Int32.toNatClampNeg ((3 * x1) + x3))) ≤ x4 → jj_C mX10_rowAt 0 0 [.ref r0, .int x1, .int x3, .int x4] h (fun v4 h3 => jj_vi (fun y5 => jK h3 r0 = 11 ∧ (jj_C mX10_rowAt 0 0 [.ref r0, .int x2, .int x3, .int x4] h3 (fun v8 h7 => jj_vi (fun y9 => jK h7 r0 = 11 ∧ (jj_C mX10_copyRow 0 0 [.ref r0, .int y5, .int y9] h7 (fun v12 h11 => jj_WP d mX10_copyTable 0 0 3 [(0, .ref r0), (1, .int x1), (2, .int x2), (3, .int x3), (4, .int (x4 + 1))] [] h11 Q))) v8))) v4)))))) : jj_WP d mX10_copyTable 0 0 3 [(0, .ref r0), (1, .int x1), (2, .int x2), (3, .int x3), (4, .int x4)] [] h Q := j_iload dX10_copyTable_3 4 rfl (j_aload_n dX10_copyTable_5 rfl 0 rfl (j_getR (f := 503) cls_X10 3 (by decide) fl_X10_18 rfl rfl dX10_copyTable_6 H.1 (j_iconst (v := 3) dX10_copyTable_9 rfl (j_iload_n dX10_copyTable_10 rfl 1 rfl (j_imul dX10_copyTable_11 (j_iload_n dX10_copyTable_12 rfl 3 rfl (j_iadd dX10_copyTable_13 (j_iald dX10_copyTable_14 H.2.1 H.2.2.1 (j_icmp_ge (tgt := 44) dX10_copyTable_15 (by decide) (fun c1 => j_aload_n dX10_copyTable_44 rfl 0 rfl (j_getR (f := 503) cls_X10 3 (by decide) fl_X10_18 rfl rfl dX10_copyTable_45 H.1 (j_iconst (v := 3) dX10_copyTable_48 rfl (j_iload_n dX10_copyTable_49 rfl 2 rfl (j_imul dX10_copyTable_50 (j_iload_n dX10_copyTable_51 rfl 3 rfl (j_iadd dX10_copyTable_52 (j_aload_n dX10_copyTable_53 rfl 0 rfl (j_getR (f := 503) cls_X10 3 (by decide) fl_X10_18 rfl rfl dX10_copyTable_54 H.1 (j_iconst (v := 3) dX10_copyTable_57 rfl (j_iload_n dX10_copyTable_58 rfl 1 rfl (j_imul dX10_copyTable_59 (j_iload_n dX10_copyTable_60 rfl 3 rfl (j_iadd dX10_copyTable_61 (j_iald dX10_copyTable_62 H.2.1 H.2.2.1 (j_iast dX10_copyTable_63 H.2.1 (H.2.2.2.1 c1).1 (j_ret (v := .int 0) dX10_copyTable_64 rfl (((H.2.2.2.1 c1).2 _ rfl))))))))))))))))))) (fun c1 => j_aload_n dX10_copyTable_18 rfl 0 rfl (j_aload_n dX10_copyTable_19 rfl 0 rfl (j_iload_n dX10_copyTable_20 rfl 1 rfl (j_iload_n dX10_copyTable_21 rfl 3 rfl (j_iload dX10_copyTable_22 4 rfl (j_callV (cj := 0) (sj := 0) (as := [.int x1, .int x3, .int x4]) cm_X10_rowAt im_X10_rowAt se_X10_rowAt (ci := 10) rfl (by decide) ml_X10_110 ⟨by decide, by decide⟩ dX10_copyTable_24 rfl rfl (Nat.le_of_ble_eq_true rfl) H.1 (jj_C.mono (H.2.2.2.2 c1) (fun v4 h3 H6 => jj_vi_e (fun y5 H6 => j_aload_n dX10_copyTable_27 rfl 0 rfl (j_iload_n dX10_copyTable_28 rfl 2 rfl (j_iload_n dX10_copyTable_29 rfl 3 rfl (j_iload dX10_copyTable_30 4 rfl (j_callV (cj := 0) (sj := 0) (as := [.int x2, .int x3, .int x4]) cm_X10_rowAt im_X10_rowAt se_X10_rowAt (ci := 10) rfl (by decide) ml_X10_110 ⟨by decide, by decide⟩ dX10_copyTable_32 rfl rfl (Nat.le_of_ble_eq_true rfl) H6.1 (jj_C.mono H6.2 (fun v8 h7 H10 => jj_vi_e (fun y9 H10 => j_callV (cj := 0) (sj := 0) (as := [.int y5, .int y9]) cm_X10_copyRow im_X10_copyRow se_X10_copyRow (ci := 10) rfl (by decide) ml_X10_117 ⟨by decide, by decide⟩ dX10_copyTable_35 rfl rfl (Nat.le_of_ble_eq_true rfl) H10.1 (jj_C.mono H10.2 (fun v12 h11 H13 => j_iinc (v := (x4 + 1)) (L' := [(4, .int (x4 + 1)), (0, .ref r0), (1, .int x1), (2, .int x2), (3, .int x3)]) dX10_copyTable_38 4 rfl rfl (by decide) rfl (j_goto (tgt := 3) dX10_copyTable_41 (by decide) (j_sub [1, 2, 3, 4, 0] rfl (H13)))))) H10))))))) H6)))))))))))))))))
theorem dX10_copy_0 : decode cX10_copy 0 = .ok (.iconst 0, 1) := by decide +kernel
theorem dX10_copy_1 : decode cX10_copy 1 = .ok (.istore_n 3, 1) := by decide +kernel
theorem dX10_copy_2 : decode cX10_copy 2 = .ok (.iload_n 3, 1) := by decide +kernel
theorem dX10_copy_3 : decode cX10_copy 3 = .ok (.iconst 3, 1) := by decide +kernel
theorem dX10_copy_4 : decode cX10_copy 4 = .ok (.if_icmp .ge 16, 3) := by decide +kernel
theorem dX10_copy_7 : decode cX10_copy 7 = .ok (.aload_n 0, 1) := by decide +kernel
theorem dX10_copy_8 : decode cX10_copy 8 = .ok (.iload_n 1, 1) := by decide +kernel
theorem dX10_copy_9 : decode cX10_copy 9 = .ok (.iload_n 2, 1) := by decide +kernel
theorem dX10_copy_10 : decode cX10_copy 10 = .ok (.iload_n 3, 1) := by decide +kernel
theorem dX10_copy_11 : decode cX10_copy 11 = .ok (.invokevirtual 120, 3) := by decide +kernel
theorem dX10_copy_14 : decode cX10_copy 14 = .ok (.iinc 3 1, 3) := by decide +kernel
theorem dX10_copy_17 : decode cX10_copy 17 = .ok (.goto (-15), 3) := by decide +kernel
theorem dX10_copy_20 : decode cX10_copy 20 = .ok (.return_, 1) := by decide +kernel
theorem EX10_copy {h : jj_H} {Q : Value → jj_H → Prop} (r0 : Nat) (x1 : Int32) (x2 : Int32) (H : ∀ d : jj_D, jj_WP d mX10_copy 0 0 2 [(0, .ref r0), (1, .int x1), (2, .int x2), (3, .int 0)] [] h Q) : jj_C mX10_copy 0 0 [.ref r0, .int x1, .int x2] h Q := j_enter (by decide +kernel) (Nat.le_of_ble_eq_true rfl) rfl fun d => have H := H d; j_iconst (v := 0) dX10_copy_0 rfl (j_istore_n (L' := [(3, .int 0), (0, .ref r0), (1, .int x1), (2, .int x2)]) dX10_copy_1 rfl (by decide) rfl (j_sub [1, 2, 3, 0] rfl (H)))
theorem VX10_copy_2 {d : jj_D} {h : jj_H} {Q : Value → jj_H → Prop} (r0 : Nat) (x1 : Int32) (x2 : Int32) (x3 : Int32) (H : (3 ≤ x3 → Q (.int 0) h) ∧ (¬ 3 ≤ x3 → jK h r0 = 11 ∧ (jj_C mX10_copyTable 0 0 [.ref r0, .int x1, .int x2, .int x3] h (fun v3 h2 => jj_WP d mX10_copy 0 0 2 [(0, .ref r0), (1, .int x1), (2, .int x2), (3, .int (x3 + 1))] [] h2 Q)))) : jj_WP d mX10_copy 0 0 2 [(0, .ref r0), (1, .int x1), (2, .int x2), (3, .int x3)] [] h Q := j_iload_n dX10_copy_2 rfl 3 rfl (j_iconst (v := 3) dX10_copy_3 rfl (j_icmp_ge (tgt := 20) dX10_copy_4 (by decide) (fun c1 => j_ret (v := .int 0) dX10_copy_20 rfl ((H.1 c1))) (fun c1 => j_aload_n dX10_copy_7 rfl 0 rfl (j_iload_n dX10_copy_8 rfl 1 rfl (j_iload_n dX10_copy_9 rfl 2 rfl (j_iload_n dX10_copy_10 rfl 3 rfl (j_callV (cj := 0) (sj := 0) (as := [.int x1, .int x2, .int x3]) cm_X10_copyTable im_X10_copyTable se_X10_copyTable (ci := 10) rfl (by decide) ml_X10_120 ⟨by decide, by decide⟩ dX10_copy_11 rfl rfl (Nat.le_of_ble_eq_true rfl) (H.2 c1).1 (jj_C.mono (H.2 c1).2 (fun v3 h2 H4 => j_iinc (v := (x3 + 1)) (L' := [(3, .int (x3 + 1)), (0, .ref r0), (1, .int x1), (2, .int x2)]) dX10_copy_14 3 rfl rfl (by decide) rfl (j_goto (tgt := 2) dX10_copy_17 (by decide) (j_sub [1, 2, 3, 0] rfl (H4))))))))))))
theorem dX10_lay_0 : decode cX10_lay 0 = .ok (.aload_n 0, 1) := by decide +kernel
theorem dX10_lay_1 : decode cX10_lay 1 = .ok (.iload_n 1, 1) := by decide +kernel
theorem dX10_lay_2 : decode cX10_lay 2 = .ok (.iload_n 2, 1) := by decide +kernel
theorem dX10_lay_3 : decode cX10_lay 3 = .ok (.iload_n 3, 1) := by decide +kernel
theorem dX10_lay_4 : decode cX10_lay 4 = .ok (.invokevirtual 124, 3) := by decide +kernel
theorem dX10_lay_7 : decode cX10_lay 7 = .ok (.istore 7, 2) := by decide +kernel
theorem dX10_lay_9 : decode cX10_lay 9 = .ok (.iload 7, 2) := by decide +kernel
theorem dX10_lay_11 : decode cX10_lay 11 = .ok (.ifCond .ge 7, 3) := by decide +kernel
theorem dX10_lay_14 : decode cX10_lay 14 = .ok (.iconst 1, 1) := by decide +kernel
theorem dX10_lay_15 : decode cX10_lay 15 = .ok (.goto 4, 3) := by decide +kernel
theorem dX10_lay_18 : decode cX10_lay 18 = .ok (.iconst 0, 1) := by decide +kernel
theorem dX10_lay_19 : decode cX10_lay 19 = .ok (.istore 8, 2) := by decide +kernel
theorem dX10_lay_21 : decode cX10_lay 21 = .ok (.iload 8, 2) := by decide +kernel
theorem dX10_lay_23 : decode cX10_lay 23 = .ok (.ifCond .eq 83, 3) := by decide +kernel
theorem dX10_lay_26 : decode cX10_lay 26 = .ok (.aload_n 0, 1) := by decide +kernel
theorem dX10_lay_27 : decode cX10_lay 27 = .ok (.iload_n 1, 1) := by decide +kernel
theorem dX10_lay_28 : decode cX10_lay 28 = .ok (.iload_n 2, 1) := by decide +kernel
theorem dX10_lay_29 : decode cX10_lay 29 = .ok (.iload_n 3, 1) := by decide +kernel
theorem dX10_lay_30 : decode cX10_lay 30 = .ok (.invokevirtual 114, 3) := by decide +kernel
theorem dX10_lay_33 : decode cX10_lay 33 = .ok (.istore 9, 2) := by decide +kernel
theorem dX10_lay_35 : decode cX10_lay 35 = .ok (.aload_n 0, 1) := by decide +kernel
theorem dX10_lay_36 : decode cX10_lay 36 = .ok (.getfield 18, 3) := by decide +kernel
theorem dX10_lay_39 : decode cX10_lay 39 = .ok (.iconst 3, 1) := by decide +kernel
theorem dX10_lay_40 : decode cX10_lay 40 = .ok (.iload_n 1, 1) := by decide +kernel
theorem dX10_lay_41 : decode cX10_lay 41 = .ok (.imul, 1) := by decide +kernel
theorem dX10_lay_42 : decode cX10_lay 42 = .ok (.iload_n 2, 1) := by decide +kernel
theorem dX10_lay_43 : decode cX10_lay 43 = .ok (.iadd, 1) := by decide +kernel
theorem dX10_lay_44 : decode cX10_lay 44 = .ok (.iaload, 1) := by decide +kernel
theorem dX10_lay_45 : decode cX10_lay 45 = .ok (.istore 10, 2) := by decide +kernel
theorem dX10_lay_47 : decode cX10_lay 47 = .ok (.iload 10, 2) := by decide +kernel
theorem dX10_lay_49 : decode cX10_lay 49 = .ok (.iload 9, 2) := by decide +kernel
theorem dX10_lay_51 : decode cX10_lay 51 = .ok (.if_icmp .le 31, 3) := by decide +kernel
theorem dX10_lay_54 : decode cX10_lay 54 = .ok (.aload_n 0, 1) := by decide +kernel
theorem dX10_lay_55 : decode cX10_lay 55 = .ok (.aload_n 0, 1) := by decide +kernel
theorem dX10_lay_56 : decode cX10_lay 56 = .ok (.iload_n 1, 1) := by decide +kernel
theorem dX10_lay_57 : decode cX10_lay 57 = .ok (.iload_n 2, 1) := by decide +kernel
theorem dX10_lay_58 : decode cX10_lay 58 = .ok (.iload 10, 2) := by decide +kernel
theorem dX10_lay_60 : decode cX10_lay 60 = .ok (.iconst 1, 1) := by decide +kernel
theorem dX10_lay_61 : decode cX10_lay 61 = .ok (.isub, 1) := by decide +kernel
theorem dX10_lay_62 : decode cX10_lay 62 = .ok (.invokevirtual 110, 3) := by decide +kernel
theorem dX10_lay_65 : decode cX10_lay 65 = .ok (.aload_n 0, 1) := by decide +kernel
theorem dX10_lay_66 : decode cX10_lay 66 = .ok (.iload_n 1, 1) := by decide +kernel
theorem dX10_lay_67 : decode cX10_lay 67 = .ok (.iload_n 2, 1) := by decide +kernel
theorem dX10_lay_68 : decode cX10_lay 68 = .ok (.iload 10, 2) := by decide +kernel
theorem dX10_lay_70 : decode cX10_lay 70 = .ok (.invokevirtual 110, 3) := by decide +kernel
theorem dX10_lay_73 : decode cX10_lay 73 = .ok (.invokevirtual 117, 3) := by decide +kernel
theorem dX10_lay_76 : decode cX10_lay 76 = .ok (.iinc 10 (-1), 3) := by decide +kernel
theorem dX10_lay_79 : decode cX10_lay 79 = .ok (.goto (-32), 3) := by decide +kernel
theorem dX10_lay_82 : decode cX10_lay 82 = .ok (.aload_n 0, 1) := by decide +kernel
theorem dX10_lay_83 : decode cX10_lay 83 = .ok (.getfield 18, 3) := by decide +kernel
theorem dX10_lay_86 : decode cX10_lay 86 = .ok (.iconst 3, 1) := by decide +kernel
theorem dX10_lay_87 : decode cX10_lay 87 = .ok (.iload_n 1, 1) := by decide +kernel
theorem dX10_lay_88 : decode cX10_lay 88 = .ok (.imul, 1) := by decide +kernel
theorem dX10_lay_89 : decode cX10_lay 89 = .ok (.iload_n 2, 1) := by decide +kernel
theorem dX10_lay_90 : decode cX10_lay 90 = .ok (.iadd, 1) := by decide +kernel
theorem dX10_lay_91 : decode cX10_lay 91 = .ok (.dup2, 1) := by decide +kernel
theorem dX10_lay_92 : decode cX10_lay 92 = .ok (.iaload, 1) := by decide +kernel
theorem dX10_lay_93 : decode cX10_lay 93 = .ok (.iconst 1, 1) := by decide +kernel
theorem dX10_lay_94 : decode cX10_lay 94 = .ok (.iadd, 1) := by decide +kernel
theorem dX10_lay_95 : decode cX10_lay 95 = .ok (.iastore, 1) := by decide +kernel
theorem dX10_lay_96 : decode cX10_lay 96 = .ok (.aload_n 0, 1) := by decide +kernel
theorem dX10_lay_97 : decode cX10_lay 97 = .ok (.iload_n 1, 1) := by decide +kernel
theorem dX10_lay_98 : decode cX10_lay 98 = .ok (.iload_n 2, 1) := by decide +kernel
theorem dX10_lay_99 : decode cX10_lay 99 = .ok (.iload 9, 2) := by decide +kernel
theorem dX10_lay_101 : decode cX10_lay 101 = .ok (.invokevirtual 110, 3) := by decide +kernel
theorem dX10_lay_104 : decode cX10_lay 104 = .ok (.istore 7, 2) := by decide +kernel
theorem dX10_lay_106 : decode cX10_lay 106 = .ok (.aload_n 0, 1) := by decide +kernel
theorem dX10_lay_107 : decode cX10_lay 107 = .ok (.getfield 8, 3) := by decide +kernel
theorem dX10_lay_110 : decode cX10_lay 110 = .ok (.iload 7, 2) := by decide +kernel
theorem dX10_lay_112 : decode cX10_lay 112 = .ok (.iload_n 3, 1) := by decide +kernel
theorem dX10_lay_113 : decode cX10_lay 113 = .ok (.iastore, 1) := by decide +kernel
theorem dX10_lay_114 : decode cX10_lay 114 = .ok (.aload_n 0, 1) := by decide +kernel
theorem dX10_lay_115 : decode cX10_lay 115 = .ok (.getfield 15, 3) := by decide +kernel
theorem dX10_lay_118 : decode cX10_lay 118 = .ok (.iconst 3, 1) := by decide +kernel
theorem dX10_lay_119 : decode cX10_lay 119 = .ok (.iload 7, 2) := by decide +kernel
theorem dX10_lay_121 : decode cX10_lay 121 = .ok (.imul, 1) := by decide +kernel
theorem dX10_lay_122 : decode cX10_lay 122 = .ok (.iload 4, 2) := by decide +kernel
theorem dX10_lay_124 : decode cX10_lay 124 = .ok (.iastore, 1) := by decide +kernel
theorem dX10_lay_125 : decode cX10_lay 125 = .ok (.aload_n 0, 1) := by decide +kernel
theorem dX10_lay_126 : decode cX10_lay 126 = .ok (.getfield 15, 3) := by decide +kernel
theorem dX10_lay_129 : decode cX10_lay 129 = .ok (.iconst 3, 1) := by decide +kernel
theorem dX10_lay_130 : decode cX10_lay 130 = .ok (.iload 7, 2) := by decide +kernel
theorem dX10_lay_132 : decode cX10_lay 132 = .ok (.imul, 1) := by decide +kernel
theorem dX10_lay_133 : decode cX10_lay 133 = .ok (.iconst 1, 1) := by decide +kernel
theorem dX10_lay_134 : decode cX10_lay 134 = .ok (.iadd, 1) := by decide +kernel
theorem dX10_lay_135 : decode cX10_lay 135 = .ok (.iload 5, 2) := by decide +kernel
theorem dX10_lay_137 : decode cX10_lay 137 = .ok (.iastore, 1) := by decide +kernel
theorem dX10_lay_138 : decode cX10_lay 138 = .ok (.aload_n 0, 1) := by decide +kernel
theorem dX10_lay_139 : decode cX10_lay 139 = .ok (.getfield 15, 3) := by decide +kernel
theorem dX10_lay_142 : decode cX10_lay 142 = .ok (.iconst 3, 1) := by decide +kernel
theorem dX10_lay_143 : decode cX10_lay 143 = .ok (.iload 7, 2) := by decide +kernel
theorem dX10_lay_145 : decode cX10_lay 145 = .ok (.imul, 1) := by decide +kernel
theorem dX10_lay_146 : decode cX10_lay 146 = .ok (.iconst 2, 1) := by decide +kernel
theorem dX10_lay_147 : decode cX10_lay 147 = .ok (.iadd, 1) := by decide +kernel
theorem dX10_lay_148 : decode cX10_lay 148 = .ok (.iload 6, 2) := by decide +kernel
theorem dX10_lay_150 : decode cX10_lay 150 = .ok (.iastore, 1) := by decide +kernel
theorem dX10_lay_151 : decode cX10_lay 151 = .ok (.iload 8, 2) := by decide +kernel
theorem dX10_lay_153 : decode cX10_lay 153 = .ok (.ireturn, 1) := by decide +kernel
theorem EX10_lay {h : jj_H} {Q : Value → jj_H → Prop} (r0 : Nat) (x1 : Int32) (x2 : Int32) (x3 : Int32) (x4 : Int32) (x5 : Int32) (x6 : Int32) (H : ∀ d : jj_D, jK h r0 = 11 ∧ (jj_C mX10_find 0 0 [.ref r0, .int x1, .int x2, .int x3] h (fun v2 h1 => jj_vi (fun y3 => (0 ≤ y3 → jj_WP d mX10_lay 0 0 19 [(0, .ref r0), (1, .int x1), (2, .int x2), (3, .int x3), (4, .int x4), (5, .int x5), (6, .int x6), (7, .int y3)] [.int 0] h1 Q) ∧ (¬ 0 ≤ y3 → jj_WP d mX10_lay 0 0 19 [(0, .ref r0), (1, .int x1), (2, .int x2), (3, .int x3), (4, .int x4), (5, .int x5), (6, .int x6), (7, .int y3)] [.int 1] h1 Q)) v2))) : jj_C mX10_lay 0 0 [.ref r0, .int x1, .int x2, .int x3, .int x4, .int x5, .int x6] h Q := j_enter (by decide +kernel) (Nat.le_of_ble_eq_true rfl) rfl fun d => have H := H d; j_aload_n dX10_lay_0 rfl 0 rfl (j_iload_n dX10_lay_1 rfl 1 rfl (j_iload_n dX10_lay_2 rfl 2 rfl (j_iload_n dX10_lay_3 rfl 3 rfl (j_callV (cj := 0) (sj := 0) (as := [.int x1, .int x2, .int x3]) cm_X10_find im_X10_find se_X10_find (ci := 10) rfl (by decide) ml_X10_124 ⟨by decide, by decide⟩ dX10_lay_4 rfl rfl (Nat.le_of_ble_eq_true rfl) H.1 (jj_C.mono H.2 (fun v2 h1 H4 => jj_vi_e (fun y3 H4 => j_istore (L' := [(7, .int y3), (0, .ref r0), (1, .int x1), (2, .int x2), (3, .int x3), (4, .int x4), (5, .int x5), (6, .int x6)]) dX10_lay_7 (by decide) rfl (j_iload dX10_lay_9 0 rfl (j_if_ge (tgt := 18) dX10_lay_11 (by decide) (fun c5 => j_iconst (v := 0) dX10_lay_18 rfl (j_sub [1, 2, 3, 4, 5, 6, 7, 0] rfl ((H4.1 c5)))) (fun c5 => j_iconst (v := 1) dX10_lay_14 rfl (j_goto (tgt := 19) dX10_lay_15 (by decide) (j_sub [1, 2, 3, 4, 5, 6, 7, 0] rfl ((H4.2 c5)))))))) H4))))))
theorem VX10_lay_19 {d : jj_D} {h : jj_H} {Q : Value → jj_H → Prop} (r0 : Nat) (x1 : Int32) (x2 : Int32) (x3 : Int32) (x4 : Int32) (x5 : Int32) (x6 : Int32) (x7 : Int32) (xs0 : Int32) (H : (xs0 = 0 → jj_WP d mX10_lay 0 0 106 [(0, .ref r0), (3, .int x3), (4, .int x4), (5, .int x5), (6, .int x6), (7, .int x7), (8, .int xs0)] [] h Q) ∧ (¬ xs0 = 0 → jK h r0 = 11 ∧ (jj_C mX10_rankOf 0 0 [.ref r0, .int x1, .int x2, .int x3] h (fun v3 h2 => jj_vi (fun y4 => jK h2 r0 = 11 ∧ (jK h2 (jR h2 503 r0 0) = 21 ∧ (vp_in ((3 * x1) + x2) (jN h2 (jR h2 503 r0 0)) ∧ (jj_WP d mX10_lay 0 0 47 [(0, .ref r0), (1, .int x1), (2, .int x2), (3, .int x3), (4, .int x4), (5, .int x5), (6, .int x6), (8, .int xs0), (9, .int y4), (10, .int (jI h2 1000 (jR h2 503 r0 0) (Int32.toNatClampNeg ((3 * x1) + x2))))] [] h2 Q)))) v3)))) : jj_WP d mX10_lay 0 0 19 [(0, .ref r0), (1, .int x1), (2, .int x2), (3, .int x3), (4, .int x4), (5, .int x5), (6, .int x6), (7, .int x7)] [.int xs0] h Q := j_istore (L' := [(8, .int xs0), (0, .ref r0), (1, .int x1), (2, .int x2), (3, .int x3), (4, .int x4), (5, .int x5), (6, .int x6), (7, .int x7)]) dX10_lay_19 (by decide) rfl (j_iload dX10_lay_21 0 rfl (j_if_eq (tgt := 106) dX10_lay_23 (by decide) (fun c1 => j_sub [1, 4, 5, 6, 7, 8, 0] rfl ((H.1 c1))) (fun c1 => j_aload_n dX10_lay_26 rfl 1 rfl (j_iload_n dX10_lay_27 rfl 2 rfl (j_iload_n dX10_lay_28 rfl 3 rfl (j_iload_n dX10_lay_29 rfl 4 rfl (j_callV (cj := 0) (sj := 0) (as := [.int x1, .int x2, .int x3]) cm_X10_rankOf im_X10_rankOf se_X10_rankOf (ci := 10) rfl (by decide) ml_X10_114 ⟨by decide, by decide⟩ dX10_lay_30 rfl rfl (Nat.le_of_ble_eq_true rfl) (H.2 c1).1 (jj_C.mono (H.2 c1).2 (fun v3 h2 H5 => jj_vi_e (fun y4 H5 => j_istore (L' := [(9, .int y4), (8, .int xs0), (0, .ref r0), (1, .int x1), (2, .int x2), (3, .int x3), (4, .int x4), (5, .int x5), (6, .int x6), (7, .int x7)]) dX10_lay_33 (by decide) rfl (j_aload_n dX10_lay_35 rfl 2 rfl (j_getR (f := 503) cls_X10 3 (by decide) fl_X10_18 rfl rfl dX10_lay_36 H5.1 (j_iconst (v := 3) dX10_lay_39 rfl (j_iload_n dX10_lay_40 rfl 3 rfl (j_imul dX10_lay_41 (j_iload_n dX10_lay_42 rfl 4 rfl (j_iadd dX10_lay_43 (j_iald dX10_lay_44 H5.2.1 H5.2.2.1 (j_istore (L' := [(10, .int (jI h2 1000 (jR h2 503 r0 0) (Int32.toNatClampNeg ((3 * x1) + x2)))), (9, .int y4), (8, .int xs0), (0, .ref r0), (1, .int x1), (2, .int x2), (3, .int x3), (4, .int x4), (5, .int x5), (6, .int x6), (7, .int x7)]) dX10_lay_45 (by decide) rfl (j_sub [3, 4, 5, 6, 7, 8, 9, 2, 1, 0] rfl (H5.2.2.2)))))))))))) H5)))))))))
theorem VX10_lay_106 {d : jj_D} {h : jj_H} {Q : Value → jj_H → Prop} (r0 : Nat) (x3 : Int32) (x4 : Int32) (x5 : Int32) (x6 : Int32) (x7 : Int32) (x8 : Int32) (H : jK h r0 = 11 ∧ (jK h (jR h 501 r0 0) = 21 ∧ (vp_in x7 (jN h (jR h 501 r0 0)) ∧ (∀ h1, h1 = wI h 1000 (jR h 501 r0 0) (Int32.toNatClampNeg x7) x3 → (jK h (jR h1 502 r0 0) = 21 ∧ (vp_in (3 * x7) (jN h (jR h1 502 r0 0)) ∧ (∀ h2, h2 = wI h1 1000 (jR h1 502 r0 0) (Int32.toNatClampNeg (3 * x7)) x4 → (jK h (jR h2 502 r0 0) = 21 ∧ (vp_in ((3 * x7) + 1) (jN h (jR h2 502 r0 0)) ∧ (∀ h3, h3 = wI h2 1000 (jR h2 502 r0 0) (Int32.toNatClampNeg ((3 * x7) + 1)) x5 → (jK h (jR h3 502 r0 0) = 21 ∧ (vp_in ((3 * x7) + 2) (jN h (jR h3 502 r0 0)) ∧ (∀ h4, h4 = wI h3 1000 (jR h3 502 r0 0) (Int32.toNatClampNeg ((3 * x7) + 2)) x6 → ((x8 = 0 ∨ x8 = 1) ∧ Q (.int x8) h4)))))))))))))) : jj_WP d mX10_lay 0 0 106 [(0, .ref r0), (3, .int x3), (4, .int x4), (5, .int x5), (6, .int x6), (7, .int x7), (8, .int x8)] [] h Q := j_aload_n dX10_lay_106 rfl 0 rfl (j_getR (f := 501) cls_X10 1 (by decide) fl_X10_8 rfl rfl dX10_lay_107 H.1 (j_iload dX10_lay_110 5 rfl (j_iload_n dX10_lay_112 rfl 1 rfl (j_iast dX10_lay_113 H.2.1 H.2.2.1 (j_aload_n dX10_lay_114 rfl 0 rfl (j_getR (f := 502) cls_X10 2 (by decide) fl_X10_15 rfl rfl dX10_lay_115 H.1 (j_iconst (v := 3) dX10_lay_118 rfl (j_iload dX10_lay_119 5 rfl (j_imul dX10_lay_121 (j_iload dX10_lay_122 2 rfl (j_iast dX10_lay_124 (H.2.2.2 _ rfl).1 (H.2.2.2 _ rfl).2.1 (j_aload_n dX10_lay_125 rfl 0 rfl (j_getR (f := 502) cls_X10 2 (by decide) fl_X10_15 rfl rfl dX10_lay_126 H.1 (j_iconst (v := 3) dX10_lay_129 rfl (j_iload dX10_lay_130 5 rfl (j_imul dX10_lay_132 (j_iconst (v := 1) dX10_lay_133 rfl (j_iadd dX10_lay_134 (j_iload dX10_lay_135 3 rfl (j_iast dX10_lay_137 ((H.2.2.2 _ rfl).2.2 _ rfl).1 ((H.2.2.2 _ rfl).2.2 _ rfl).2.1 (j_aload_n dX10_lay_138 rfl 0 rfl (j_getR (f := 502) cls_X10 2 (by decide) fl_X10_15 rfl rfl dX10_lay_139 H.1 (j_iconst (v := 3) dX10_lay_142 rfl (j_iload dX10_lay_143 5 rfl (j_imul dX10_lay_145 (j_iconst (v := 2) dX10_lay_146 rfl (j_iadd dX10_lay_147 (j_iload dX10_lay_148 4 rfl (j_iast dX10_lay_150 (((H.2.2.2 _ rfl).2.2 _ rfl).2.2 _ rfl).1 (((H.2.2.2 _ rfl).2.2 _ rfl).2.2 _ rfl).2.1 (j_iload dX10_lay_151 6 rfl (j_ret (v := .int x8) ⟨dX10_lay_153, _, rfl, ((((H.2.2.2 _ rfl).2.2 _ rfl).2.2 _ rfl).2.2 _ rfl).1⟩ rfl (((((H.2.2.2 _ rfl).2.2 _ rfl).2.2 _ rfl).2.2 _ rfl).2))))))))))))))))))))))))))))))))
theorem VX10_lay_47 {d : jj_D} {h : jj_H} {Q : Value → jj_H → Prop} (r0 : Nat) (x1 : Int32) (x2 : Int32) (x3 : Int32) (x4 : Int32) (x5 : Int32) (x6 : Int32) (x8 : Int32) (x9 : Int32) (x10 : Int32) (H : (x10 ≤ x9 → jK h r0 = 11 ∧ (jK h (jR h 503 r0 0) = 21 ∧ (vp_in ((3 * x1) + x2) (jN h (jR h 503 r0 0)) ∧ (∀ h2, h2 = wI h 1000 (jR h 503 r0 0) (Int32.toNatClampNeg ((3 * x1) + x2)) ((jI h 1000 (jR h 503 r0 0) (Int32.toNatClampNeg ((3 * x1) + x2))) + 1) → (jj_C mX10_rowAt 0 0 [.ref r0, .int x1, .int x2, .int x9] h2 (fun v4 h3 => jj_vi (fun y5 => jj_WP d mX10_lay 0 0 106 [(0, .ref r0), (3, .int x3), (4, .int x4), (5, .int x5), (6, .int x6), (7, .int y5), (8, .int x8)] [] h3 Q) v4)))))) ∧ (¬ x10 ≤ x9 → jK h r0 = 11 ∧ (jj_C mX10_rowAt 0 0 [.ref r0, .int x1, .int x2, .int (x10 - 1)] h (fun v8 h7 => jj_vi (fun y9 => jK h7 r0 = 11 ∧ (jj_C mX10_rowAt 0 0 [.ref r0, .int x1, .int x2, .int x10] h7 (fun v12 h11 => jj_vi (fun y13 => jK h11 r0 = 11 ∧ (jj_C mX10_copyRow 0 0 [.ref r0, .int y9, .int y13] h11 (fun v16 h15 => jj_WP d mX10_lay 0 0 47 [(0, .ref r0), (1, .int x1), (2, .int x2), (3, .int x3), (4, .int x4), (5, .int x5), (6, .int x6), (8, .int x8), (9, .int x9), (10, .int (x10 + (-1)))] [] h15 Q))) v12))) v8)))) : jj_WP d mX10_lay 0 0 47 [(0, .ref r0), (1, .int x1), (2, .int x2), (3, .int x3), (4, .int x4), (5, .int x5), (6, .int x6), (8, .int x8), (9, .int x9), (10, .int x10)] [] h Q := j_iload dX10_lay_47 9 rfl (j_iload dX10_lay_49 8 rfl (j_icmp_le (tgt := 82) dX10_lay_51 (by decide) (fun c1 => j_aload_n dX10_lay_82 rfl 0 rfl (j_getR (f := 503) cls_X10 3 (by decide) fl_X10_18 rfl rfl dX10_lay_83 (H.1 c1).1 (j_iconst (v := 3) dX10_lay_86 rfl (j_iload_n dX10_lay_87 rfl 1 rfl (j_imul dX10_lay_88 (j_iload_n dX10_lay_89 rfl 2 rfl (j_iadd dX10_lay_90 (j_dup2 dX10_lay_91 rfl rfl (j_iald dX10_lay_92 (H.1 c1).2.1 (H.1 c1).2.2.1 (j_iconst (v := 1) dX10_lay_93 rfl (j_iadd dX10_lay_94 (j_iast dX10_lay_95 (H.1 c1).2.1 (H.1 c1).2.2.1 (j_aload_n dX10_lay_96 rfl 0 rfl (j_iload_n dX10_lay_97 rfl 1 rfl (j_iload_n dX10_lay_98 rfl 2 rfl (j_iload dX10_lay_99 8 rfl (j_callV (cj := 0) (sj := 0) (as := [.int x1, .int x2, .int x9]) cm_X10_rowAt im_X10_rowAt se_X10_rowAt (ci := 10) rfl (by decide) ml_X10_110 ⟨by decide, by decide⟩ dX10_lay_101 rfl rfl (Nat.le_of_ble_eq_true rfl) (H.1 c1).1 (jj_C.mono ((H.1 c1).2.2.2 _ rfl) (fun v4 h3 H6 => jj_vi_e (fun y5 H6 => j_istore (L' := [(7, .int y5), (0, .ref r0), (1, .int x1), (2, .int x2), (3, .int x3), (4, .int x4), (5, .int x5), (6, .int x6), (8, .int x8), (9, .int x9), (10, .int x10)]) dX10_lay_104 (by decide) rfl (j_sub [1, 4, 5, 6, 7, 0, 8] rfl (H6))) H6))))))))))))))))))) (fun c1 => j_aload_n dX10_lay_54 rfl 0 rfl (j_aload_n dX10_lay_55 rfl 0 rfl (j_iload_n dX10_lay_56 rfl 1 rfl (j_iload_n dX10_lay_57 rfl 2 rfl (j_iload dX10_lay_58 9 rfl (j_iconst (v := 1) dX10_lay_60 rfl (j_isub dX10_lay_61 (j_callV (cj := 0) (sj := 0) (as := [.int x1, .int x2, .int (x10 - 1)]) cm_X10_rowAt im_X10_rowAt se_X10_rowAt (ci := 10) rfl (by decide) ml_X10_110 ⟨by decide, by decide⟩ dX10_lay_62 rfl rfl (Nat.le_of_ble_eq_true rfl) (H.2 c1).1 (jj_C.mono (H.2 c1).2 (fun v8 h7 H10 => jj_vi_e (fun y9 H10 => j_aload_n dX10_lay_65 rfl 0 rfl (j_iload_n dX10_lay_66 rfl 1 rfl (j_iload_n dX10_lay_67 rfl 2 rfl (j_iload dX10_lay_68 9 rfl (j_callV (cj := 0) (sj := 0) (as := [.int x1, .int x2, .int x10]) cm_X10_rowAt im_X10_rowAt se_X10_rowAt (ci := 10) rfl (by decide) ml_X10_110 ⟨by decide, by decide⟩ dX10_lay_70 rfl rfl (Nat.le_of_ble_eq_true rfl) H10.1 (jj_C.mono H10.2 (fun v12 h11 H14 => jj_vi_e (fun y13 H14 => j_callV (cj := 0) (sj := 0) (as := [.int y9, .int y13]) cm_X10_copyRow im_X10_copyRow se_X10_copyRow (ci := 10) rfl (by decide) ml_X10_117 ⟨by decide, by decide⟩ dX10_lay_73 rfl rfl (Nat.le_of_ble_eq_true rfl) H14.1 (jj_C.mono H14.2 (fun v16 h15 H17 => j_iinc (v := (x10 + (-1))) (L' := [(10, .int (x10 + (-1))), (0, .ref r0), (1, .int x1), (2, .int x2), (3, .int x3), (4, .int x4), (5, .int x5), (6, .int x6), (8, .int x8), (9, .int x9)]) dX10_lay_76 9 rfl rfl (by decide) rfl (j_goto (tgt := 47) dX10_lay_79 (by decide) (j_sub [1, 2, 3, 4, 5, 6, 7, 8, 9, 0] rfl (H17)))))) H14))))))) H10))))))))))))
