theorem dX10_stored_0 : decode cX10_stored 0 = .ok (.aload_n 0, 1) := by decide +kernel
theorem dX10_stored_1 : decode cX10_stored 1 = .ok (.iconst 0, 1) := by decide +kernel
theorem dX10_stored_2 : decode cX10_stored 2 = .ok (.putfield 103, 3) := by decide +kernel
theorem dX10_stored_5 : decode cX10_stored 5 = .ok (.aload_n 0, 1) := by decide +kernel
theorem dX10_stored_6 : decode cX10_stored 6 = .ok (.aload_n 0, 1) := by decide +kernel
theorem dX10_stored_7 : decode cX10_stored 7 = .ok (.getfield 54, 3) := by decide +kernel
theorem dX10_stored_10 : decode cX10_stored 10 = .ok (.iconst 1, 1) := by decide +kernel
theorem dX10_stored_11 : decode cX10_stored 11 = .ok (.invokevirtual 213, 3) := by decide +kernel
theorem dX10_stored_14 : decode cX10_stored 14 = .ok (.ireturn, 1) := by decide +kernel
theorem EX10_stored {h : jj_H} {Q : Value → jj_H → Prop} (r0 : Nat) (H : ∀ d : jj_D, jK h r0 = 11 ∧ (∀ h1, h1 = wI h 500 r0 0 0 → (jj_C mX10_distinct 0 0 [.ref r0, .long (jL h1 514 r0 0), .int 1] h1 (fun v3 h2 => jj_vi (fun y4 => Q (.int y4) h2) v3)))) : jj_C mX10_stored 0 0 [.ref r0] h Q := j_enter (by decide +kernel) (Nat.le_of_ble_eq_true rfl) rfl fun d => have H := H d; j_aload_n dX10_stored_0 rfl 0 rfl (j_iconst (v := 0) dX10_stored_1 rfl (j_putI (f := 500) cls_X10 0 (by decide) fl_X10_103 rfl rfl rfl (Or.inl rfl) dX10_stored_2 H.1 (j_aload_n dX10_stored_5 rfl 0 rfl (j_aload_n dX10_stored_6 rfl 0 rfl (j_getL (f := 514) cls_X10 14 (by decide) fl_X10_54 rfl rfl dX10_stored_7 H.1 (j_iconst (v := 1) dX10_stored_10 rfl (j_callV0 (as := [.long (jL (wI h 500 r0 0 0) 514 r0 0), .int 1]) cm_X10_distinct im_X10_distinct se_X10_distinct (ci := 10) rfl (by decide) ml_X10_213 ⟨by decide, by decide⟩ dX10_stored_11 rfl rfl (Nat.le_of_ble_eq_true rfl) H.1 (jj_C.mono (H.2 _ rfl) (fun v3 h2 H5 => jj_vi_e (fun y4 H5 => j_ret (v := .int y4) ⟨dX10_stored_14, _, rfl⟩ rfl (H5)) H5)))))))))
theorem dX10_isNumber_0 : decode cX10_isNumber 0 = .ok (.iload_n 0, 1) := by decide +kernel
theorem dX10_isNumber_1 : decode cX10_isNumber 1 = .ok (.ifCond .lt 13, 3) := by decide +kernel
theorem dX10_isNumber_4 : decode cX10_isNumber 4 = .ok (.iload_n 0, 1) := by decide +kernel
theorem dX10_isNumber_5 : decode cX10_isNumber 5 = .ok (.bipush 6, 2) := by decide +kernel
theorem dX10_isNumber_7 : decode cX10_isNumber 7 = .ok (.if_icmp .ge 7, 3) := by decide +kernel
theorem dX10_isNumber_10 : decode cX10_isNumber 10 = .ok (.iconst 1, 1) := by decide +kernel
theorem dX10_isNumber_11 : decode cX10_isNumber 11 = .ok (.goto 4, 3) := by decide +kernel
theorem dX10_isNumber_14 : decode cX10_isNumber 14 = .ok (.iconst 0, 1) := by decide +kernel
theorem dX10_isNumber_15 : decode cX10_isNumber 15 = .ok (.ireturn, 1) := by decide +kernel
theorem EX10_isNumber {h : jj_H} {Q : Value → jj_H → Prop} (x0 : Int32) (H : ∀ d : jj_D, (x0 < 0 → Q (.int 0) h) ∧ (¬ x0 < 0 → (6 ≤ x0 → Q (.int 0) h) ∧ (¬ 6 ≤ x0 → Q (.int 1) h))) : jj_C mX10_isNumber 0 0 [.int x0] h Q := j_enter (by decide +kernel) (Nat.le_of_ble_eq_true rfl) rfl fun d => have H := H d; j_iload_n dX10_isNumber_0 rfl 0 rfl (j_if_lt (tgt := 14) dX10_isNumber_1 (by decide) (fun c1 => j_iconst (v := 0) dX10_isNumber_14 rfl (j_ret (v := .int 0) ⟨dX10_isNumber_15, _, rfl, by decide⟩ rfl ((H.1 c1)))) (fun c1 => j_iload_n dX10_isNumber_4 rfl 0 rfl (j_bipush (v := 6) dX10_isNumber_5 rfl (j_icmp_ge (tgt := 14) dX10_isNumber_7 (by decide) (fun c2 => j_iconst (v := 0) dX10_isNumber_14 rfl (j_ret (v := .int 0) ⟨dX10_isNumber_15, _, rfl, by decide⟩ rfl (((H.2 c1).1 c2)))) (fun c2 => j_iconst (v := 1) dX10_isNumber_10 rfl (j_goto (tgt := 15) dX10_isNumber_11 (by decide) (j_ret (v := .int 1) ⟨dX10_isNumber_15, _, rfl, by decide⟩ rfl (((H.2 c1).2 c2)))))))))
theorem dX10_isBranch_0 : decode cX10_isBranch 0 = .ok (.iload_n 1, 1) := by decide +kernel
theorem dX10_isBranch_1 : decode cX10_isBranch 1 = .ok (.invokestatic 217, 3) := by decide +kernel
theorem dX10_isBranch_4 : decode cX10_isBranch 4 = .ok (.ifCond .eq 17, 3) := by decide +kernel
theorem dX10_isBranch_7 : decode cX10_isBranch 7 = .ok (.aload_n 0, 1) := by decide +kernel
theorem dX10_isBranch_8 : decode cX10_isBranch 8 = .ok (.getfield 67, 3) := by decide +kernel
theorem dX10_isBranch_11 : decode cX10_isBranch 11 = .ok (.iload_n 1, 1) := by decide +kernel
theorem dX10_isBranch_12 : decode cX10_isBranch 12 = .ok (.iaload, 1) := by decide +kernel
theorem dX10_isBranch_13 : decode cX10_isBranch 13 = .ok (.iconst (-1), 1) := by decide +kernel
theorem dX10_isBranch_14 : decode cX10_isBranch 14 = .ok (.if_icmp .eq 7, 3) := by decide +kernel
theorem dX10_isBranch_17 : decode cX10_isBranch 17 = .ok (.iconst 1, 1) := by decide +kernel
theorem dX10_isBranch_18 : decode cX10_isBranch 18 = .ok (.goto 4, 3) := by decide +kernel
theorem dX10_isBranch_21 : decode cX10_isBranch 21 = .ok (.iconst 0, 1) := by decide +kernel
theorem dX10_isBranch_22 : decode cX10_isBranch 22 = .ok (.ireturn, 1) := by decide +kernel
theorem EX10_isBranch {h : jj_H} {Q : Value → jj_H → Prop} (r0 : Nat) (x1 : Int32) (H : ∀ d : jj_D, jj_C mX10_isNumber 0 0 [.int x1] h (fun v2 h1 => jj_vi (fun y3 => (y3 = 0 → Q (.int 0) h1) ∧ (¬ y3 = 0 → jK h1 r0 = 11 ∧ (jK h1 (jR h1 518 r0 0) = 21 ∧ (vp_in x1 (jN h1 (jR h1 518 r0 0)) ∧ (((jI h1 1000 (jR h1 518 r0 0) (Int32.toNatClampNeg x1)) = (-1) → Q (.int 0) h1) ∧ (¬ (jI h1 1000 (jR h1 518 r0 0) (Int32.toNatClampNeg x1)) = (-1) → Q (.int 1) h1)))))) v2)) : jj_C mX10_isBranch 0 0 [.ref r0, .int x1] h Q := j_enter (by decide +kernel) (Nat.le_of_ble_eq_true rfl) rfl fun d => have H := H d; j_iload_n dX10_isBranch_0 rfl 1 rfl (j_callS0 (as := [.int x1]) cm_X10_isNumber sm_X10_isNumber ml_X10_217 ⟨by decide, by decide⟩ dX10_isBranch_1 rfl rfl (Nat.le_of_ble_eq_true rfl) (jj_C.mono H (fun v2 h1 H4 => jj_vi_e (fun y3 H4 => j_if_eq (tgt := 21) dX10_isBranch_4 (by decide) (fun c5 => j_iconst (v := 0) dX10_isBranch_21 rfl (j_ret (v := .int 0) ⟨dX10_isBranch_22, _, rfl, by decide⟩ rfl ((H4.1 c5)))) (fun c5 => j_aload_n dX10_isBranch_7 rfl 0 rfl (j_getR (f := 518) cls_X10 18 (by decide) fl_X10_67 rfl rfl dX10_isBranch_8 (H4.2 c5).1 (j_iload_n dX10_isBranch_11 rfl 1 rfl (j_iald dX10_isBranch_12 (H4.2 c5).2.1 (H4.2 c5).2.2.1 (j_iconst (v := (-1)) dX10_isBranch_13 rfl (j_icmp_eq (tgt := 21) dX10_isBranch_14 (by decide) (fun c6 => j_iconst (v := 0) dX10_isBranch_21 rfl (j_ret (v := .int 0) ⟨dX10_isBranch_22, _, rfl, by decide⟩ rfl (((H4.2 c5).2.2.2.1 c6)))) (fun c6 => j_iconst (v := 1) dX10_isBranch_17 rfl (j_goto (tgt := 22) dX10_isBranch_18 (by decide) (j_ret (v := .int 1) ⟨dX10_isBranch_22, _, rfl, by decide⟩ rfl (((H4.2 c5).2.2.2.2 c6)))))))))))) H4)))
theorem dX10_open_0 : decode cX10_open 0 = .ok (.aload_n 0, 1) := by decide +kernel
theorem dX10_open_1 : decode cX10_open 1 = .ok (.iconst 0, 1) := by decide +kernel
theorem dX10_open_2 : decode cX10_open 2 = .ok (.putfield 103, 3) := by decide +kernel
theorem dX10_open_5 : decode cX10_open 5 = .ok (.iload_n 1, 1) := by decide +kernel
theorem dX10_open_6 : decode cX10_open 6 = .ok (.invokestatic 217, 3) := by decide +kernel
theorem dX10_open_9 : decode cX10_open 9 = .ok (.ifCond .ne 6, 3) := by decide +kernel
theorem dX10_open_12 : decode cX10_open 12 = .ok (.bipush (-5), 2) := by decide +kernel
theorem dX10_open_14 : decode cX10_open 14 = .ok (.ireturn, 1) := by decide +kernel
theorem dX10_open_15 : decode cX10_open 15 = .ok (.aload_n 0, 1) := by decide +kernel
theorem dX10_open_16 : decode cX10_open 16 = .ok (.getfield 168, 3) := by decide +kernel
theorem dX10_open_19 : decode cX10_open 19 = .ok (.ifCond .le 6, 3) := by decide +kernel
theorem dX10_open_22 : decode cX10_open 22 = .ok (.bipush (-3), 2) := by decide +kernel
theorem dX10_open_24 : decode cX10_open 24 = .ok (.ireturn, 1) := by decide +kernel
theorem dX10_open_25 : decode cX10_open 25 = .ok (.aload_n 0, 1) := by decide +kernel
theorem dX10_open_26 : decode cX10_open 26 = .ok (.getfield 67, 3) := by decide +kernel
theorem dX10_open_29 : decode cX10_open 29 = .ok (.iload_n 1, 1) := by decide +kernel
theorem dX10_open_30 : decode cX10_open 30 = .ok (.iaload, 1) := by decide +kernel
theorem dX10_open_31 : decode cX10_open 31 = .ok (.iconst (-1), 1) := by decide +kernel
theorem dX10_open_32 : decode cX10_open 32 = .ok (.if_icmp .eq 5, 3) := by decide +kernel
theorem dX10_open_35 : decode cX10_open 35 = .ok (.iconst (-1), 1) := by decide +kernel
theorem dX10_open_36 : decode cX10_open 36 = .ok (.ireturn, 1) := by decide +kernel
theorem dX10_open_37 : decode cX10_open 37 = .ok (.aload_n 0, 1) := by decide +kernel
theorem dX10_open_38 : decode cX10_open 38 = .ok (.getfield 67, 3) := by decide +kernel
theorem dX10_open_41 : decode cX10_open 41 = .ok (.iload_n 1, 1) := by decide +kernel
theorem dX10_open_42 : decode cX10_open 42 = .ok (.aload_n 0, 1) := by decide +kernel
theorem dX10_open_43 : decode cX10_open 43 = .ok (.getfield 67, 3) := by decide +kernel
theorem dX10_open_46 : decode cX10_open 46 = .ok (.aload_n 0, 1) := by decide +kernel
theorem dX10_open_47 : decode cX10_open 47 = .ok (.getfield 131, 3) := by decide +kernel
theorem dX10_open_50 : decode cX10_open 50 = .ok (.iaload, 1) := by decide +kernel
theorem dX10_open_51 : decode cX10_open 51 = .ok (.iastore, 1) := by decide +kernel
theorem dX10_open_52 : decode cX10_open 52 = .ok (.aload_n 0, 1) := by decide +kernel
theorem dX10_open_53 : decode cX10_open 53 = .ok (.getfield 67, 3) := by decide +kernel
theorem dX10_open_56 : decode cX10_open 56 = .ok (.iload_n 1, 1) := by decide +kernel
theorem dX10_open_57 : decode cX10_open 57 = .ok (.iaload, 1) := by decide +kernel
theorem dX10_open_58 : decode cX10_open 58 = .ok (.ireturn, 1) := by decide +kernel
theorem EX10_open {h : jj_H} {Q : Value → jj_H → Prop} (r0 : Nat) (x1 : Int32) (H : ∀ d : jj_D, jK h r0 = 11 ∧ (∀ h1, h1 = wI h 500 r0 0 0 → (jj_C mX10_isNumber 0 0 [.int x1] h1 (fun v3 h2 => jj_vi (fun y4 => (¬ y4 = 0 → jK h2 r0 = 11 ∧ (((jI h2 520 r0 0) ≤ 0 → jK h2 (jR h2 518 r0 0) = 21 ∧ (vp_in x1 (jN h2 (jR h2 518 r0 0)) ∧ (((jI h2 1000 (jR h2 518 r0 0) (Int32.toNatClampNeg x1)) = (-1) → vp_in (jI h2 519 r0 0) (jN h2 (jR h2 518 r0 0)) ∧ (∀ h9, h9 = wI h2 1000 (jR h2 518 r0 0) (Int32.toNatClampNeg x1) (jI h2 1000 (jR h2 518 r0 0) (Int32.toNatClampNeg (jI h2 519 r0 0))) → (jK h2 (jR h9 518 r0 0) = 21 ∧ (vp_in x1 (jN h2 (jR h9 518 r0 0)) ∧ (Q (.int (jI h9 1000 (jR h9 518 r0 0) (Int32.toNatClampNeg x1))) h9))))) ∧ (¬ (jI h2 1000 (jR h2 518 r0 0) (Int32.toNatClampNeg x1)) = (-1) → Q (.int (-1)) h2)))) ∧ (¬ (jI h2 520 r0 0) ≤ 0 → Q (.int (-3)) h2))) ∧ (y4 = 0 → Q (.int (-5)) h2)) v3)))) : jj_C mX10_open 0 0 [.ref r0, .int x1] h Q := j_enter (by decide +kernel) (Nat.le_of_ble_eq_true rfl) rfl fun d => have H := H d; j_aload_n dX10_open_0 rfl 0 rfl (j_iconst (v := 0) dX10_open_1 rfl (j_putI (f := 500) cls_X10 0 (by decide) fl_X10_103 rfl rfl rfl (Or.inl rfl) dX10_open_2 H.1 (j_iload_n dX10_open_5 rfl 1 rfl (j_callS0 (as := [.int x1]) cm_X10_isNumber sm_X10_isNumber ml_X10_217 ⟨by decide, by decide⟩ dX10_open_6 rfl rfl (Nat.le_of_ble_eq_true rfl) (jj_C.mono (H.2 _ rfl) (fun v3 h2 H5 => jj_vi_e (fun y4 H5 => j_if_ne (tgt := 15) dX10_open_9 (by decide) (fun c6 => j_aload_n dX10_open_15 rfl 0 rfl (j_getI (f := 520) cls_X10 20 (by decide) fl_X10_168 rfl (by decide) dX10_open_16 (H5.1 c6).1 (j_if_le (tgt := 25) dX10_open_19 (by decide) (fun c7 => j_aload_n dX10_open_25 rfl 0 rfl (j_getR (f := 518) cls_X10 18 (by decide) fl_X10_67 rfl rfl dX10_open_26 (H5.1 c6).1 (j_iload_n dX10_open_29 rfl 1 rfl (j_iald dX10_open_30 ((H5.1 c6).2.1 c7).1 ((H5.1 c6).2.1 c7).2.1 (j_iconst (v := (-1)) dX10_open_31 rfl (j_icmp_eq (tgt := 37) dX10_open_32 (by decide) (fun c8 => j_aload_n dX10_open_37 rfl 0 rfl (j_getR (f := 518) cls_X10 18 (by decide) fl_X10_67 rfl rfl dX10_open_38 (H5.1 c6).1 (j_iload_n dX10_open_41 rfl 1 rfl (j_aload_n dX10_open_42 rfl 0 rfl (j_getR (f := 518) cls_X10 18 (by decide) fl_X10_67 rfl rfl dX10_open_43 (H5.1 c6).1 (j_aload_n dX10_open_46 rfl 0 rfl (j_getI (f := 519) cls_X10 19 (by decide) fl_X10_131 rfl (by decide) dX10_open_47 (H5.1 c6).1 (j_iald dX10_open_50 ((H5.1 c6).2.1 c7).1 (((H5.1 c6).2.1 c7).2.2.1 c8).1 (j_iast dX10_open_51 ((H5.1 c6).2.1 c7).1 ((H5.1 c6).2.1 c7).2.1 (j_aload_n dX10_open_52 rfl 0 rfl (j_getR (f := 518) cls_X10 18 (by decide) fl_X10_67 rfl rfl dX10_open_53 (H5.1 c6).1 (j_iload_n dX10_open_56 rfl 1 rfl (j_iald dX10_open_57 ((((H5.1 c6).2.1 c7).2.2.1 c8).2 _ rfl).1 ((((H5.1 c6).2.1 c7).2.2.1 c8).2 _ rfl).2.1 (j_ret (v := .int (jI (wI h2 1000 (jR h2 518 r0 0) (Int32.toNatClampNeg x1) (jI h2 1000 (jR h2 518 r0 0) (Int32.toNatClampNeg (jI h2 519 r0 0)))) 1000 (jR (wI h2 1000 (jR h2 518 r0 0) (Int32.toNatClampNeg x1) (jI h2 1000 (jR h2 518 r0 0) (Int32.toNatClampNeg (jI h2 519 r0 0)))) 518 r0 0) (Int32.toNatClampNeg x1))) ⟨dX10_open_58, _, rfl⟩ rfl (((((H5.1 c6).2.1 c7).2.2.1 c8).2 _ rfl).2.2))))))))))))))) (fun c8 => j_iconst (v := (-1)) dX10_open_35 rfl (j_ret (v := .int (-1)) ⟨dX10_open_36, _, rfl⟩ rfl ((((H5.1 c6).2.1 c7).2.2.2 c8)))))))))) (fun c7 => j_bipush (v := (-3)) dX10_open_22 rfl (j_ret (v := .int (-3)) ⟨dX10_open_24, _, rfl⟩ rfl (((H5.1 c6).2.2 c7))))))) (fun c6 => j_bipush (v := (-5)) dX10_open_12 rfl (j_ret (v := .int (-5)) ⟨dX10_open_14, _, rfl⟩ rfl ((H5.2 c6))))) H5))))))
theorem dX10_go_0 : decode cX10_go 0 = .ok (.aload_n 0, 1) := by decide +kernel
theorem dX10_go_1 : decode cX10_go 1 = .ok (.iconst 0, 1) := by decide +kernel
theorem dX10_go_2 : decode cX10_go 2 = .ok (.putfield 103, 3) := by decide +kernel
theorem dX10_go_5 : decode cX10_go 5 = .ok (.aload_n 0, 1) := by decide +kernel
theorem dX10_go_6 : decode cX10_go 6 = .ok (.iload_n 1, 1) := by decide +kernel
theorem dX10_go_7 : decode cX10_go 7 = .ok (.invokevirtual 220, 3) := by decide +kernel
theorem dX10_go_10 : decode cX10_go 10 = .ok (.ifCond .ne 6, 3) := by decide +kernel
theorem dX10_go_13 : decode cX10_go 13 = .ok (.bipush (-5), 2) := by decide +kernel
theorem dX10_go_15 : decode cX10_go 15 = .ok (.ireturn, 1) := by decide +kernel
theorem dX10_go_16 : decode cX10_go 16 = .ok (.aload_n 0, 1) := by decide +kernel
theorem dX10_go_17 : decode cX10_go 17 = .ok (.getfield 168, 3) := by decide +kernel
theorem dX10_go_20 : decode cX10_go 20 = .ok (.ifCond .le 6, 3) := by decide +kernel
theorem dX10_go_23 : decode cX10_go 23 = .ok (.bipush (-3), 2) := by decide +kernel
theorem dX10_go_25 : decode cX10_go 25 = .ok (.ireturn, 1) := by decide +kernel
theorem dX10_go_26 : decode cX10_go 26 = .ok (.aload_n 0, 1) := by decide +kernel
theorem dX10_go_27 : decode cX10_go 27 = .ok (.invokevirtual 223, 3) := by decide +kernel
theorem dX10_go_30 : decode cX10_go 30 = .ok (.ifCond .ne 6, 3) := by decide +kernel
theorem dX10_go_33 : decode cX10_go 33 = .ok (.bipush (-4), 2) := by decide +kernel
theorem dX10_go_35 : decode cX10_go 35 = .ok (.ireturn, 1) := by decide +kernel
theorem dX10_go_36 : decode cX10_go 36 = .ok (.aload_n 0, 1) := by decide +kernel
theorem dX10_go_37 : decode cX10_go 37 = .ok (.iload_n 1, 1) := by decide +kernel
theorem dX10_go_38 : decode cX10_go 38 = .ok (.putfield 131, 3) := by decide +kernel
theorem dX10_go_41 : decode cX10_go 41 = .ok (.aload_n 0, 1) := by decide +kernel
theorem dX10_go_42 : decode cX10_go 42 = .ok (.aload_n 0, 1) := by decide +kernel
theorem dX10_go_43 : decode cX10_go 43 = .ok (.getfield 67, 3) := by decide +kernel
theorem dX10_go_46 : decode cX10_go 46 = .ok (.iload_n 1, 1) := by decide +kernel
theorem dX10_go_47 : decode cX10_go 47 = .ok (.iaload, 1) := by decide +kernel
theorem dX10_go_48 : decode cX10_go 48 = .ok (.bipush 60, 2) := by decide +kernel
theorem dX10_go_50 : decode cX10_go 50 = .ok (.invokevirtual 227, 3) := by decide +kernel
theorem dX10_go_53 : decode cX10_go 53 = .ok (.aload_n 0, 1) := by decide +kernel
theorem dX10_go_54 : decode cX10_go 54 = .ok (.getfield 67, 3) := by decide +kernel
theorem dX10_go_57 : decode cX10_go 57 = .ok (.iload_n 1, 1) := by decide +kernel
theorem dX10_go_58 : decode cX10_go 58 = .ok (.iaload, 1) := by decide +kernel
theorem dX10_go_59 : decode cX10_go 59 = .ok (.ireturn, 1) := by decide +kernel
theorem EX10_go {h : jj_H} {Q : Value → jj_H → Prop} (r0 : Nat) (x1 : Int32) (H : ∀ d : jj_D, jK h r0 = 11 ∧ (∀ h1, h1 = wI h 500 r0 0 0 → (jj_C mX10_isBranch 0 0 [.ref r0, .int x1] h1 (fun v3 h2 => jj_vi (fun y4 => (¬ y4 = 0 → jK h2 r0 = 11 ∧ (((jI h2 520 r0 0) ≤ 0 → jj_C mX10_isClean 0 0 [.ref r0] h2 (fun v9 h8 => jj_vi (fun y10 => (¬ y10 = 0 → jK h8 r0 = 11 ∧ (∀ h13, h13 = wI h8 519 r0 0 x1 → (jK h8 (jR h13 518 r0 0) = 21 ∧ (vp_in x1 (jN h8 (jR h13 518 r0 0)) ∧ (jj_C mX10_copy 0 0 [.ref r0, .int (jI h13 1000 (jR h13 518 r0 0) (Int32.toNatClampNeg x1)), .int 60] h13 (fun v15 h14 => jK h14 r0 = 11 ∧ (jK h14 (jR h14 518 r0 0) = 21 ∧ (vp_in x1 (jN h14 (jR h14 518 r0 0)) ∧ (Q (.int (jI h14 1000 (jR h14 518 r0 0) (Int32.toNatClampNeg x1))) h14))))))))) ∧ (y10 = 0 → Q (.int (-4)) h8)) v9)) ∧ (¬ (jI h2 520 r0 0) ≤ 0 → Q (.int (-3)) h2))) ∧ (y4 = 0 → Q (.int (-5)) h2)) v3)))) : jj_C mX10_go 0 0 [.ref r0, .int x1] h Q := j_enter (by decide +kernel) (Nat.le_of_ble_eq_true rfl) rfl fun d => have H := H d; j_aload_n dX10_go_0 rfl 0 rfl (j_iconst (v := 0) dX10_go_1 rfl (j_putI (f := 500) cls_X10 0 (by decide) fl_X10_103 rfl rfl rfl (Or.inl rfl) dX10_go_2 H.1 (j_aload_n dX10_go_5 rfl 0 rfl (j_iload_n dX10_go_6 rfl 1 rfl (j_callV0 (as := [.int x1]) cm_X10_isBranch im_X10_isBranch se_X10_isBranch (ci := 10) rfl (by decide) ml_X10_220 ⟨by decide, by decide⟩ dX10_go_7 rfl rfl (Nat.le_of_ble_eq_true rfl) H.1 (jj_C.mono (H.2 _ rfl) (fun v3 h2 H5 => jj_vi_e (fun y4 H5 => j_if_ne (tgt := 16) dX10_go_10 (by decide) (fun c6 => j_aload_n dX10_go_16 rfl 0 rfl (j_getI (f := 520) cls_X10 20 (by decide) fl_X10_168 rfl (by decide) dX10_go_17 (H5.1 c6).1 (j_if_le (tgt := 26) dX10_go_20 (by decide) (fun c7 => j_aload_n dX10_go_26 rfl 0 rfl (j_callV0 (as := []) cm_X10_isClean im_X10_isClean se_X10_isClean (ci := 10) rfl (by decide) ml_X10_223 ⟨by decide, by decide⟩ dX10_go_27 rfl rfl (Nat.le_of_ble_eq_true rfl) (H5.1 c6).1 (jj_C.mono ((H5.1 c6).2.1 c7) (fun v9 h8 H11 => jj_vi_e (fun y10 H11 => j_if_ne (tgt := 36) dX10_go_30 (by decide) (fun c12 => j_aload_n dX10_go_36 rfl 0 rfl (j_iload_n dX10_go_37 rfl 1 rfl (j_putI (f := 519) cls_X10 19 (by decide) fl_X10_131 rfl rfl rfl (Or.inl rfl) dX10_go_38 (H11.1 c12).1 (j_aload_n dX10_go_41 rfl 0 rfl (j_aload_n dX10_go_42 rfl 0 rfl (j_getR (f := 518) cls_X10 18 (by decide) fl_X10_67 rfl rfl dX10_go_43 (H11.1 c12).1 (j_iload_n dX10_go_46 rfl 1 rfl (j_iald dX10_go_47 ((H11.1 c12).2 _ rfl).1 ((H11.1 c12).2 _ rfl).2.1 (j_bipush (v := 60) dX10_go_48 rfl (j_callV0 (as := [.int (jI (wI h8 519 r0 0 x1) 1000 (jR (wI h8 519 r0 0 x1) 518 r0 0) (Int32.toNatClampNeg x1)), .int 60]) cm_X10_copy im_X10_copy se_X10_copy (ci := 10) rfl (by decide) ml_X10_227 ⟨by decide, by decide⟩ dX10_go_50 rfl rfl (Nat.le_of_ble_eq_true rfl) (H11.1 c12).1 (jj_C.mono ((H11.1 c12).2 _ rfl).2.2 (fun v15 h14 H16 => j_aload_n dX10_go_53 rfl 0 rfl (j_getR (f := 518) cls_X10 18 (by decide) fl_X10_67 rfl rfl dX10_go_54 H16.1 (j_iload_n dX10_go_57 rfl 1 rfl (j_iald dX10_go_58 H16.2.1 H16.2.2.1 (j_ret (v := .int (jI h14 1000 (jR h14 518 r0 0) (Int32.toNatClampNeg x1))) ⟨dX10_go_59, _, rfl⟩ rfl (H16.2.2.2))))))))))))))))) (fun c12 => j_bipush (v := (-4)) dX10_go_33 rfl (j_ret (v := .int (-4)) ⟨dX10_go_35, _, rfl⟩ rfl ((H11.2 c12))))) H11)))) (fun c7 => j_bipush (v := (-3)) dX10_go_23 rfl (j_ret (v := .int (-3)) ⟨dX10_go_25, _, rfl⟩ rfl (((H5.1 c6).2.2 c7))))))) (fun c6 => j_bipush (v := (-5)) dX10_go_13 rfl (j_ret (v := .int (-5)) ⟨dX10_go_15, _, rfl⟩ rfl ((H5.2 c6))))) H5)))))))
theorem dX10_close_0 : decode cX10_close 0 = .ok (.aload_n 0, 1) := by decide +kernel
theorem dX10_close_1 : decode cX10_close 1 = .ok (.iconst 0, 1) := by decide +kernel
theorem dX10_close_2 : decode cX10_close 2 = .ok (.putfield 103, 3) := by decide +kernel
theorem dX10_close_5 : decode cX10_close 5 = .ok (.aload_n 0, 1) := by decide +kernel
theorem dX10_close_6 : decode cX10_close 6 = .ok (.iload_n 1, 1) := by decide +kernel
theorem dX10_close_7 : decode cX10_close 7 = .ok (.invokevirtual 220, 3) := by decide +kernel
theorem dX10_close_10 : decode cX10_close 10 = .ok (.ifCond .eq 11, 3) := by decide +kernel
theorem dX10_close_13 : decode cX10_close 13 = .ok (.iload_n 1, 1) := by decide +kernel
theorem dX10_close_14 : decode cX10_close 14 = .ok (.aload_n 0, 1) := by decide +kernel
theorem dX10_close_15 : decode cX10_close 15 = .ok (.getfield 131, 3) := by decide +kernel
theorem dX10_close_18 : decode cX10_close 18 = .ok (.if_icmp .ne 6, 3) := by decide +kernel
theorem dX10_close_21 : decode cX10_close 21 = .ok (.bipush (-5), 2) := by decide +kernel
theorem dX10_close_23 : decode cX10_close 23 = .ok (.ireturn, 1) := by decide +kernel
theorem dX10_close_24 : decode cX10_close 24 = .ok (.aload_n 0, 1) := by decide +kernel
theorem dX10_close_25 : decode cX10_close 25 = .ok (.getfield 67, 3) := by decide +kernel
theorem dX10_close_28 : decode cX10_close 28 = .ok (.iload_n 1, 1) := by decide +kernel
theorem dX10_close_29 : decode cX10_close 29 = .ok (.iaload, 1) := by decide +kernel
theorem dX10_close_30 : decode cX10_close 30 = .ok (.istore_n 2, 1) := by decide +kernel
theorem dX10_close_31 : decode cX10_close 31 = .ok (.aload_n 0, 1) := by decide +kernel
theorem dX10_close_32 : decode cX10_close 32 = .ok (.getfield 67, 3) := by decide +kernel
theorem dX10_close_35 : decode cX10_close 35 = .ok (.iload_n 1, 1) := by decide +kernel
theorem dX10_close_36 : decode cX10_close 36 = .ok (.iconst (-1), 1) := by decide +kernel
theorem dX10_close_37 : decode cX10_close 37 = .ok (.iastore, 1) := by decide +kernel
theorem dX10_close_38 : decode cX10_close 38 = .ok (.iload_n 2, 1) := by decide +kernel
theorem dX10_close_39 : decode cX10_close 39 = .ok (.ireturn, 1) := by decide +kernel
theorem EX10_close {h : jj_H} {Q : Value → jj_H → Prop} (r0 : Nat) (x1 : Int32) (H : ∀ d : jj_D, jK h r0 = 11 ∧ (∀ h1, h1 = wI h 500 r0 0 0 → (jj_C mX10_isBranch 0 0 [.ref r0, .int x1] h1 (fun v3 h2 => jj_vi (fun y4 => (y4 = 0 → Q (.int (-5)) h2) ∧ (¬ y4 = 0 → jK h2 r0 = 11 ∧ ((¬ x1 = (jI h2 519 r0 0) → jK h2 (jR h2 518 r0 0) = 21 ∧ (vp_in x1 (jN h2 (jR h2 518 r0 0)) ∧ (∀ h8, h8 = wI h2 1000 (jR h2 518 r0 0) (Int32.toNatClampNeg x1) (-1) → (Q (.int (jI h2 1000 (jR h2 518 r0 0) (Int32.toNatClampNeg x1))) h8)))) ∧ (x1 = (jI h2 519 r0 0) → Q (.int (-5)) h2)))) v3)))) : jj_C mX10_close 0 0 [.ref r0, .int x1] h Q := j_enter (by decide +kernel) (Nat.le_of_ble_eq_true rfl) rfl fun d => have H := H d; j_aload_n dX10_close_0 rfl 0 rfl (j_iconst (v := 0) dX10_close_1 rfl (j_putI (f := 500) cls_X10 0 (by decide) fl_X10_103 rfl rfl rfl (Or.inl rfl) dX10_close_2 H.1 (j_aload_n dX10_close_5 rfl 0 rfl (j_iload_n dX10_close_6 rfl 1 rfl (j_callV0 (as := [.int x1]) cm_X10_isBranch im_X10_isBranch se_X10_isBranch (ci := 10) rfl (by decide) ml_X10_220 ⟨by decide, by decide⟩ dX10_close_7 rfl rfl (Nat.le_of_ble_eq_true rfl) H.1 (jj_C.mono (H.2 _ rfl) (fun v3 h2 H5 => jj_vi_e (fun y4 H5 => j_if_eq (tgt := 21) dX10_close_10 (by decide) (fun c6 => j_bipush (v := (-5)) dX10_close_21 rfl (j_ret (v := .int (-5)) ⟨dX10_close_23, _, rfl⟩ rfl ((H5.1 c6)))) (fun c6 => j_iload_n dX10_close_13 rfl 1 rfl (j_aload_n dX10_close_14 rfl 0 rfl (j_getI (f := 519) cls_X10 19 (by decide) fl_X10_131 rfl (by decide) dX10_close_15 (H5.2 c6).1 (j_icmp_ne (tgt := 24) dX10_close_18 (by decide) (fun c7 => j_aload_n dX10_close_24 rfl 0 rfl (j_getR (f := 518) cls_X10 18 (by decide) fl_X10_67 rfl rfl dX10_close_25 (H5.2 c6).1 (j_iload_n dX10_close_28 rfl 1 rfl (j_iald dX10_close_29 ((H5.2 c6).2.1 c7).1 ((H5.2 c6).2.1 c7).2.1 (j_istore_n (L' := [(2, .int (jI h2 1000 (jR h2 518 r0 0) (Int32.toNatClampNeg x1))), (0, .ref r0), (1, .int x1)]) dX10_close_30 rfl (by decide) rfl (j_aload_n dX10_close_31 rfl 1 rfl (j_getR (f := 518) cls_X10 18 (by decide) fl_X10_67 rfl rfl dX10_close_32 (H5.2 c6).1 (j_iload_n dX10_close_35 rfl 2 rfl (j_iconst (v := (-1)) dX10_close_36 rfl (j_iast dX10_close_37 ((H5.2 c6).2.1 c7).1 ((H5.2 c6).2.1 c7).2.1 (j_iload_n dX10_close_38 rfl 0 rfl (j_ret (v := .int (jI h2 1000 (jR h2 518 r0 0) (Int32.toNatClampNeg x1))) ⟨dX10_close_39, _, rfl⟩ rfl ((((H5.2 c6).2.1 c7).2.2 _ rfl)))))))))))))) (fun c7 => j_bipush (v := (-5)) dX10_close_21 rfl (j_ret (v := .int (-5)) ⟨dX10_close_23, _, rfl⟩ rfl (((H5.2 c6).2.2 c7))))))))) H5)))))))
theorem dX10_head_0 : decode cX10_head 0 = .ok (.aload_n 0, 1) := by decide +kernel
theorem dX10_head_1 : decode cX10_head 1 = .ok (.iconst 0, 1) := by decide +kernel
theorem dX10_head_2 : decode cX10_head 2 = .ok (.putfield 103, 3) := by decide +kernel
theorem dX10_head_5 : decode cX10_head 5 = .ok (.aload_n 0, 1) := by decide +kernel
theorem dX10_head_6 : decode cX10_head 6 = .ok (.iload_n 1, 1) := by decide +kernel
theorem dX10_head_7 : decode cX10_head 7 = .ok (.invokevirtual 220, 3) := by decide +kernel
theorem dX10_head_10 : decode cX10_head 10 = .ok (.ifCond .eq 12, 3) := by decide +kernel
theorem dX10_head_13 : decode cX10_head 13 = .ok (.aload_n 0, 1) := by decide +kernel
theorem dX10_head_14 : decode cX10_head 14 = .ok (.getfield 67, 3) := by decide +kernel
theorem dX10_head_17 : decode cX10_head 17 = .ok (.iload_n 1, 1) := by decide +kernel
theorem dX10_head_18 : decode cX10_head 18 = .ok (.iaload, 1) := by decide +kernel
theorem dX10_head_19 : decode cX10_head 19 = .ok (.goto 5, 3) := by decide +kernel
theorem dX10_head_22 : decode cX10_head 22 = .ok (.bipush (-5), 2) := by decide +kernel
theorem dX10_head_24 : decode cX10_head 24 = .ok (.ireturn, 1) := by decide +kernel
theorem EX10_head {h : jj_H} {Q : Value → jj_H → Prop} (r0 : Nat) (x1 : Int32) (H : ∀ d : jj_D, jK h r0 = 11 ∧ (∀ h1, h1 = wI h 500 r0 0 0 → (jj_C mX10_isBranch 0 0 [.ref r0, .int x1] h1 (fun v3 h2 => jj_vi (fun y4 => (y4 = 0 → Q (.int (-5)) h2) ∧ (¬ y4 = 0 → jK h2 r0 = 11 ∧ (jK h2 (jR h2 518 r0 0) = 21 ∧ (vp_in x1 (jN h2 (jR h2 518 r0 0)) ∧ (Q (.int (jI h2 1000 (jR h2 518 r0 0) (Int32.toNatClampNeg x1))) h2))))) v3)))) : jj_C mX10_head 0 0 [.ref r0, .int x1] h Q := j_enter (by decide +kernel) (Nat.le_of_ble_eq_true rfl) rfl fun d => have H := H d; j_aload_n dX10_head_0 rfl 0 rfl (j_iconst (v := 0) dX10_head_1 rfl (j_putI (f := 500) cls_X10 0 (by decide) fl_X10_103 rfl rfl rfl (Or.inl rfl) dX10_head_2 H.1 (j_aload_n dX10_head_5 rfl 0 rfl (j_iload_n dX10_head_6 rfl 1 rfl (j_callV0 (as := [.int x1]) cm_X10_isBranch im_X10_isBranch se_X10_isBranch (ci := 10) rfl (by decide) ml_X10_220 ⟨by decide, by decide⟩ dX10_head_7 rfl rfl (Nat.le_of_ble_eq_true rfl) H.1 (jj_C.mono (H.2 _ rfl) (fun v3 h2 H5 => jj_vi_e (fun y4 H5 => j_if_eq (tgt := 22) dX10_head_10 (by decide) (fun c6 => j_bipush (v := (-5)) dX10_head_22 rfl (j_ret (v := .int (-5)) ⟨dX10_head_24, _, rfl⟩ rfl ((H5.1 c6)))) (fun c6 => j_aload_n dX10_head_13 rfl 0 rfl (j_getR (f := 518) cls_X10 18 (by decide) fl_X10_67 rfl rfl dX10_head_14 (H5.2 c6).1 (j_iload_n dX10_head_17 rfl 1 rfl (j_iald dX10_head_18 (H5.2 c6).2.1 (H5.2 c6).2.2.1 (j_goto (tgt := 24) dX10_head_19 (by decide) (j_ret (v := .int (jI h2 1000 (jR h2 518 r0 0) (Int32.toNatClampNeg x1))) ⟨dX10_head_24, _, rfl⟩ rfl ((H5.2 c6).2.2.2)))))))) H5)))))))
theorem dX10_openConflicts_0 : decode cX10_openConflicts 0 = .ok (.iconst 0, 1) := by decide +kernel
theorem dX10_openConflicts_1 : decode cX10_openConflicts 1 = .ok (.istore_n 1, 1) := by decide +kernel
theorem dX10_openConflicts_2 : decode cX10_openConflicts 2 = .ok (.iconst 0, 1) := by decide +kernel
theorem dX10_openConflicts_3 : decode cX10_openConflicts 3 = .ok (.istore_n 2, 1) := by decide +kernel
theorem dX10_openConflicts_4 : decode cX10_openConflicts 4 = .ok (.iload_n 2, 1) := by decide +kernel
theorem dX10_openConflicts_5 : decode cX10_openConflicts 5 = .ok (.aload_n 0, 1) := by decide +kernel
theorem dX10_openConflicts_6 : decode cX10_openConflicts 6 = .ok (.getfield 230, 3) := by decide +kernel
theorem dX10_openConflicts_9 : decode cX10_openConflicts 9 = .ok (.if_icmp .ge 26, 3) := by decide +kernel
theorem dX10_openConflicts_12 : decode cX10_openConflicts 12 = .ok (.iload_n 1, 1) := by decide +kernel
theorem dX10_openConflicts_13 : decode cX10_openConflicts 13 = .ok (.aload_n 0, 1) := by decide +kernel
theorem dX10_openConflicts_14 : decode cX10_openConflicts 14 = .ok (.getfield 76, 3) := by decide +kernel
theorem dX10_openConflicts_17 : decode cX10_openConflicts 17 = .ok (.iload_n 2, 1) := by decide +kernel
theorem dX10_openConflicts_18 : decode cX10_openConflicts 18 = .ok (.baload, 1) := by decide +kernel
theorem dX10_openConflicts_19 : decode cX10_openConflicts 19 = .ok (.ifCond .eq 7, 3) := by decide +kernel
theorem dX10_openConflicts_22 : decode cX10_openConflicts 22 = .ok (.iconst 1, 1) := by decide +kernel
theorem dX10_openConflicts_23 : decode cX10_openConflicts 23 = .ok (.goto 4, 3) := by decide +kernel
theorem dX10_openConflicts_26 : decode cX10_openConflicts 26 = .ok (.iconst 0, 1) := by decide +kernel
theorem dX10_openConflicts_27 : decode cX10_openConflicts 27 = .ok (.iadd, 1) := by decide +kernel
theorem dX10_openConflicts_28 : decode cX10_openConflicts 28 = .ok (.istore_n 1, 1) := by decide +kernel
theorem dX10_openConflicts_29 : decode cX10_openConflicts 29 = .ok (.iinc 2 1, 3) := by decide +kernel
theorem dX10_openConflicts_32 : decode cX10_openConflicts 32 = .ok (.goto (-28), 3) := by decide +kernel
theorem dX10_openConflicts_35 : decode cX10_openConflicts 35 = .ok (.iload_n 1, 1) := by decide +kernel
theorem dX10_openConflicts_36 : decode cX10_openConflicts 36 = .ok (.ireturn, 1) := by decide +kernel
theorem EX10_openConflicts {h : jj_H} {Q : Value → jj_H → Prop} (r0 : Nat) (H : ∀ d : jj_D, jj_WP d mX10_openConflicts 0 0 4 [(0, .ref r0), (1, .int 0), (2, .int 0)] [] h Q) : jj_C mX10_openConflicts 0 0 [.ref r0] h Q := j_enter (by decide +kernel) (Nat.le_of_ble_eq_true rfl) rfl fun d => have H := H d; j_iconst (v := 0) dX10_openConflicts_0 rfl (j_istore_n (L' := [(1, .int 0), (0, .ref r0)]) dX10_openConflicts_1 rfl (by decide) rfl (j_iconst (v := 0) dX10_openConflicts_2 rfl (j_istore_n (L' := [(2, .int 0), (1, .int 0), (0, .ref r0)]) dX10_openConflicts_3 rfl (by decide) rfl (j_sub [2, 1, 0] rfl (H)))))
theorem VX10_openConflicts_4 {d : jj_D} {h : jj_H} {Q : Value → jj_H → Prop} (r0 : Nat) (x1 : Int32) (x2 : Int32) (H : jK h r0 = 11 ∧ (((jI h 523 r0 0) ≤ x2 → Q (.int x1) h) ∧ (¬ (jI h 523 r0 0) ≤ x2 → jK h (jR h 526 r0 0) = 23 ∧ (vp_in x2 (jN h (jR h 526 r0 0)) ∧ (((jI h 1000 (jR h 526 r0 0) (Int32.toNatClampNeg x2)) = 0 → jj_WP d mX10_openConflicts 0 0 4 [(0, .ref r0), (1, .int (x1 + 0)), (2, .int (x2 + 1))] [] h Q) ∧ (¬ (jI h 1000 (jR h 526 r0 0) (Int32.toNatClampNeg x2)) = 0 → jj_WP d mX10_openConflicts 0 0 4 [(0, .ref r0), (1, .int (x1 + 1)), (2, .int (x2 + 1))] [] h Q)))))) : jj_WP d mX10_openConflicts 0 0 4 [(0, .ref r0), (1, .int x1), (2, .int x2)] [] h Q := j_iload_n dX10_openConflicts_4 rfl 2 rfl (j_aload_n dX10_openConflicts_5 rfl 0 rfl (j_getI (f := 523) cls_X10 23 (by decide) fl_X10_230 rfl (by decide) dX10_openConflicts_6 H.1 (j_icmp_ge (tgt := 35) dX10_openConflicts_9 (by decide) (fun c1 => j_iload_n dX10_openConflicts_35 rfl 1 rfl (j_ret (v := .int x1) ⟨dX10_openConflicts_36, _, rfl⟩ rfl ((H.2.1 c1)))) (fun c1 => j_iload_n dX10_openConflicts_12 rfl 1 rfl (j_aload_n dX10_openConflicts_13 rfl 0 rfl (j_getR (f := 526) cls_X10 26 (by decide) fl_X10_76 rfl rfl dX10_openConflicts_14 H.1 (j_iload_n dX10_openConflicts_17 rfl 2 rfl (j_zald dX10_openConflicts_18 (H.2.2 c1).1 (H.2.2 c1).2.1 (j_if_eq (tgt := 26) dX10_openConflicts_19 (by decide) (fun c2 => j_iconst (v := 0) dX10_openConflicts_26 rfl (j_iadd dX10_openConflicts_27 (j_istore_n (L' := [(1, .int (x1 + 0)), (0, .ref r0), (2, .int x2)]) dX10_openConflicts_28 rfl (by decide) rfl (j_iinc (v := (x2 + 1)) (L' := [(2, .int (x2 + 1)), (1, .int (x1 + 0)), (0, .ref r0)]) dX10_openConflicts_29 2 rfl rfl (by decide) rfl (j_goto (tgt := 4) dX10_openConflicts_32 (by decide) (j_sub [2, 1, 0] rfl (((H.2.2 c1).2.2.1 c2)))))))) (fun c2 => j_iconst (v := 1) dX10_openConflicts_22 rfl (j_goto (tgt := 27) dX10_openConflicts_23 (by decide) (j_iadd dX10_openConflicts_27 (j_istore_n (L' := [(1, .int (x1 + 1)), (0, .ref r0), (2, .int x2)]) dX10_openConflicts_28 rfl (by decide) rfl (j_iinc (v := (x2 + 1)) (L' := [(2, .int (x2 + 1)), (1, .int (x1 + 1)), (0, .ref r0)]) dX10_openConflicts_29 2 rfl rfl (by decide) rfl (j_goto (tgt := 4) dX10_openConflicts_32 (by decide) (j_sub [2, 1, 0] rfl (((H.2.2 c1).2.2.2 c2))))))))))))))))))
theorem dX10_over_0 : decode cX10_over 0 = .ok (.aload_n 0, 1) := by decide +kernel
theorem dX10_over_1 : decode cX10_over 1 = .ok (.iconst 0, 1) := by decide +kernel
theorem dX10_over_2 : decode cX10_over 2 = .ok (.putfield 168, 3) := by decide +kernel
theorem dX10_over_5 : decode cX10_over 5 = .ok (.aload_n 0, 1) := by decide +kernel
theorem dX10_over_6 : decode cX10_over 6 = .ok (.iconst 0, 1) := by decide +kernel
theorem dX10_over_7 : decode cX10_over 7 = .ok (.putfield 230, 3) := by decide +kernel
theorem dX10_over_10 : decode cX10_over 10 = .ok (.return_, 1) := by decide +kernel
theorem EX10_over {h : jj_H} {Q : Value → jj_H → Prop} (r0 : Nat) (H : ∀ d : jj_D, jK h r0 = 11 ∧ (∀ h1, h1 = wI h 520 r0 0 0 → (∀ h2, h2 = wI h1 523 r0 0 0 → (Q (.int 0) h2)))) : jj_C mX10_over 0 0 [.ref r0] h Q := j_enter (by decide +kernel) (Nat.le_of_ble_eq_true rfl) rfl fun d => have H := H d; j_aload_n dX10_over_0 rfl 0 rfl (j_iconst (v := 0) dX10_over_1 rfl (j_putI (f := 520) cls_X10 20 (by decide) fl_X10_168 rfl rfl rfl (Or.inl rfl) dX10_over_2 H.1 (j_aload_n dX10_over_5 rfl 0 rfl (j_iconst (v := 0) dX10_over_6 rfl (j_putI (f := 523) cls_X10 23 (by decide) fl_X10_230 rfl rfl rfl (Or.inl rfl) dX10_over_7 H.1 (j_ret (v := .int 0) dX10_over_10 rfl (((H.2 _ rfl) _ rfl))))))))
theorem dX10_commit_0 : decode cX10_commit 0 = .ok (.aload_n 0, 1) := by decide +kernel
theorem dX10_commit_1 : decode cX10_commit 1 = .ok (.iconst 0, 1) := by decide +kernel
theorem dX10_commit_2 : decode cX10_commit 2 = .ok (.putfield 103, 3) := by decide +kernel
theorem dX10_commit_5 : decode cX10_commit 5 = .ok (.aload_n 0, 1) := by decide +kernel
theorem dX10_commit_6 : decode cX10_commit 6 = .ok (.invokevirtual 233, 3) := by decide +kernel
theorem dX10_commit_9 : decode cX10_commit 9 = .ok (.ifCond .le 6, 3) := by decide +kernel
theorem dX10_commit_12 : decode cX10_commit 12 = .ok (.bipush (-3), 2) := by decide +kernel
theorem dX10_commit_14 : decode cX10_commit 14 = .ok (.ireturn, 1) := by decide +kernel
theorem dX10_commit_15 : decode cX10_commit 15 = .ok (.aload_n 0, 1) := by decide +kernel
theorem dX10_commit_16 : decode cX10_commit 16 = .ok (.getfield 168, 3) := by decide +kernel
theorem dX10_commit_19 : decode cX10_commit 19 = .ok (.ifCond .ne 12, 3) := by decide +kernel
theorem dX10_commit_22 : decode cX10_commit 22 = .ok (.aload_n 0, 1) := by decide +kernel
theorem dX10_commit_23 : decode cX10_commit 23 = .ok (.invokevirtual 223, 3) := by decide +kernel
theorem dX10_commit_26 : decode cX10_commit 26 = .ok (.ifCond .eq 5, 3) := by decide +kernel
theorem dX10_commit_29 : decode cX10_commit 29 = .ok (.iconst (-1), 1) := by decide +kernel
theorem dX10_commit_30 : decode cX10_commit 30 = .ok (.ireturn, 1) := by decide +kernel
theorem dX10_commit_31 : decode cX10_commit 31 = .ok (.aload_n 0, 1) := by decide +kernel
theorem dX10_commit_32 : decode cX10_commit 32 = .ok (.getfield 50, 3) := by decide +kernel
theorem dX10_commit_35 : decode cX10_commit 35 = .ok (.bipush 60, 2) := by decide +kernel
theorem dX10_commit_37 : decode cX10_commit 37 = .ok (.if_icmp .ne 6, 3) := by decide +kernel
theorem dX10_commit_40 : decode cX10_commit 40 = .ok (.bipush (-2), 2) := by decide +kernel
theorem dX10_commit_42 : decode cX10_commit 42 = .ok (.ireturn, 1) := by decide +kernel
theorem dX10_commit_43 : decode cX10_commit 43 = .ok (.aload_n 0, 1) := by decide +kernel
theorem dX10_commit_44 : decode cX10_commit 44 = .ok (.getfield 50, 3) := by decide +kernel
theorem dX10_commit_47 : decode cX10_commit 47 = .ok (.istore_n 1, 1) := by decide +kernel
theorem dX10_commit_48 : decode cX10_commit 48 = .ok (.aload_n 0, 1) := by decide +kernel
theorem dX10_commit_49 : decode cX10_commit 49 = .ok (.dup, 1) := by decide +kernel
theorem dX10_commit_50 : decode cX10_commit 50 = .ok (.getfield 50, 3) := by decide +kernel
theorem dX10_commit_53 : decode cX10_commit 53 = .ok (.iconst 1, 1) := by decide +kernel
theorem dX10_commit_54 : decode cX10_commit 54 = .ok (.iadd, 1) := by decide +kernel
theorem dX10_commit_55 : decode cX10_commit 55 = .ok (.putfield 50, 3) := by decide +kernel
theorem dX10_commit_58 : decode cX10_commit 58 = .ok (.aload_n 0, 1) := by decide +kernel
theorem dX10_commit_59 : decode cX10_commit 59 = .ok (.dup, 1) := by decide +kernel
theorem dX10_commit_60 : decode cX10_commit 60 = .ok (.getfield 54, 3) := by decide +kernel
theorem dX10_commit_63 : decode cX10_commit 63 = .ok (.lconst 1, 1) := by decide +kernel
theorem dX10_commit_64 : decode cX10_commit 64 = .ok (.iload_n 1, 1) := by decide +kernel
theorem dX10_commit_65 : decode cX10_commit 65 = .ok (.lshl, 1) := by decide +kernel
theorem dX10_commit_66 : decode cX10_commit 66 = .ok (.lor, 1) := by decide +kernel
theorem dX10_commit_67 : decode cX10_commit 67 = .ok (.putfield 54, 3) := by decide +kernel
theorem dX10_commit_70 : decode cX10_commit 70 = .ok (.aload_n 0, 1) := by decide +kernel
theorem dX10_commit_71 : decode cX10_commit 71 = .ok (.getfield 58, 3) := by decide +kernel
theorem dX10_commit_74 : decode cX10_commit 74 = .ok (.iload_n 1, 1) := by decide +kernel
theorem dX10_commit_75 : decode cX10_commit 75 = .ok (.aload_n 0, 1) := by decide +kernel
theorem dX10_commit_76 : decode cX10_commit 76 = .ok (.getfield 67, 3) := by decide +kernel
theorem dX10_commit_79 : decode cX10_commit 79 = .ok (.aload_n 0, 1) := by decide +kernel
theorem dX10_commit_80 : decode cX10_commit 80 = .ok (.getfield 131, 3) := by decide +kernel
theorem dX10_commit_83 : decode cX10_commit 83 = .ok (.iaload, 1) := by decide +kernel
theorem dX10_commit_84 : decode cX10_commit 84 = .ok (.iastore, 1) := by decide +kernel
theorem dX10_commit_85 : decode cX10_commit 85 = .ok (.aload_n 0, 1) := by decide +kernel
theorem dX10_commit_86 : decode cX10_commit 86 = .ok (.getfield 61, 3) := by decide +kernel
theorem dX10_commit_89 : decode cX10_commit 89 = .ok (.iload_n 1, 1) := by decide +kernel
theorem dX10_commit_90 : decode cX10_commit 90 = .ok (.aload_n 0, 1) := by decide +kernel
theorem dX10_commit_91 : decode cX10_commit 91 = .ok (.getfield 168, 3) := by decide +kernel
theorem dX10_commit_94 : decode cX10_commit 94 = .ok (.iconst 1, 1) := by decide +kernel
theorem dX10_commit_95 : decode cX10_commit 95 = .ok (.if_icmp .ne 10, 3) := by decide +kernel
theorem dX10_commit_98 : decode cX10_commit 98 = .ok (.aload_n 0, 1) := by decide +kernel
theorem dX10_commit_99 : decode cX10_commit 99 = .ok (.getfield 237, 3) := by decide +kernel
theorem dX10_commit_102 : decode cX10_commit 102 = .ok (.goto 4, 3) := by decide +kernel
theorem dX10_commit_105 : decode cX10_commit 105 = .ok (.iconst (-1), 1) := by decide +kernel
theorem dX10_commit_106 : decode cX10_commit 106 = .ok (.iastore, 1) := by decide +kernel
theorem dX10_commit_107 : decode cX10_commit 107 = .ok (.aload_n 0, 1) := by decide +kernel
theorem dX10_commit_108 : decode cX10_commit 108 = .ok (.getfield 64, 3) := by decide +kernel
theorem dX10_commit_111 : decode cX10_commit 111 = .ok (.iload_n 1, 1) := by decide +kernel
theorem dX10_commit_112 : decode cX10_commit 112 = .ok (.lconst 1, 1) := by decide +kernel
theorem dX10_commit_113 : decode cX10_commit 113 = .ok (.iload_n 1, 1) := by decide +kernel
theorem dX10_commit_114 : decode cX10_commit 114 = .ok (.lshl, 1) := by decide +kernel
theorem dX10_commit_115 : decode cX10_commit 115 = .ok (.aload_n 0, 1) := by decide +kernel
theorem dX10_commit_116 : decode cX10_commit 116 = .ok (.getfield 64, 3) := by decide +kernel
theorem dX10_commit_119 : decode cX10_commit 119 = .ok (.aload_n 0, 1) := by decide +kernel
theorem dX10_commit_120 : decode cX10_commit 120 = .ok (.getfield 67, 3) := by decide +kernel
theorem dX10_commit_123 : decode cX10_commit 123 = .ok (.aload_n 0, 1) := by decide +kernel
theorem dX10_commit_124 : decode cX10_commit 124 = .ok (.getfield 131, 3) := by decide +kernel
theorem dX10_commit_127 : decode cX10_commit 127 = .ok (.iaload, 1) := by decide +kernel
theorem dX10_commit_128 : decode cX10_commit 128 = .ok (.laload, 1) := by decide +kernel
theorem dX10_commit_129 : decode cX10_commit 129 = .ok (.lor, 1) := by decide +kernel
theorem dX10_commit_130 : decode cX10_commit 130 = .ok (.aload_n 0, 1) := by decide +kernel
theorem dX10_commit_131 : decode cX10_commit 131 = .ok (.getfield 168, 3) := by decide +kernel
theorem dX10_commit_134 : decode cX10_commit 134 = .ok (.iconst 1, 1) := by decide +kernel
theorem dX10_commit_135 : decode cX10_commit 135 = .ok (.if_icmp .ne 15, 3) := by decide +kernel
theorem dX10_commit_138 : decode cX10_commit 138 = .ok (.aload_n 0, 1) := by decide +kernel
theorem dX10_commit_139 : decode cX10_commit 139 = .ok (.getfield 64, 3) := by decide +kernel
theorem dX10_commit_142 : decode cX10_commit 142 = .ok (.aload_n 0, 1) := by decide +kernel
theorem dX10_commit_143 : decode cX10_commit 143 = .ok (.getfield 237, 3) := by decide +kernel
theorem dX10_commit_146 : decode cX10_commit 146 = .ok (.laload, 1) := by decide +kernel
theorem dX10_commit_147 : decode cX10_commit 147 = .ok (.goto 4, 3) := by decide +kernel
theorem dX10_commit_150 : decode cX10_commit 150 = .ok (.lconst 0, 1) := by decide +kernel
theorem dX10_commit_151 : decode cX10_commit 151 = .ok (.lor, 1) := by decide +kernel
theorem dX10_commit_152 : decode cX10_commit 152 = .ok (.lastore, 1) := by decide +kernel
theorem dX10_commit_153 : decode cX10_commit 153 = .ok (.aload_n 0, 1) := by decide +kernel
theorem dX10_commit_154 : decode cX10_commit 154 = .ok (.bipush 60, 2) := by decide +kernel
theorem dX10_commit_156 : decode cX10_commit 156 = .ok (.iload_n 1, 1) := by decide +kernel
theorem dX10_commit_157 : decode cX10_commit 157 = .ok (.invokevirtual 227, 3) := by decide +kernel
theorem dX10_commit_160 : decode cX10_commit 160 = .ok (.iconst 0, 1) := by decide +kernel
theorem dX10_commit_161 : decode cX10_commit 161 = .ok (.istore_n 2, 1) := by decide +kernel
theorem dX10_commit_162 : decode cX10_commit 162 = .ok (.iload_n 2, 1) := by decide +kernel
theorem dX10_commit_163 : decode cX10_commit 163 = .ok (.iconst 3, 1) := by decide +kernel
theorem dX10_commit_164 : decode cX10_commit 164 = .ok (.if_icmp .ge 15, 3) := by decide +kernel
theorem dX10_commit_167 : decode cX10_commit 167 = .ok (.aload_n 0, 1) := by decide +kernel
theorem dX10_commit_168 : decode cX10_commit 168 = .ok (.iload_n 1, 1) := by decide +kernel
theorem dX10_commit_169 : decode cX10_commit 169 = .ok (.iload_n 2, 1) := by decide +kernel
theorem dX10_commit_170 : decode cX10_commit 170 = .ok (.invokevirtual 99, 3) := by decide +kernel
theorem dX10_commit_173 : decode cX10_commit 173 = .ok (.iinc 2 1, 3) := by decide +kernel
theorem dX10_commit_176 : decode cX10_commit 176 = .ok (.goto (-14), 3) := by decide +kernel
theorem dX10_commit_179 : decode cX10_commit 179 = .ok (.aload_n 0, 1) := by decide +kernel
theorem dX10_commit_180 : decode cX10_commit 180 = .ok (.getfield 67, 3) := by decide +kernel
theorem dX10_commit_183 : decode cX10_commit 183 = .ok (.aload_n 0, 1) := by decide +kernel
theorem dX10_commit_184 : decode cX10_commit 184 = .ok (.getfield 131, 3) := by decide +kernel
theorem dX10_commit_187 : decode cX10_commit 187 = .ok (.iload_n 1, 1) := by decide +kernel
theorem dX10_commit_188 : decode cX10_commit 188 = .ok (.iastore, 1) := by decide +kernel
theorem dX10_commit_189 : decode cX10_commit 189 = .ok (.aload_n 0, 1) := by decide +kernel
theorem dX10_commit_190 : decode cX10_commit 190 = .ok (.invokevirtual 240, 3) := by decide +kernel
theorem dX10_commit_193 : decode cX10_commit 193 = .ok (.iload_n 1, 1) := by decide +kernel
theorem dX10_commit_194 : decode cX10_commit 194 = .ok (.ireturn, 1) := by decide +kernel
theorem EX10_commit {h : jj_H} {Q : Value → jj_H → Prop} (r0 : Nat) (H : ∀ d : jj_D, jK h r0 = 11 ∧ (∀ h1, h1 = wI h 500 r0 0 0 → (jj_C mX10_openConflicts 0 0 [.ref r0] h1 (fun v3 h2 => jj_vi (fun y4 => (y4 ≤ 0 → jK h2 r0 = 11 ∧ ((¬ (jI h2 520 r0 0) = 0 → jj_WP d mX10_commit 0 0 31 [(0, .ref r0)] [] h2 Q) ∧ ((jI h2 520 r0 0) = 0 → jj_C mX10_isClean 0 0 [.ref r0] h2 (fun v9 h8 => jj_vi (fun y10 => (y10 = 0 → jj_WP d mX10_commit 0 0 31 [(0, .ref r0)] [] h8 Q) ∧ (¬ y10 = 0 → Q (.int (-1)) h8)) v9)))) ∧ (¬ y4 ≤ 0 → Q (.int (-3)) h2)) v3)))) : jj_C mX10_commit 0 0 [.ref r0] h Q := j_enter (by decide +kernel) (Nat.le_of_ble_eq_true rfl) rfl fun d => have H := H d; j_aload_n dX10_commit_0 rfl 0 rfl (j_iconst (v := 0) dX10_commit_1 rfl (j_putI (f := 500) cls_X10 0 (by decide) fl_X10_103 rfl rfl rfl (Or.inl rfl) dX10_commit_2 H.1 (j_aload_n dX10_commit_5 rfl 0 rfl (j_callV0 (as := []) cm_X10_openConflicts im_X10_openConflicts se_X10_openConflicts (ci := 10) rfl (by decide) ml_X10_233 ⟨by decide, by decide⟩ dX10_commit_6 rfl rfl (Nat.le_of_ble_eq_true rfl) H.1 (jj_C.mono (H.2 _ rfl) (fun v3 h2 H5 => jj_vi_e (fun y4 H5 => j_if_le (tgt := 15) dX10_commit_9 (by decide) (fun c6 => j_aload_n dX10_commit_15 rfl 0 rfl (j_getI (f := 520) cls_X10 20 (by decide) fl_X10_168 rfl (by decide) dX10_commit_16 (H5.1 c6).1 (j_if_ne (tgt := 31) dX10_commit_19 (by decide) (fun c7 => j_sub [0] rfl (((H5.1 c6).2.1 c7))) (fun c7 => j_aload_n dX10_commit_22 rfl 0 rfl (j_callV0 (as := []) cm_X10_isClean im_X10_isClean se_X10_isClean (ci := 10) rfl (by decide) ml_X10_223 ⟨by decide, by decide⟩ dX10_commit_23 rfl rfl (Nat.le_of_ble_eq_true rfl) (H5.1 c6).1 (jj_C.mono ((H5.1 c6).2.2 c7) (fun v9 h8 H11 => jj_vi_e (fun y10 H11 => j_if_eq (tgt := 31) dX10_commit_26 (by decide) (fun c12 => j_sub [0] rfl ((H11.1 c12))) (fun c12 => j_iconst (v := (-1)) dX10_commit_29 rfl (j_ret (v := .int (-1)) ⟨dX10_commit_30, _, rfl⟩ rfl ((H11.2 c12))))) H11))))))) (fun c6 => j_bipush (v := (-3)) dX10_commit_12 rfl (j_ret (v := .int (-3)) ⟨dX10_commit_14, _, rfl⟩ rfl ((H5.2 c6))))) H5))))))
theorem VX10_commit_31 {d : jj_D} {h : jj_H} {Q : Value → jj_H → Prop} (r0 : Nat) (H : jK h r0 = 11 ∧ ((¬ (jI h 513 r0 0) = 60 → ∀ h2, h2 = wI h 513 r0 0 ((jI h 513 r0 0) + 1) → (∀ h3, h3 = wL h2 514 r0 0 ((jL h2 514 r0 0) ||| (1 <<< (Int32.toInt64 (jI h 513 r0 0) &&& 63))) → (jK h (jR h3 518 r0 0) = 21 ∧ (vp_in (jI h3 519 r0 0) (jN h (jR h3 518 r0 0)) ∧ (jK h (jR h3 515 r0 0) = 21 ∧ (vp_in (jI h 513 r0 0) (jN h (jR h3 515 r0 0)) ∧ (∀ h4, h4 = wI h3 1000 (jR h3 515 r0 0) (Int32.toNatClampNeg (jI h 513 r0 0)) (jI h3 1000 (jR h3 518 r0 0) (Int32.toNatClampNeg (jI h3 519 r0 0))) → ((¬ (jI h4 520 r0 0) = 1 → jj_WP d mX10_commit 0 0 106 [(0, .ref r0), (1, .int (jI h 513 r0 0))] [.int (-1), .int (jI h 513 r0 0), .ref (jR h4 516 r0 0)] h4 Q) ∧ ((jI h4 520 r0 0) = 1 → jj_WP d mX10_commit 0 0 106 [(0, .ref r0), (1, .int (jI h 513 r0 0))] [.int (jI h4 521 r0 0), .int (jI h 513 r0 0), .ref (jR h4 516 r0 0)] h4 Q))))))))) ∧ ((jI h 513 r0 0) = 60 → Q (.int (-2)) h))) : jj_WP d mX10_commit 0 0 31 [(0, .ref r0)] [] h Q := j_aload_n dX10_commit_31 rfl 0 rfl (j_getI (f := 513) cls_X10 13 (by decide) fl_X10_50 rfl (by decide) dX10_commit_32 H.1 (j_bipush (v := 60) dX10_commit_35 rfl (j_icmp_ne (tgt := 43) dX10_commit_37 (by decide) (fun c1 => j_aload_n dX10_commit_43 rfl 0 rfl (j_getI (f := 513) cls_X10 13 (by decide) fl_X10_50 rfl (by decide) dX10_commit_44 H.1 (j_istore_n (L' := [(1, .int (jI h 513 r0 0)), (0, .ref r0)]) dX10_commit_47 rfl (by decide) rfl (j_aload_n dX10_commit_48 rfl 1 rfl (j_dup dX10_commit_49 rfl (j_getI (f := 513) cls_X10 13 (by decide) fl_X10_50 rfl (by decide) dX10_commit_50 H.1 (j_iconst (v := 1) dX10_commit_53 rfl (j_iadd dX10_commit_54 (j_putI (f := 513) cls_X10 13 (by decide) fl_X10_50 rfl rfl rfl (Or.inl rfl) dX10_commit_55 H.1 (j_aload_n dX10_commit_58 rfl 1 rfl (j_dup dX10_commit_59 rfl (j_getL (f := 514) cls_X10 14 (by decide) fl_X10_54 rfl rfl dX10_commit_60 H.1 (j_lconst (v := 1) dX10_commit_63 rfl (j_iload_n dX10_commit_64 rfl 0 rfl (j_lshl dX10_commit_65 (j_lor dX10_commit_66 (j_putL (f := 514) cls_X10 14 (by decide) fl_X10_54 rfl rfl rfl (Or.inl rfl) dX10_commit_67 H.1 (j_aload_n dX10_commit_70 rfl 1 rfl (j_getR (f := 515) cls_X10 15 (by decide) fl_X10_58 rfl rfl dX10_commit_71 H.1 (j_iload_n dX10_commit_74 rfl 0 rfl (j_aload_n dX10_commit_75 rfl 1 rfl (j_getR (f := 518) cls_X10 18 (by decide) fl_X10_67 rfl rfl dX10_commit_76 H.1 (j_aload_n dX10_commit_79 rfl 1 rfl (j_getI (f := 519) cls_X10 19 (by decide) fl_X10_131 rfl (by decide) dX10_commit_80 H.1 (j_iald dX10_commit_83 (((H.2.1 c1) _ rfl) _ rfl).1 (((H.2.1 c1) _ rfl) _ rfl).2.1 (j_iast dX10_commit_84 (((H.2.1 c1) _ rfl) _ rfl).2.2.1 (((H.2.1 c1) _ rfl) _ rfl).2.2.2.1 (j_aload_n dX10_commit_85 rfl 1 rfl (j_getR (f := 516) cls_X10 16 (by decide) fl_X10_61 rfl rfl dX10_commit_86 H.1 (j_iload_n dX10_commit_89 rfl 0 rfl (j_aload_n dX10_commit_90 rfl 1 rfl (j_getI (f := 520) cls_X10 20 (by decide) fl_X10_168 rfl (by decide) dX10_commit_91 H.1 (j_iconst (v := 1) dX10_commit_94 rfl (j_icmp_ne (tgt := 105) dX10_commit_95 (by decide) (fun c5 => j_iconst (v := (-1)) dX10_commit_105 rfl (j_sub [1, 0] rfl ((((((H.2.1 c1) _ rfl) _ rfl).2.2.2.2 _ rfl).1 c5)))) (fun c5 => j_aload_n dX10_commit_98 rfl 1 rfl (j_getI (f := 521) cls_X10 21 (by decide) fl_X10_237 rfl (by decide) dX10_commit_99 H.1 (j_goto (tgt := 106) dX10_commit_102 (by decide) (j_sub [1, 0] rfl ((((((H.2.1 c1) _ rfl) _ rfl).2.2.2.2 _ rfl).2 c5))))))))))))))))))))))))))))))))))))))) (fun c1 => j_bipush (v := (-2)) dX10_commit_40 rfl (j_ret (v := .int (-2)) ⟨dX10_commit_42, _, rfl⟩ rfl ((H.2.2 c1)))))))
theorem VX10_commit_106 {d : jj_D} {h : jj_H} {Q : Value → jj_H → Prop} (r0 : Nat) (x1 : Int32) (xs0 : Int32) (xs1 : Int32) (rs2 : Nat) (H : jK h rs2 = 21 ∧ (vp_in xs1 (jN h rs2) ∧ (∀ h1, h1 = wI h 1000 rs2 (Int32.toNatClampNeg xs1) xs0 → (jK h r0 = 11 ∧ (jK h (jR h1 518 r0 0) = 21 ∧ (vp_in (jI h1 519 r0 0) (jN h (jR h1 518 r0 0)) ∧ (jK h (jR h1 517 r0 0) = 22 ∧ (vp_in (jI h1 1000 (jR h1 518 r0 0) (Int32.toNatClampNeg (jI h1 519 r0 0))) (jN h (jR h1 517 r0 0)) ∧ ((¬ (jI h1 520 r0 0) = 1 → vp_in x1 (jN h (jR h1 517 r0 0)) ∧ (∀ h3, h3 = wL h1 1000 (jR h1 517 r0 0) (Int32.toNatClampNeg x1) (((1 <<< (Int32.toInt64 x1 &&& 63)) ||| (jL h1 1000 (jR h1 517 r0 0) (Int32.toNatClampNeg (jI h1 1000 (jR h1 518 r0 0) (Int32.toNatClampNeg (jI h1 519 r0 0)))))) ||| 0) → (jj_C mX10_copy 0 0 [.ref r0, .int 60, .int x1] h3 (fun v5 h4 => jj_WP d mX10_commit 0 0 162 [(0, .ref r0), (1, .int x1), (2, .int 0)] [] h4 Q)))) ∧ ((jI h1 520 r0 0) = 1 → vp_in (jI h1 521 r0 0) (jN h (jR h1 517 r0 0)) ∧ (vp_in x1 (jN h (jR h1 517 r0 0)) ∧ (∀ h7, h7 = wL h1 1000 (jR h1 517 r0 0) (Int32.toNatClampNeg x1) (((1 <<< (Int32.toInt64 x1 &&& 63)) ||| (jL h1 1000 (jR h1 517 r0 0) (Int32.toNatClampNeg (jI h1 1000 (jR h1 518 r0 0) (Int32.toNatClampNeg (jI h1 519 r0 0)))))) ||| (jL h1 1000 (jR h1 517 r0 0) (Int32.toNatClampNeg (jI h1 521 r0 0)))) → (jj_C mX10_copy 0 0 [.ref r0, .int 60, .int x1] h7 (fun v9 h8 => jj_WP d mX10_commit 0 0 162 [(0, .ref r0), (1, .int x1), (2, .int 0)] [] h8 Q)))))))))))))) : jj_WP d mX10_commit 0 0 106 [(0, .ref r0), (1, .int x1)] [.int xs0, .int xs1, .ref rs2] h Q := j_iast dX10_commit_106 H.1 H.2.1 (j_aload_n dX10_commit_107 rfl 0 rfl (j_getR (f := 517) cls_X10 17 (by decide) fl_X10_64 rfl rfl dX10_commit_108 (H.2.2 _ rfl).1 (j_iload_n dX10_commit_111 rfl 1 rfl (j_lconst (v := 1) dX10_commit_112 rfl (j_iload_n dX10_commit_113 rfl 1 rfl (j_lshl dX10_commit_114 (j_aload_n dX10_commit_115 rfl 0 rfl (j_getR (f := 517) cls_X10 17 (by decide) fl_X10_64 rfl rfl dX10_commit_116 (H.2.2 _ rfl).1 (j_aload_n dX10_commit_119 rfl 0 rfl (j_getR (f := 518) cls_X10 18 (by decide) fl_X10_67 rfl rfl dX10_commit_120 (H.2.2 _ rfl).1 (j_aload_n dX10_commit_123 rfl 0 rfl (j_getI (f := 519) cls_X10 19 (by decide) fl_X10_131 rfl (by decide) dX10_commit_124 (H.2.2 _ rfl).1 (j_iald dX10_commit_127 (H.2.2 _ rfl).2.1 (H.2.2 _ rfl).2.2.1 (j_lald dX10_commit_128 (H.2.2 _ rfl).2.2.2.1 (H.2.2 _ rfl).2.2.2.2.1 (j_lor dX10_commit_129 (j_aload_n dX10_commit_130 rfl 0 rfl (j_getI (f := 520) cls_X10 20 (by decide) fl_X10_168 rfl (by decide) dX10_commit_131 (H.2.2 _ rfl).1 (j_iconst (v := 1) dX10_commit_134 rfl (j_icmp_ne (tgt := 150) dX10_commit_135 (by decide) (fun c2 => j_lconst (v := 0) dX10_commit_150 rfl (j_lor dX10_commit_151 (j_last dX10_commit_152 (H.2.2 _ rfl).2.2.2.1 ((H.2.2 _ rfl).2.2.2.2.2.1 c2).1 (j_aload_n dX10_commit_153 rfl 0 rfl (j_bipush (v := 60) dX10_commit_154 rfl (j_iload_n dX10_commit_156 rfl 1 rfl (j_callV0 (as := [.int 60, .int x1]) cm_X10_copy im_X10_copy se_X10_copy (ci := 10) rfl (by decide) ml_X10_227 ⟨by decide, by decide⟩ dX10_commit_157 rfl rfl (Nat.le_of_ble_eq_true rfl) (H.2.2 _ rfl).1 (jj_C.mono (((H.2.2 _ rfl).2.2.2.2.2.1 c2).2 _ rfl) (fun v5 h4 H6 => j_iconst (v := 0) dX10_commit_160 rfl (j_istore_n (L' := [(2, .int 0), (0, .ref r0), (1, .int x1)]) dX10_commit_161 rfl (by decide) rfl (j_sub [1, 2, 0] rfl (H6)))))))))))) (fun c2 => j_aload_n dX10_commit_138 rfl 0 rfl (j_getR (f := 517) cls_X10 17 (by decide) fl_X10_64 rfl rfl dX10_commit_139 (H.2.2 _ rfl).1 (j_aload_n dX10_commit_142 rfl 0 rfl (j_getI (f := 521) cls_X10 21 (by decide) fl_X10_237 rfl (by decide) dX10_commit_143 (H.2.2 _ rfl).1 (j_lald dX10_commit_146 (H.2.2 _ rfl).2.2.2.1 ((H.2.2 _ rfl).2.2.2.2.2.2 c2).1 (j_goto (tgt := 151) dX10_commit_147 (by decide) (j_lor dX10_commit_151 (j_last dX10_commit_152 (H.2.2 _ rfl).2.2.2.1 ((H.2.2 _ rfl).2.2.2.2.2.2 c2).2.1 (j_aload_n dX10_commit_153 rfl 0 rfl (j_bipush (v := 60) dX10_commit_154 rfl (j_iload_n dX10_commit_156 rfl 1 rfl (j_callV0 (as := [.int 60, .int x1]) cm_X10_copy im_X10_copy se_X10_copy (ci := 10) rfl (by decide) ml_X10_227 ⟨by decide, by decide⟩ dX10_commit_157 rfl rfl (Nat.le_of_ble_eq_true rfl) (H.2.2 _ rfl).1 (jj_C.mono (((H.2.2 _ rfl).2.2.2.2.2.2 c2).2.2 _ rfl) (fun v9 h8 H10 => j_iconst (v := 0) dX10_commit_160 rfl (j_istore_n (L' := [(2, .int 0), (0, .ref r0), (1, .int x1)]) dX10_commit_161 rfl (by decide) rfl (j_sub [1, 2, 0] rfl (H10))))))))))))))))))))))))))))))))))))
theorem VX10_commit_162 {d : jj_D} {h : jj_H} {Q : Value → jj_H → Prop} (r0 : Nat) (x1 : Int32) (x2 : Int32) (H : (3 ≤ x2 → jK h r0 = 11 ∧ (jK h (jR h 518 r0 0) = 21 ∧ (vp_in (jI h 519 r0 0) (jN h (jR h 518 r0 0)) ∧ (∀ h2, h2 = wI h 1000 (jR h 518 r0 0) (Int32.toNatClampNeg (jI h 519 r0 0)) x1 → (jj_C mX10_over 0 0 [.ref r0] h2 (fun v4 h3 => Q (.int x1) h3)))))) ∧ (¬ 3 ≤ x2 → jK h r0 = 11 ∧ (jj_C mX10_cut 0 0 [.ref r0, .int x1, .int x2] h (fun v7 h6 => jj_WP d mX10_commit 0 0 162 [(0, .ref r0), (1, .int x1), (2, .int (x2 + 1))] [] h6 Q)))) : jj_WP d mX10_commit 0 0 162 [(0, .ref r0), (1, .int x1), (2, .int x2)] [] h Q := j_iload_n dX10_commit_162 rfl 2 rfl (j_iconst (v := 3) dX10_commit_163 rfl (j_icmp_ge (tgt := 179) dX10_commit_164 (by decide) (fun c1 => j_aload_n dX10_commit_179 rfl 0 rfl (j_getR (f := 518) cls_X10 18 (by decide) fl_X10_67 rfl rfl dX10_commit_180 (H.1 c1).1 (j_aload_n dX10_commit_183 rfl 0 rfl (j_getI (f := 519) cls_X10 19 (by decide) fl_X10_131 rfl (by decide) dX10_commit_184 (H.1 c1).1 (j_iload_n dX10_commit_187 rfl 1 rfl (j_iast dX10_commit_188 (H.1 c1).2.1 (H.1 c1).2.2.1 (j_aload_n dX10_commit_189 rfl 0 rfl (j_callV0 (as := []) cm_X10_over im_X10_over se_X10_over (ci := 10) rfl (by decide) ml_X10_240 ⟨by decide, by decide⟩ dX10_commit_190 rfl rfl (Nat.le_of_ble_eq_true rfl) (H.1 c1).1 (jj_C.mono ((H.1 c1).2.2.2 _ rfl) (fun v4 h3 H5 => j_iload_n dX10_commit_193 rfl 1 rfl (j_ret (v := .int x1) ⟨dX10_commit_194, _, rfl⟩ rfl (H5)))))))))))) (fun c1 => j_aload_n dX10_commit_167 rfl 0 rfl (j_iload_n dX10_commit_168 rfl 1 rfl (j_iload_n dX10_commit_169 rfl 2 rfl (j_callV0 (as := [.int x1, .int x2]) cm_X10_cut im_X10_cut se_X10_cut (ci := 10) rfl (by decide) ml_X10_99 ⟨by decide, by decide⟩ dX10_commit_170 rfl rfl (Nat.le_of_ble_eq_true rfl) (H.2 c1).1 (jj_C.mono (H.2 c1).2 (fun v7 h6 H8 => j_iinc (v := (x2 + 1)) (L' := [(2, .int (x2 + 1)), (0, .ref r0), (1, .int x1)]) dX10_commit_173 2 rfl rfl (by decide) rfl (j_goto (tgt := 162) dX10_commit_176 (by decide) (j_sub [1, 2, 0] rfl (H8)))))))))))
theorem dX10_parent_0 : decode cX10_parent 0 = .ok (.aload_n 0, 1) := by decide +kernel
theorem dX10_parent_1 : decode cX10_parent 1 = .ok (.iconst 0, 1) := by decide +kernel
theorem dX10_parent_2 : decode cX10_parent 2 = .ok (.putfield 103, 3) := by decide +kernel
theorem dX10_parent_5 : decode cX10_parent 5 = .ok (.aload_n 0, 1) := by decide +kernel
theorem dX10_parent_6 : decode cX10_parent 6 = .ok (.iload_n 1, 1) := by decide +kernel
theorem dX10_parent_7 : decode cX10_parent 7 = .ok (.invokevirtual 106, 3) := by decide +kernel
theorem dX10_parent_10 : decode cX10_parent 10 = .ok (.ifCond .ne 8, 3) := by decide +kernel
theorem dX10_parent_13 : decode cX10_parent 13 = .ok (.bipush (-5), 2) := by decide +kernel
theorem dX10_parent_15 : decode cX10_parent 15 = .ok (.goto 31, 3) := by decide +kernel
theorem dX10_parent_18 : decode cX10_parent 18 = .ok (.iload_n 2, 1) := by decide +kernel
theorem dX10_parent_19 : decode cX10_parent 19 = .ok (.ifCond .ne 12, 3) := by decide +kernel
theorem dX10_parent_22 : decode cX10_parent 22 = .ok (.aload_n 0, 1) := by decide +kernel
theorem dX10_parent_23 : decode cX10_parent 23 = .ok (.getfield 58, 3) := by decide +kernel
theorem dX10_parent_26 : decode cX10_parent 26 = .ok (.iload_n 1, 1) := by decide +kernel
theorem dX10_parent_27 : decode cX10_parent 27 = .ok (.iaload, 1) := by decide +kernel
theorem dX10_parent_28 : decode cX10_parent 28 = .ok (.goto 18, 3) := by decide +kernel
theorem dX10_parent_31 : decode cX10_parent 31 = .ok (.iload_n 2, 1) := by decide +kernel
theorem dX10_parent_32 : decode cX10_parent 32 = .ok (.iconst 1, 1) := by decide +kernel
theorem dX10_parent_33 : decode cX10_parent 33 = .ok (.if_icmp .ne 12, 3) := by decide +kernel
theorem dX10_parent_36 : decode cX10_parent 36 = .ok (.aload_n 0, 1) := by decide +kernel
theorem dX10_parent_37 : decode cX10_parent 37 = .ok (.getfield 61, 3) := by decide +kernel
theorem dX10_parent_40 : decode cX10_parent 40 = .ok (.iload_n 1, 1) := by decide +kernel
theorem dX10_parent_41 : decode cX10_parent 41 = .ok (.iaload, 1) := by decide +kernel
theorem dX10_parent_42 : decode cX10_parent 42 = .ok (.goto 4, 3) := by decide +kernel
theorem dX10_parent_45 : decode cX10_parent 45 = .ok (.iconst (-1), 1) := by decide +kernel
theorem dX10_parent_46 : decode cX10_parent 46 = .ok (.ireturn, 1) := by decide +kernel
theorem EX10_parent {h : jj_H} {Q : Value → jj_H → Prop} (r0 : Nat) (x1 : Int32) (x2 : Int32) (H : ∀ d : jj_D, jK h r0 = 11 ∧ (∀ h1, h1 = wI h 500 r0 0 0 → (jj_C mX10_isCommit 0 0 [.ref r0, .int x1] h1 (fun v3 h2 => jj_vi (fun y4 => (¬ y4 = 0 → (¬ x2 = 0 → (¬ x2 = 1 → Q (.int (-1)) h2) ∧ (x2 = 1 → jK h2 r0 = 11 ∧ (jK h2 (jR h2 516 r0 0) = 21 ∧ (vp_in x1 (jN h2 (jR h2 516 r0 0)) ∧ (Q (.int (jI h2 1000 (jR h2 516 r0 0) (Int32.toNatClampNeg x1))) h2))))) ∧ (x2 = 0 → jK h2 r0 = 11 ∧ (jK h2 (jR h2 515 r0 0) = 21 ∧ (vp_in x1 (jN h2 (jR h2 515 r0 0)) ∧ (Q (.int (jI h2 1000 (jR h2 515 r0 0) (Int32.toNatClampNeg x1))) h2))))) ∧ (y4 = 0 → Q (.int (-5)) h2)) v3)))) : jj_C mX10_parent 0 0 [.ref r0, .int x1, .int x2] h Q := j_enter (by decide +kernel) (Nat.le_of_ble_eq_true rfl) rfl fun d => have H := H d; j_aload_n dX10_parent_0 rfl 0 rfl (j_iconst (v := 0) dX10_parent_1 rfl (j_putI (f := 500) cls_X10 0 (by decide) fl_X10_103 rfl rfl rfl (Or.inl rfl) dX10_parent_2 H.1 (j_aload_n dX10_parent_5 rfl 0 rfl (j_iload_n dX10_parent_6 rfl 1 rfl (j_callV0 (as := [.int x1]) cm_X10_isCommit im_X10_isCommit se_X10_isCommit (ci := 10) rfl (by decide) ml_X10_106 ⟨by decide, by decide⟩ dX10_parent_7 rfl rfl (Nat.le_of_ble_eq_true rfl) H.1 (jj_C.mono (H.2 _ rfl) (fun v3 h2 H5 => jj_vi_e (fun y4 H5 => j_if_ne (tgt := 18) dX10_parent_10 (by decide) (fun c6 => j_iload_n dX10_parent_18 rfl 2 rfl (j_if_ne (tgt := 31) dX10_parent_19 (by decide) (fun c7 => j_iload_n dX10_parent_31 rfl 2 rfl (j_iconst (v := 1) dX10_parent_32 rfl (j_icmp_ne (tgt := 45) dX10_parent_33 (by decide) (fun c8 => j_iconst (v := (-1)) dX10_parent_45 rfl (j_ret (v := .int (-1)) ⟨dX10_parent_46, _, rfl⟩ rfl ((((H5.1 c6).1 c7).1 c8)))) (fun c8 => j_aload_n dX10_parent_36 rfl 0 rfl (j_getR (f := 516) cls_X10 16 (by decide) fl_X10_61 rfl rfl dX10_parent_37 (((H5.1 c6).1 c7).2 c8).1 (j_iload_n dX10_parent_40 rfl 1 rfl (j_iald dX10_parent_41 (((H5.1 c6).1 c7).2 c8).2.1 (((H5.1 c6).1 c7).2 c8).2.2.1 (j_goto (tgt := 46) dX10_parent_42 (by decide) (j_ret (v := .int (jI h2 1000 (jR h2 516 r0 0) (Int32.toNatClampNeg x1))) ⟨dX10_parent_46, _, rfl⟩ rfl ((((H5.1 c6).1 c7).2 c8).2.2.2)))))))))) (fun c7 => j_aload_n dX10_parent_22 rfl 0 rfl (j_getR (f := 515) cls_X10 15 (by decide) fl_X10_58 rfl rfl dX10_parent_23 ((H5.1 c6).2 c7).1 (j_iload_n dX10_parent_26 rfl 1 rfl (j_iald dX10_parent_27 ((H5.1 c6).2 c7).2.1 ((H5.1 c6).2 c7).2.2.1 (j_goto (tgt := 46) dX10_parent_28 (by decide) (j_ret (v := .int (jI h2 1000 (jR h2 515 r0 0) (Int32.toNatClampNeg x1))) ⟨dX10_parent_46, _, rfl⟩ rfl (((H5.1 c6).2 c7).2.2.2))))))))) (fun c6 => j_bipush (v := (-5)) dX10_parent_13 rfl (j_goto (tgt := 46) dX10_parent_15 (by decide) (j_ret (v := .int (-5)) ⟨dX10_parent_46, _, rfl⟩ rfl ((H5.2 c6)))))) H5)))))))
theorem dX10_bits_0 : decode cX10_bits 0 = .ok (.iconst 0, 1) := by decide +kernel
theorem dX10_bits_1 : decode cX10_bits 1 = .ok (.istore_n 2, 1) := by decide +kernel
theorem dX10_bits_2 : decode cX10_bits 2 = .ok (.iconst 0, 1) := by decide +kernel
theorem dX10_bits_3 : decode cX10_bits 3 = .ok (.istore_n 3, 1) := by decide +kernel
theorem dX10_bits_4 : decode cX10_bits 4 = .ok (.iload_n 3, 1) := by decide +kernel
theorem dX10_bits_5 : decode cX10_bits 5 = .ok (.bipush 60, 2) := by decide +kernel
theorem dX10_bits_7 : decode cX10_bits 7 = .ok (.if_icmp .ge 18, 3) := by decide +kernel
theorem dX10_bits_10 : decode cX10_bits 10 = .ok (.iload_n 2, 1) := by decide +kernel
theorem dX10_bits_11 : decode cX10_bits 11 = .ok (.lload_n 0, 1) := by decide +kernel
theorem dX10_bits_12 : decode cX10_bits 12 = .ok (.iload_n 3, 1) := by decide +kernel
theorem dX10_bits_13 : decode cX10_bits 13 = .ok (.lshr, 1) := by decide +kernel
theorem dX10_bits_14 : decode cX10_bits 14 = .ok (.lconst 1, 1) := by decide +kernel
theorem dX10_bits_15 : decode cX10_bits 15 = .ok (.land, 1) := by decide +kernel
theorem dX10_bits_16 : decode cX10_bits 16 = .ok (.l2i, 1) := by decide +kernel
theorem dX10_bits_17 : decode cX10_bits 17 = .ok (.iadd, 1) := by decide +kernel
theorem dX10_bits_18 : decode cX10_bits 18 = .ok (.istore_n 2, 1) := by decide +kernel
theorem dX10_bits_19 : decode cX10_bits 19 = .ok (.iinc 3 1, 3) := by decide +kernel
theorem dX10_bits_22 : decode cX10_bits 22 = .ok (.goto (-18), 3) := by decide +kernel
theorem dX10_bits_25 : decode cX10_bits 25 = .ok (.iload_n 2, 1) := by decide +kernel
theorem dX10_bits_26 : decode cX10_bits 26 = .ok (.ireturn, 1) := by decide +kernel
theorem EX10_bits {h : jj_H} {Q : Value → jj_H → Prop} (l0 : Int64) (H : ∀ d : jj_D, jj_WP d mX10_bits 0 0 4 [(0, .long l0), (2, .int 0), (3, .int 0)] [] h Q) : jj_C mX10_bits 0 0 [.long l0] h Q := j_enter (by decide +kernel) (Nat.le_of_ble_eq_true rfl) rfl fun d => have H := H d; j_iconst (v := 0) dX10_bits_0 rfl (j_istore_n (L' := [(2, .int 0), (0, .long l0)]) dX10_bits_1 rfl (by decide) rfl (j_iconst (v := 0) dX10_bits_2 rfl (j_istore_n (L' := [(3, .int 0), (2, .int 0), (0, .long l0)]) dX10_bits_3 rfl (by decide) rfl (j_sub [2, 1, 0] rfl (H)))))
theorem VX10_bits_4 {d : jj_D} {h : jj_H} {Q : Value → jj_H → Prop} (l0 : Int64) (x2 : Int32) (x3 : Int32) (H : (60 ≤ x3 → Q (.int x2) h) ∧ (¬ 60 ≤ x3 → jj_WP d mX10_bits 0 0 4 [(0, .long l0), (2, .int (x2 + (Int64.toInt32 ((l0 >>> (Int32.toInt64 x3 &&& 63)) &&& 1)))), (3, .int (x3 + 1))] [] h Q)) : jj_WP d mX10_bits 0 0 4 [(0, .long l0), (2, .int x2), (3, .int x3)] [] h Q := j_iload_n dX10_bits_4 rfl 2 rfl (j_bipush (v := 60) dX10_bits_5 rfl (j_icmp_ge (tgt := 25) dX10_bits_7 (by decide) (fun c1 => j_iload_n dX10_bits_25 rfl 1 rfl (j_ret (v := .int x2) ⟨dX10_bits_26, _, rfl⟩ rfl ((H.1 c1)))) (fun c1 => j_iload_n dX10_bits_10 rfl 1 rfl (j_lload_n dX10_bits_11 rfl 0 rfl (j_iload_n dX10_bits_12 rfl 2 rfl (j_lshr dX10_bits_13 (j_lconst (v := 1) dX10_bits_14 rfl (j_land dX10_bits_15 (j_l2i dX10_bits_16 (j_iadd dX10_bits_17 (j_istore_n (L' := [(2, .int (x2 + (Int64.toInt32 ((l0 >>> (Int32.toInt64 x3 &&& 63)) &&& 1)))), (0, .long l0), (3, .int x3)]) dX10_bits_18 rfl (by decide) rfl (j_iinc (v := (x3 + 1)) (L' := [(3, .int (x3 + 1)), (2, .int (x2 + (Int64.toInt32 ((l0 >>> (Int32.toInt64 x3 &&& 63)) &&& 1)))), (0, .long l0)]) dX10_bits_19 2 rfl rfl (by decide) rfl (j_goto (tgt := 4) dX10_bits_22 (by decide) (j_sub [2, 1, 0] rfl ((H.2 c1))))))))))))))))
theorem dX10_ancestors_0 : decode cX10_ancestors 0 = .ok (.aload_n 0, 1) := by decide +kernel
theorem dX10_ancestors_1 : decode cX10_ancestors 1 = .ok (.iconst 0, 1) := by decide +kernel
theorem dX10_ancestors_2 : decode cX10_ancestors 2 = .ok (.putfield 103, 3) := by decide +kernel
theorem dX10_ancestors_5 : decode cX10_ancestors 5 = .ok (.aload_n 0, 1) := by decide +kernel
theorem dX10_ancestors_6 : decode cX10_ancestors 6 = .ok (.iload_n 1, 1) := by decide +kernel
theorem dX10_ancestors_7 : decode cX10_ancestors 7 = .ok (.invokevirtual 106, 3) := by decide +kernel
theorem dX10_ancestors_10 : decode cX10_ancestors 10 = .ok (.ifCond .eq 15, 3) := by decide +kernel
theorem dX10_ancestors_13 : decode cX10_ancestors 13 = .ok (.aload_n 0, 1) := by decide +kernel
theorem dX10_ancestors_14 : decode cX10_ancestors 14 = .ok (.getfield 64, 3) := by decide +kernel
theorem dX10_ancestors_17 : decode cX10_ancestors 17 = .ok (.iload_n 1, 1) := by decide +kernel
theorem dX10_ancestors_18 : decode cX10_ancestors 18 = .ok (.laload, 1) := by decide +kernel
theorem dX10_ancestors_19 : decode cX10_ancestors 19 = .ok (.invokestatic 243, 3) := by decide +kernel
theorem dX10_ancestors_22 : decode cX10_ancestors 22 = .ok (.goto 5, 3) := by decide +kernel
theorem dX10_ancestors_25 : decode cX10_ancestors 25 = .ok (.bipush (-5), 2) := by decide +kernel
theorem dX10_ancestors_27 : decode cX10_ancestors 27 = .ok (.ireturn, 1) := by decide +kernel
theorem EX10_ancestors {h : jj_H} {Q : Value → jj_H → Prop} (r0 : Nat) (x1 : Int32) (H : ∀ d : jj_D, jK h r0 = 11 ∧ (∀ h1, h1 = wI h 500 r0 0 0 → (jj_C mX10_isCommit 0 0 [.ref r0, .int x1] h1 (fun v3 h2 => jj_vi (fun y4 => (y4 = 0 → Q (.int (-5)) h2) ∧ (¬ y4 = 0 → jK h2 r0 = 11 ∧ (jK h2 (jR h2 517 r0 0) = 22 ∧ (vp_in x1 (jN h2 (jR h2 517 r0 0)) ∧ (jj_C mX10_bits 0 0 [.long (jL h2 1000 (jR h2 517 r0 0) (Int32.toNatClampNeg x1))] h2 (fun v8 h7 => jj_vi (fun y9 => Q (.int y9) h7) v8)))))) v3)))) : jj_C mX10_ancestors 0 0 [.ref r0, .int x1] h Q := j_enter (by decide +kernel) (Nat.le_of_ble_eq_true rfl) rfl fun d => have H := H d; j_aload_n dX10_ancestors_0 rfl 0 rfl (j_iconst (v := 0) dX10_ancestors_1 rfl (j_putI (f := 500) cls_X10 0 (by decide) fl_X10_103 rfl rfl rfl (Or.inl rfl) dX10_ancestors_2 H.1 (j_aload_n dX10_ancestors_5 rfl 0 rfl (j_iload_n dX10_ancestors_6 rfl 1 rfl (j_callV0 (as := [.int x1]) cm_X10_isCommit im_X10_isCommit se_X10_isCommit (ci := 10) rfl (by decide) ml_X10_106 ⟨by decide, by decide⟩ dX10_ancestors_7 rfl rfl (Nat.le_of_ble_eq_true rfl) H.1 (jj_C.mono (H.2 _ rfl) (fun v3 h2 H5 => jj_vi_e (fun y4 H5 => j_if_eq (tgt := 25) dX10_ancestors_10 (by decide) (fun c6 => j_bipush (v := (-5)) dX10_ancestors_25 rfl (j_ret (v := .int (-5)) ⟨dX10_ancestors_27, _, rfl⟩ rfl ((H5.1 c6)))) (fun c6 => j_aload_n dX10_ancestors_13 rfl 0 rfl (j_getR (f := 517) cls_X10 17 (by decide) fl_X10_64 rfl rfl dX10_ancestors_14 (H5.2 c6).1 (j_iload_n dX10_ancestors_17 rfl 1 rfl (j_lald dX10_ancestors_18 (H5.2 c6).2.1 (H5.2 c6).2.2.1 (j_callS0 (as := [.long (jL h2 1000 (jR h2 517 r0 0) (Int32.toNatClampNeg x1))]) cm_X10_bits sm_X10_bits ml_X10_243 ⟨by decide, by decide⟩ dX10_ancestors_19 rfl rfl (Nat.le_of_ble_eq_true rfl) (jj_C.mono (H5.2 c6).2.2.2 (fun v8 h7 H10 => jj_vi_e (fun y9 H10 => j_goto (tgt := 27) dX10_ancestors_22 (by decide) (j_ret (v := .int y9) ⟨dX10_ancestors_27, _, rfl⟩ rfl (H10))) H10)))))))) H5)))))))
theorem dX10_isAncestor_0 : decode cX10_isAncestor 0 = .ok (.aload_n 0, 1) := by decide +kernel
theorem dX10_isAncestor_1 : decode cX10_isAncestor 1 = .ok (.getfield 64, 3) := by decide +kernel
theorem dX10_isAncestor_4 : decode cX10_isAncestor 4 = .ok (.iload_n 2, 1) := by decide +kernel
theorem dX10_isAncestor_5 : decode cX10_isAncestor 5 = .ok (.laload, 1) := by decide +kernel
theorem dX10_isAncestor_6 : decode cX10_isAncestor 6 = .ok (.iload_n 1, 1) := by decide +kernel
theorem dX10_isAncestor_7 : decode cX10_isAncestor 7 = .ok (.lshr, 1) := by decide +kernel
theorem dX10_isAncestor_8 : decode cX10_isAncestor 8 = .ok (.lconst 1, 1) := by decide +kernel
theorem dX10_isAncestor_9 : decode cX10_isAncestor 9 = .ok (.land, 1) := by decide +kernel
theorem dX10_isAncestor_10 : decode cX10_isAncestor 10 = .ok (.lconst 0, 1) := by decide +kernel
theorem dX10_isAncestor_11 : decode cX10_isAncestor 11 = .ok (.lcmp, 1) := by decide +kernel
theorem dX10_isAncestor_12 : decode cX10_isAncestor 12 = .ok (.ifCond .eq 7, 3) := by decide +kernel
theorem dX10_isAncestor_15 : decode cX10_isAncestor 15 = .ok (.iconst 1, 1) := by decide +kernel
theorem dX10_isAncestor_16 : decode cX10_isAncestor 16 = .ok (.goto 4, 3) := by decide +kernel
theorem dX10_isAncestor_19 : decode cX10_isAncestor 19 = .ok (.iconst 0, 1) := by decide +kernel
theorem dX10_isAncestor_20 : decode cX10_isAncestor 20 = .ok (.ireturn, 1) := by decide +kernel
theorem EX10_isAncestor {h : jj_H} {Q : Value → jj_H → Prop} (r0 : Nat) (x1 : Int32) (x2 : Int32) (H : ∀ d : jj_D, jK h r0 = 11 ∧ (jK h (jR h 517 r0 0) = 22 ∧ (vp_in x2 (jN h (jR h 517 r0 0)) ∧ (((((jL h 1000 (jR h 517 r0 0) (Int32.toNatClampNeg x2)) >>> (Int32.toInt64 x1 &&& 63)) &&& 1) = 0 → Q (.int 0) h) ∧ (¬ (((jL h 1000 (jR h 517 r0 0) (Int32.toNatClampNeg x2)) >>> (Int32.toInt64 x1 &&& 63)) &&& 1) = 0 → Q (.int 1) h))))) : jj_C mX10_isAncestor 0 0 [.ref r0, .int x1, .int x2] h Q := j_enter (by decide +kernel) (Nat.le_of_ble_eq_true rfl) rfl fun d => have H := H d; j_aload_n dX10_isAncestor_0 rfl 0 rfl (j_getR (f := 517) cls_X10 17 (by decide) fl_X10_64 rfl rfl dX10_isAncestor_1 H.1 (j_iload_n dX10_isAncestor_4 rfl 2 rfl (j_lald dX10_isAncestor_5 H.2.1 H.2.2.1 (j_iload_n dX10_isAncestor_6 rfl 1 rfl (j_lshr dX10_isAncestor_7 (j_lconst (v := 1) dX10_isAncestor_8 rfl (j_land dX10_isAncestor_9 (j_lconst (v := 0) dX10_isAncestor_10 rfl (j_lcmp dX10_isAncestor_11 (j_if_eq (tgt := 19) dX10_isAncestor_12 (by decide) (fun c1 => j_iconst (v := 0) dX10_isAncestor_19 rfl (j_ret (v := .int 0) ⟨dX10_isAncestor_20, _, rfl, by decide⟩ rfl ((H.2.2.2.1 ((lg_cmp_eq _ _).mp c1))))) (fun c1 => j_iconst (v := 1) dX10_isAncestor_15 rfl (j_goto (tgt := 20) dX10_isAncestor_16 (by decide) (j_ret (v := .int 1) ⟨dX10_isAncestor_20, _, rfl, by decide⟩ rfl ((H.2.2.2.2 (fun z => c1 ((lg_cmp_eq _ _).mpr z)))))))))))))))))
theorem dX10_baseOf_0 : decode cX10_baseOf 0 = .ok (.aload_n 0, 1) := by decide +kernel
theorem dX10_baseOf_1 : decode cX10_baseOf 1 = .ok (.getfield 64, 3) := by decide +kernel
theorem dX10_baseOf_4 : decode cX10_baseOf 4 = .ok (.iload_n 1, 1) := by decide +kernel
theorem dX10_baseOf_5 : decode cX10_baseOf 5 = .ok (.laload, 1) := by decide +kernel
theorem dX10_baseOf_6 : decode cX10_baseOf 6 = .ok (.aload_n 0, 1) := by decide +kernel
theorem dX10_baseOf_7 : decode cX10_baseOf 7 = .ok (.getfield 64, 3) := by decide +kernel
theorem dX10_baseOf_10 : decode cX10_baseOf 10 = .ok (.iload_n 2, 1) := by decide +kernel
theorem dX10_baseOf_11 : decode cX10_baseOf 11 = .ok (.laload, 1) := by decide +kernel
theorem dX10_baseOf_12 : decode cX10_baseOf 12 = .ok (.land, 1) := by decide +kernel
theorem dX10_baseOf_13 : decode cX10_baseOf 13 = .ok (.lstore_n 3, 1) := by decide +kernel
theorem dX10_baseOf_14 : decode cX10_baseOf 14 = .ok (.bipush 59, 2) := by decide +kernel
theorem dX10_baseOf_16 : decode cX10_baseOf 16 = .ok (.istore 5, 2) := by decide +kernel
theorem dX10_baseOf_18 : decode cX10_baseOf 18 = .ok (.iload 5, 2) := by decide +kernel
theorem dX10_baseOf_20 : decode cX10_baseOf 20 = .ok (.ifCond .lt 92, 3) := by decide +kernel
theorem dX10_baseOf_23 : decode cX10_baseOf 23 = .ok (.lload_n 3, 1) := by decide +kernel
theorem dX10_baseOf_24 : decode cX10_baseOf 24 = .ok (.iload 5, 2) := by decide +kernel
theorem dX10_baseOf_26 : decode cX10_baseOf 26 = .ok (.lshr, 1) := by decide +kernel
theorem dX10_baseOf_27 : decode cX10_baseOf 27 = .ok (.lconst 1, 1) := by decide +kernel
theorem dX10_baseOf_28 : decode cX10_baseOf 28 = .ok (.land, 1) := by decide +kernel
theorem dX10_baseOf_29 : decode cX10_baseOf 29 = .ok (.lconst 0, 1) := by decide +kernel
theorem dX10_baseOf_30 : decode cX10_baseOf 30 = .ok (.lcmp, 1) := by decide +kernel
theorem dX10_baseOf_31 : decode cX10_baseOf 31 = .ok (.ifCond .eq 7, 3) := by decide +kernel
theorem dX10_baseOf_34 : decode cX10_baseOf 34 = .ok (.iconst 1, 1) := by decide +kernel
theorem dX10_baseOf_35 : decode cX10_baseOf 35 = .ok (.goto 4, 3) := by decide +kernel
theorem dX10_baseOf_38 : decode cX10_baseOf 38 = .ok (.iconst 0, 1) := by decide +kernel
theorem dX10_baseOf_39 : decode cX10_baseOf 39 = .ok (.istore 6, 2) := by decide +kernel
theorem dX10_baseOf_41 : decode cX10_baseOf 41 = .ok (.iconst 0, 1) := by decide +kernel
theorem dX10_baseOf_42 : decode cX10_baseOf 42 = .ok (.istore 7, 2) := by decide +kernel
theorem dX10_baseOf_44 : decode cX10_baseOf 44 = .ok (.iload 7, 2) := by decide +kernel
theorem dX10_baseOf_46 : decode cX10_baseOf 46 = .ok (.bipush 60, 2) := by decide +kernel
theorem dX10_baseOf_48 : decode cX10_baseOf 48 = .ok (.if_icmp .ge 50, 3) := by decide +kernel
theorem dX10_baseOf_51 : decode cX10_baseOf 51 = .ok (.iload 6, 2) := by decide +kernel
theorem dX10_baseOf_53 : decode cX10_baseOf 53 = .ok (.ifCond .eq 45, 3) := by decide +kernel
theorem dX10_baseOf_56 : decode cX10_baseOf 56 = .ok (.iload 7, 2) := by decide +kernel
theorem dX10_baseOf_58 : decode cX10_baseOf 58 = .ok (.iload 5, 2) := by decide +kernel
theorem dX10_baseOf_60 : decode cX10_baseOf 60 = .ok (.if_icmp .eq 25, 3) := by decide +kernel
theorem dX10_baseOf_63 : decode cX10_baseOf 63 = .ok (.lload_n 3, 1) := by decide +kernel
theorem dX10_baseOf_64 : decode cX10_baseOf 64 = .ok (.iload 7, 2) := by decide +kernel
theorem dX10_baseOf_66 : decode cX10_baseOf 66 = .ok (.lshr, 1) := by decide +kernel
theorem dX10_baseOf_67 : decode cX10_baseOf 67 = .ok (.lconst 1, 1) := by decide +kernel
theorem dX10_baseOf_68 : decode cX10_baseOf 68 = .ok (.land, 1) := by decide +kernel
theorem dX10_baseOf_69 : decode cX10_baseOf 69 = .ok (.lconst 0, 1) := by decide +kernel
theorem dX10_baseOf_70 : decode cX10_baseOf 70 = .ok (.lcmp, 1) := by decide +kernel
theorem dX10_baseOf_71 : decode cX10_baseOf 71 = .ok (.ifCond .eq 14, 3) := by decide +kernel
theorem dX10_baseOf_74 : decode cX10_baseOf 74 = .ok (.aload_n 0, 1) := by decide +kernel
theorem dX10_baseOf_75 : decode cX10_baseOf 75 = .ok (.iload 5, 2) := by decide +kernel
theorem dX10_baseOf_77 : decode cX10_baseOf 77 = .ok (.iload 7, 2) := by decide +kernel
theorem dX10_baseOf_79 : decode cX10_baseOf 79 = .ok (.invokevirtual 247, 3) := by decide +kernel
theorem dX10_baseOf_82 : decode cX10_baseOf 82 = .ok (.ifCond .ne 7, 3) := by decide +kernel
theorem dX10_baseOf_85 : decode cX10_baseOf 85 = .ok (.iconst 1, 1) := by decide +kernel
theorem dX10_baseOf_86 : decode cX10_baseOf 86 = .ok (.goto 4, 3) := by decide +kernel
theorem dX10_baseOf_89 : decode cX10_baseOf 89 = .ok (.iconst 0, 1) := by decide +kernel
theorem dX10_baseOf_90 : decode cX10_baseOf 90 = .ok (.istore 6, 2) := by decide +kernel
theorem dX10_baseOf_92 : decode cX10_baseOf 92 = .ok (.iinc 7 1, 3) := by decide +kernel
theorem dX10_baseOf_95 : decode cX10_baseOf 95 = .ok (.goto (-51), 3) := by decide +kernel
theorem dX10_baseOf_98 : decode cX10_baseOf 98 = .ok (.iload 6, 2) := by decide +kernel
theorem dX10_baseOf_100 : decode cX10_baseOf 100 = .ok (.ifCond .eq 6, 3) := by decide +kernel
theorem dX10_baseOf_103 : decode cX10_baseOf 103 = .ok (.iload 5, 2) := by decide +kernel
theorem dX10_baseOf_105 : decode cX10_baseOf 105 = .ok (.ireturn, 1) := by decide +kernel
theorem dX10_baseOf_106 : decode cX10_baseOf 106 = .ok (.iinc 5 (-1), 3) := by decide +kernel
theorem dX10_baseOf_109 : decode cX10_baseOf 109 = .ok (.goto (-91), 3) := by decide +kernel
theorem dX10_baseOf_112 : decode cX10_baseOf 112 = .ok (.iconst 0, 1) := by decide +kernel
theorem dX10_baseOf_113 : decode cX10_baseOf 113 = .ok (.ireturn, 1) := by decide +kernel
theorem EX10_baseOf {h : jj_H} {Q : Value → jj_H → Prop} (r0 : Nat) (x1 : Int32) (x2 : Int32) (H : ∀ d : jj_D, jK h r0 = 11 ∧ (jK h (jR h 517 r0 0) = 22 ∧ (vp_in x1 (jN h (jR h 517 r0 0)) ∧ (vp_in x2 (jN h (jR h 517 r0 0)) ∧ (jj_WP d mX10_baseOf 0 0 18 [(0, .ref r0), (3, .long ((jL h 1000 (jR h 517 r0 0) (Int32.toNatClampNeg x1)) &&& (jL h 1000 (jR h 517 r0 0) (Int32.toNatClampNeg x2)))), (5, .int 59)] [] h Q))))) : jj_C mX10_baseOf 0 0 [.ref r0, .int x1, .int x2] h Q := j_enter (by decide +kernel) (Nat.le_of_ble_eq_true rfl) rfl fun d => have H := H d; j_aload_n dX10_baseOf_0 rfl 0 rfl (j_getR (f := 517) cls_X10 17 (by decide) fl_X10_64 rfl rfl dX10_baseOf_1 H.1 (j_iload_n dX10_baseOf_4 rfl 1 rfl (j_lald dX10_baseOf_5 H.2.1 H.2.2.1 (j_aload_n dX10_baseOf_6 rfl 0 rfl (j_getR (f := 517) cls_X10 17 (by decide) fl_X10_64 rfl rfl dX10_baseOf_7 H.1 (j_iload_n dX10_baseOf_10 rfl 2 rfl (j_lald dX10_baseOf_11 H.2.1 H.2.2.2.1 (j_land dX10_baseOf_12 (j_lstore_n (L' := [(3, .long ((jL h 1000 (jR h 517 r0 0) (Int32.toNatClampNeg x1)) &&& (jL h 1000 (jR h 517 r0 0) (Int32.toNatClampNeg x2)))), (0, .ref r0), (1, .int x1), (2, .int x2)]) dX10_baseOf_13 rfl (by decide) rfl (j_bipush (v := 59) dX10_baseOf_14 rfl (j_istore (L' := [(5, .int 59), (3, .long ((jL h 1000 (jR h 517 r0 0) (Int32.toNatClampNeg x1)) &&& (jL h 1000 (jR h 517 r0 0) (Int32.toNatClampNeg x2)))), (0, .ref r0), (1, .int x1), (2, .int x2)]) dX10_baseOf_16 (by decide) rfl (j_sub [2, 1, 0] rfl (H.2.2.2.2)))))))))))))
theorem VX10_baseOf_18 {d : jj_D} {h : jj_H} {Q : Value → jj_H → Prop} (r0 : Nat) (l3 : Int64) (x5 : Int32) (H : (x5 < 0 → Q (.int 0) h) ∧ (¬ x5 < 0 → (((l3 >>> (Int32.toInt64 x5 &&& 63)) &&& 1) = 0 → jj_WP d mX10_baseOf 0 0 44 [(0, .ref r0), (3, .long l3), (5, .int x5), (6, .int 0), (7, .int 0)] [] h Q) ∧ (¬ ((l3 >>> (Int32.toInt64 x5 &&& 63)) &&& 1) = 0 → jj_WP d mX10_baseOf 0 0 44 [(0, .ref r0), (3, .long l3), (5, .int x5), (6, .int 1), (7, .int 0)] [] h Q))) : jj_WP d mX10_baseOf 0 0 18 [(0, .ref r0), (3, .long l3), (5, .int x5)] [] h Q := j_iload dX10_baseOf_18 2 rfl (j_if_lt (tgt := 112) dX10_baseOf_20 (by decide) (fun c1 => j_iconst (v := 0) dX10_baseOf_112 rfl (j_ret (v := .int 0) ⟨dX10_baseOf_113, _, rfl⟩ rfl ((H.1 c1)))) (fun c1 => j_lload_n dX10_baseOf_23 rfl 1 rfl (j_iload dX10_baseOf_24 2 rfl (j_lshr dX10_baseOf_26 (j_lconst (v := 1) dX10_baseOf_27 rfl (j_land dX10_baseOf_28 (j_lconst (v := 0) dX10_baseOf_29 rfl (j_lcmp dX10_baseOf_30 (j_if_eq (tgt := 38) dX10_baseOf_31 (by decide) (fun c2 => j_iconst (v := 0) dX10_baseOf_38 rfl (j_istore (L' := [(6, .int 0), (0, .ref r0), (3, .long l3), (5, .int x5)]) dX10_baseOf_39 (by decide) rfl (j_iconst (v := 0) dX10_baseOf_41 rfl (j_istore (L' := [(7, .int 0), (6, .int 0), (0, .ref r0), (3, .long l3), (5, .int x5)]) dX10_baseOf_42 (by decide) rfl (j_sub [2, 3, 4, 1, 0] rfl (((H.2 c1).1 ((lg_cmp_eq _ _).mp c2)))))))) (fun c2 => j_iconst (v := 1) dX10_baseOf_34 rfl (j_goto (tgt := 39) dX10_baseOf_35 (by decide) (j_istore (L' := [(6, .int 1), (0, .ref r0), (3, .long l3), (5, .int x5)]) dX10_baseOf_39 (by decide) rfl (j_iconst (v := 0) dX10_baseOf_41 rfl (j_istore (L' := [(7, .int 0), (6, .int 1), (0, .ref r0), (3, .long l3), (5, .int x5)]) dX10_baseOf_42 (by decide) rfl (j_sub [2, 3, 4, 1, 0] rfl (((H.2 c1).2 (fun z => c2 ((lg_cmp_eq _ _).mpr z)))))))))))))))))))
theorem VX10_baseOf_44 {d : jj_D} {h : jj_H} {Q : Value → jj_H → Prop} (r0 : Nat) (l3 : Int64) (x5 : Int32) (x6 : Int32) (x7 : Int32) (H : (60 ≤ x7 → (x6 = 0 → jj_WP d mX10_baseOf 0 0 18 [(0, .ref r0), (3, .long l3), (5, .int (x5 + (-1)))] [] h Q) ∧ (¬ x6 = 0 → Q (.int x5) h)) ∧ (¬ 60 ≤ x7 → (x6 = 0 → (x6 = 0 → jj_WP d mX10_baseOf 0 0 18 [(0, .ref r0), (3, .long l3), (5, .int (x5 + (-1)))] [] h Q) ∧ (¬ x6 = 0 → Q (.int x5) h)) ∧ (¬ x6 = 0 → (x7 = x5 → jj_WP d mX10_baseOf 0 0 44 [(0, .ref r0), (3, .long l3), (5, .int x5), (6, .int 1), (7, .int (x7 + 1))] [] h Q) ∧ (¬ x7 = x5 → (((l3 >>> (Int32.toInt64 x7 &&& 63)) &&& 1) = 0 → jj_WP d mX10_baseOf 0 0 44 [(0, .ref r0), (3, .long l3), (5, .int x5), (6, .int 1), (7, .int (x7 + 1))] [] h Q) ∧ (¬ ((l3 >>> (Int32.toInt64 x7 &&& 63)) &&& 1) = 0 → jK h r0 = 11 ∧ (jj_C mX10_isAncestor 0 0 [.ref r0, .int x5, .int x7] h (fun v8 h7 => jj_vi (fun y9 => (¬ y9 = 0 → jj_WP d mX10_baseOf 0 0 44 [(0, .ref r0), (3, .long l3), (5, .int x5), (6, .int 0), (7, .int (x7 + 1))] [] h7 Q) ∧ (y9 = 0 → jj_WP d mX10_baseOf 0 0 44 [(0, .ref r0), (3, .long l3), (5, .int x5), (6, .int 1), (7, .int (x7 + 1))] [] h7 Q)) v8))))))) : jj_WP d mX10_baseOf 0 0 44 [(0, .ref r0), (3, .long l3), (5, .int x5), (6, .int x6), (7, .int x7)] [] h Q := j_iload dX10_baseOf_44 4 rfl (j_bipush (v := 60) dX10_baseOf_46 rfl (j_icmp_ge (tgt := 98) dX10_baseOf_48 (by decide) (fun c1 => j_iload dX10_baseOf_98 3 rfl (j_if_eq (tgt := 106) dX10_baseOf_100 (by decide) (fun c2 => j_iinc (v := (x5 + (-1))) (L' := [(5, .int (x5 + (-1))), (0, .ref r0), (3, .long l3), (6, .int x6), (7, .int x7)]) dX10_baseOf_106 2 rfl rfl (by decide) rfl (j_goto (tgt := 18) dX10_baseOf_109 (by decide) (j_sub [1, 2, 0] rfl (((H.1 c1).1 c2))))) (fun c2 => j_iload dX10_baseOf_103 2 rfl (j_ret (v := .int x5) ⟨dX10_baseOf_105, _, rfl⟩ rfl (((H.1 c1).2 c2)))))) (fun c1 => j_iload dX10_baseOf_51 3 rfl (j_if_eq (tgt := 98) dX10_baseOf_53 (by decide) (fun c3 => j_iload dX10_baseOf_98 3 rfl (j_if_eq (tgt := 106) dX10_baseOf_100 (by decide) (fun c4 => j_iinc (v := (x5 + (-1))) (L' := [(5, .int (x5 + (-1))), (0, .ref r0), (3, .long l3), (6, .int x6), (7, .int x7)]) dX10_baseOf_106 2 rfl rfl (by decide) rfl (j_goto (tgt := 18) dX10_baseOf_109 (by decide) (j_sub [1, 2, 0] rfl ((((H.2 c1).1 c3).1 c4))))) (fun c4 => j_iload dX10_baseOf_103 2 rfl (j_ret (v := .int x5) ⟨dX10_baseOf_105, _, rfl⟩ rfl ((((H.2 c1).1 c3).2 c4)))))) (fun c3 => j_iload dX10_baseOf_56 4 rfl (j_iload dX10_baseOf_58 2 rfl (j_icmp_eq (tgt := 85) dX10_baseOf_60 (by decide) (fun c5 => j_iconst (v := 1) dX10_baseOf_85 rfl (j_goto (tgt := 90) dX10_baseOf_86 (by decide) (j_istore (L' := [(6, .int 1), (0, .ref r0), (3, .long l3), (5, .int x5), (7, .int x7)]) dX10_baseOf_90 (by decide) rfl (j_iinc (v := (x7 + 1)) (L' := [(7, .int (x7 + 1)), (6, .int 1), (0, .ref r0), (3, .long l3), (5, .int x5)]) dX10_baseOf_92 4 rfl rfl (by decide) rfl (j_goto (tgt := 44) dX10_baseOf_95 (by decide) (j_sub [2, 3, 4, 1, 0] rfl ((((H.2 c1).2 c3).1 c5)))))))) (fun c5 => j_lload_n dX10_baseOf_63 rfl 1 rfl (j_iload dX10_baseOf_64 4 rfl (j_lshr dX10_baseOf_66 (j_lconst (v := 1) dX10_baseOf_67 rfl (j_land dX10_baseOf_68 (j_lconst (v := 0) dX10_baseOf_69 rfl (j_lcmp dX10_baseOf_70 (j_if_eq (tgt := 85) dX10_baseOf_71 (by decide) (fun c6 => j_iconst (v := 1) dX10_baseOf_85 rfl (j_goto (tgt := 90) dX10_baseOf_86 (by decide) (j_istore (L' := [(6, .int 1), (0, .ref r0), (3, .long l3), (5, .int x5), (7, .int x7)]) dX10_baseOf_90 (by decide) rfl (j_iinc (v := (x7 + 1)) (L' := [(7, .int (x7 + 1)), (6, .int 1), (0, .ref r0), (3, .long l3), (5, .int x5)]) dX10_baseOf_92 4 rfl rfl (by decide) rfl (j_goto (tgt := 44) dX10_baseOf_95 (by decide) (j_sub [2, 3, 4, 1, 0] rfl (((((H.2 c1).2 c3).2 c5).1 ((lg_cmp_eq _ _).mp c6))))))))) (fun c6 => j_aload_n dX10_baseOf_74 rfl 0 rfl (j_iload dX10_baseOf_75 2 rfl (j_iload dX10_baseOf_77 4 rfl (j_callV0 (as := [.int x5, .int x7]) cm_X10_isAncestor im_X10_isAncestor se_X10_isAncestor (ci := 10) rfl (by decide) ml_X10_247 ⟨by decide, by decide⟩ dX10_baseOf_79 rfl rfl (Nat.le_of_ble_eq_true rfl) ((((H.2 c1).2 c3).2 c5).2 (fun z => c6 ((lg_cmp_eq _ _).mpr z))).1 (jj_C.mono ((((H.2 c1).2 c3).2 c5).2 (fun z => c6 ((lg_cmp_eq _ _).mpr z))).2 (fun v8 h7 H10 => jj_vi_e (fun y9 H10 => j_if_ne (tgt := 89) dX10_baseOf_82 (by decide) (fun c11 => j_iconst (v := 0) dX10_baseOf_89 rfl (j_istore (L' := [(6, .int 0), (0, .ref r0), (3, .long l3), (5, .int x5), (7, .int x7)]) dX10_baseOf_90 (by decide) rfl (j_iinc (v := (x7 + 1)) (L' := [(7, .int (x7 + 1)), (6, .int 0), (0, .ref r0), (3, .long l3), (5, .int x5)]) dX10_baseOf_92 4 rfl rfl (by decide) rfl (j_goto (tgt := 44) dX10_baseOf_95 (by decide) (j_sub [2, 3, 4, 1, 0] rfl ((H10.1 c11))))))) (fun c11 => j_iconst (v := 1) dX10_baseOf_85 rfl (j_goto (tgt := 90) dX10_baseOf_86 (by decide) (j_istore (L' := [(6, .int 1), (0, .ref r0), (3, .long l3), (5, .int x5), (7, .int x7)]) dX10_baseOf_90 (by decide) rfl (j_iinc (v := (x7 + 1)) (L' := [(7, .int (x7 + 1)), (6, .int 1), (0, .ref r0), (3, .long l3), (5, .int x5)]) dX10_baseOf_92 4 rfl rfl (by decide) rfl (j_goto (tgt := 44) dX10_baseOf_95 (by decide) (j_sub [2, 3, 4, 1, 0] rfl ((H10.2 c11))))))))) H10)))))))))))))))))))))
theorem dX10_base_0 : decode cX10_base 0 = .ok (.aload_n 0, 1) := by decide +kernel
theorem dX10_base_1 : decode cX10_base 1 = .ok (.iconst 0, 1) := by decide +kernel
theorem dX10_base_2 : decode cX10_base 2 = .ok (.putfield 103, 3) := by decide +kernel
theorem dX10_base_5 : decode cX10_base 5 = .ok (.aload_n 0, 1) := by decide +kernel
theorem dX10_base_6 : decode cX10_base 6 = .ok (.iload_n 1, 1) := by decide +kernel
theorem dX10_base_7 : decode cX10_base 7 = .ok (.invokevirtual 106, 3) := by decide +kernel
theorem dX10_base_10 : decode cX10_base 10 = .ok (.ifCond .eq 20, 3) := by decide +kernel
theorem dX10_base_13 : decode cX10_base 13 = .ok (.aload_n 0, 1) := by decide +kernel
theorem dX10_base_14 : decode cX10_base 14 = .ok (.iload_n 2, 1) := by decide +kernel
theorem dX10_base_15 : decode cX10_base 15 = .ok (.invokevirtual 106, 3) := by decide +kernel
theorem dX10_base_18 : decode cX10_base 18 = .ok (.ifCond .eq 12, 3) := by decide +kernel
theorem dX10_base_21 : decode cX10_base 21 = .ok (.aload_n 0, 1) := by decide +kernel
theorem dX10_base_22 : decode cX10_base 22 = .ok (.iload_n 1, 1) := by decide +kernel
theorem dX10_base_23 : decode cX10_base 23 = .ok (.iload_n 2, 1) := by decide +kernel
theorem dX10_base_24 : decode cX10_base 24 = .ok (.invokevirtual 250, 3) := by decide +kernel
theorem dX10_base_27 : decode cX10_base 27 = .ok (.goto 5, 3) := by decide +kernel
theorem dX10_base_30 : decode cX10_base 30 = .ok (.bipush (-5), 2) := by decide +kernel
theorem dX10_base_32 : decode cX10_base 32 = .ok (.ireturn, 1) := by decide +kernel
theorem EX10_base {h : jj_H} {Q : Value → jj_H → Prop} (r0 : Nat) (x1 : Int32) (x2 : Int32) (H : ∀ d : jj_D, jK h r0 = 11 ∧ (∀ h1, h1 = wI h 500 r0 0 0 → (jj_C mX10_isCommit 0 0 [.ref r0, .int x1] h1 (fun v3 h2 => jj_vi (fun y4 => (y4 = 0 → Q (.int (-5)) h2) ∧ (¬ y4 = 0 → jK h2 r0 = 11 ∧ (jj_C mX10_isCommit 0 0 [.ref r0, .int x2] h2 (fun v8 h7 => jj_vi (fun y9 => (y9 = 0 → Q (.int (-5)) h7) ∧ (¬ y9 = 0 → jK h7 r0 = 11 ∧ (jj_C mX10_baseOf 0 0 [.ref r0, .int x1, .int x2] h7 (fun v13 h12 => jj_vi (fun y14 => Q (.int y14) h12) v13)))) v8)))) v3)))) : jj_C mX10_base 0 0 [.ref r0, .int x1, .int x2] h Q := j_enter (by decide +kernel) (Nat.le_of_ble_eq_true rfl) rfl fun d => have H := H d; j_aload_n dX10_base_0 rfl 0 rfl (j_iconst (v := 0) dX10_base_1 rfl (j_putI (f := 500) cls_X10 0 (by decide) fl_X10_103 rfl rfl rfl (Or.inl rfl) dX10_base_2 H.1 (j_aload_n dX10_base_5 rfl 0 rfl (j_iload_n dX10_base_6 rfl 1 rfl (j_callV0 (as := [.int x1]) cm_X10_isCommit im_X10_isCommit se_X10_isCommit (ci := 10) rfl (by decide) ml_X10_106 ⟨by decide, by decide⟩ dX10_base_7 rfl rfl (Nat.le_of_ble_eq_true rfl) H.1 (jj_C.mono (H.2 _ rfl) (fun v3 h2 H5 => jj_vi_e (fun y4 H5 => j_if_eq (tgt := 30) dX10_base_10 (by decide) (fun c6 => j_bipush (v := (-5)) dX10_base_30 rfl (j_ret (v := .int (-5)) ⟨dX10_base_32, _, rfl⟩ rfl ((H5.1 c6)))) (fun c6 => j_aload_n dX10_base_13 rfl 0 rfl (j_iload_n dX10_base_14 rfl 2 rfl (j_callV0 (as := [.int x2]) cm_X10_isCommit im_X10_isCommit se_X10_isCommit (ci := 10) rfl (by decide) ml_X10_106 ⟨by decide, by decide⟩ dX10_base_15 rfl rfl (Nat.le_of_ble_eq_true rfl) (H5.2 c6).1 (jj_C.mono (H5.2 c6).2 (fun v8 h7 H10 => jj_vi_e (fun y9 H10 => j_if_eq (tgt := 30) dX10_base_18 (by decide) (fun c11 => j_bipush (v := (-5)) dX10_base_30 rfl (j_ret (v := .int (-5)) ⟨dX10_base_32, _, rfl⟩ rfl ((H10.1 c11)))) (fun c11 => j_aload_n dX10_base_21 rfl 0 rfl (j_iload_n dX10_base_22 rfl 1 rfl (j_iload_n dX10_base_23 rfl 2 rfl (j_callV0 (as := [.int x1, .int x2]) cm_X10_baseOf im_X10_baseOf se_X10_baseOf (ci := 10) rfl (by decide) ml_X10_250 ⟨by decide, by decide⟩ dX10_base_24 rfl rfl (Nat.le_of_ble_eq_true rfl) (H10.2 c11).1 (jj_C.mono (H10.2 c11).2 (fun v13 h12 H15 => jj_vi_e (fun y14 H15 => j_goto (tgt := 32) dX10_base_27 (by decide) (j_ret (v := .int y14) ⟨dX10_base_32, _, rfl⟩ rfl (H15))) H15))))))) H10)))))) H5)))))))
theorem dX10_reset_0 : decode cX10_reset 0 = .ok (.aload_n 0, 1) := by decide +kernel
theorem dX10_reset_1 : decode cX10_reset 1 = .ok (.iconst 0, 1) := by decide +kernel
theorem dX10_reset_2 : decode cX10_reset 2 = .ok (.putfield 103, 3) := by decide +kernel
theorem dX10_reset_5 : decode cX10_reset 5 = .ok (.aload_n 0, 1) := by decide +kernel
theorem dX10_reset_6 : decode cX10_reset 6 = .ok (.getfield 168, 3) := by decide +kernel
theorem dX10_reset_9 : decode cX10_reset 9 = .ok (.ifCond .gt 10, 3) := by decide +kernel
theorem dX10_reset_12 : decode cX10_reset 12 = .ok (.aload_n 0, 1) := by decide +kernel
theorem dX10_reset_13 : decode cX10_reset 13 = .ok (.invokevirtual 223, 3) := by decide +kernel
theorem dX10_reset_16 : decode cX10_reset 16 = .ok (.ifCond .ne 7, 3) := by decide +kernel
theorem dX10_reset_19 : decode cX10_reset 19 = .ok (.iconst 1, 1) := by decide +kernel
theorem dX10_reset_20 : decode cX10_reset 20 = .ok (.goto 4, 3) := by decide +kernel
theorem dX10_reset_23 : decode cX10_reset 23 = .ok (.iconst 0, 1) := by decide +kernel
theorem dX10_reset_24 : decode cX10_reset 24 = .ok (.istore_n 1, 1) := by decide +kernel
theorem dX10_reset_25 : decode cX10_reset 25 = .ok (.aload_n 0, 1) := by decide +kernel
theorem dX10_reset_26 : decode cX10_reset 26 = .ok (.aload_n 0, 1) := by decide +kernel
theorem dX10_reset_27 : decode cX10_reset 27 = .ok (.getfield 67, 3) := by decide +kernel
theorem dX10_reset_30 : decode cX10_reset 30 = .ok (.aload_n 0, 1) := by decide +kernel
theorem dX10_reset_31 : decode cX10_reset 31 = .ok (.getfield 131, 3) := by decide +kernel
theorem dX10_reset_34 : decode cX10_reset 34 = .ok (.iaload, 1) := by decide +kernel
theorem dX10_reset_35 : decode cX10_reset 35 = .ok (.bipush 60, 2) := by decide +kernel
theorem dX10_reset_37 : decode cX10_reset 37 = .ok (.invokevirtual 227, 3) := by decide +kernel
theorem dX10_reset_40 : decode cX10_reset 40 = .ok (.aload_n 0, 1) := by decide +kernel
theorem dX10_reset_41 : decode cX10_reset 41 = .ok (.invokevirtual 240, 3) := by decide +kernel
theorem dX10_reset_44 : decode cX10_reset 44 = .ok (.iload_n 1, 1) := by decide +kernel
theorem dX10_reset_45 : decode cX10_reset 45 = .ok (.ifCond .eq 7, 3) := by decide +kernel
theorem dX10_reset_48 : decode cX10_reset 48 = .ok (.iconst 1, 1) := by decide +kernel
theorem dX10_reset_49 : decode cX10_reset 49 = .ok (.goto 4, 3) := by decide +kernel
theorem dX10_reset_52 : decode cX10_reset 52 = .ok (.iconst 0, 1) := by decide +kernel
theorem dX10_reset_53 : decode cX10_reset 53 = .ok (.ireturn, 1) := by decide +kernel
theorem EX10_reset {h : jj_H} {Q : Value → jj_H → Prop} (r0 : Nat) (H : ∀ d : jj_D, jK h r0 = 11 ∧ (∀ h1, h1 = wI h 500 r0 0 0 → ((0 < (jI h1 520 r0 0) → jj_WP d mX10_reset 0 0 24 [(0, .ref r0)] [.int 1] h1 Q) ∧ (¬ 0 < (jI h1 520 r0 0) → jj_C mX10_isClean 0 0 [.ref r0] h1 (fun v4 h3 => jj_vi (fun y5 => (¬ y5 = 0 → jj_WP d mX10_reset 0 0 24 [(0, .ref r0)] [.int 0] h3 Q) ∧ (y5 = 0 → jj_WP d mX10_reset 0 0 24 [(0, .ref r0)] [.int 1] h3 Q)) v4))))) : jj_C mX10_reset 0 0 [.ref r0] h Q := j_enter (by decide +kernel) (Nat.le_of_ble_eq_true rfl) rfl fun d => have H := H d; j_aload_n dX10_reset_0 rfl 0 rfl (j_iconst (v := 0) dX10_reset_1 rfl (j_putI (f := 500) cls_X10 0 (by decide) fl_X10_103 rfl rfl rfl (Or.inl rfl) dX10_reset_2 H.1 (j_aload_n dX10_reset_5 rfl 0 rfl (j_getI (f := 520) cls_X10 20 (by decide) fl_X10_168 rfl (by decide) dX10_reset_6 H.1 (j_if_gt (tgt := 19) dX10_reset_9 (by decide) (fun c2 => j_iconst (v := 1) dX10_reset_19 rfl (j_goto (tgt := 24) dX10_reset_20 (by decide) (j_sub [0] rfl (((H.2 _ rfl).1 c2))))) (fun c2 => j_aload_n dX10_reset_12 rfl 0 rfl (j_callV0 (as := []) cm_X10_isClean im_X10_isClean se_X10_isClean (ci := 10) rfl (by decide) ml_X10_223 ⟨by decide, by decide⟩ dX10_reset_13 rfl rfl (Nat.le_of_ble_eq_true rfl) H.1 (jj_C.mono ((H.2 _ rfl).2 c2) (fun v4 h3 H6 => jj_vi_e (fun y5 H6 => j_if_ne (tgt := 23) dX10_reset_16 (by decide) (fun c7 => j_iconst (v := 0) dX10_reset_23 rfl (j_sub [0] rfl ((H6.1 c7)))) (fun c7 => j_iconst (v := 1) dX10_reset_19 rfl (j_goto (tgt := 24) dX10_reset_20 (by decide) (j_sub [0] rfl ((H6.2 c7)))))) H6)))))))))
theorem VX10_reset_24 {d : jj_D} {h : jj_H} {Q : Value → jj_H → Prop} (r0 : Nat) (xs0 : Int32) (H : jK h r0 = 11 ∧ (jK h (jR h 518 r0 0) = 21 ∧ (vp_in (jI h 519 r0 0) (jN h (jR h 518 r0 0)) ∧ (jj_C mX10_copy 0 0 [.ref r0, .int (jI h 1000 (jR h 518 r0 0) (Int32.toNatClampNeg (jI h 519 r0 0))), .int 60] h (fun v2 h1 => jK h1 r0 = 11 ∧ (jj_C mX10_over 0 0 [.ref r0] h1 (fun v5 h4 => (xs0 = 0 → Q (.int 0) h4) ∧ (¬ xs0 = 0 → Q (.int 1) h4)))))))) : jj_WP d mX10_reset 0 0 24 [(0, .ref r0)] [.int xs0] h Q := j_istore_n (L' := [(1, .int xs0), (0, .ref r0)]) dX10_reset_24 rfl (by decide) rfl (j_aload_n dX10_reset_25 rfl 1 rfl (j_aload_n dX10_reset_26 rfl 1 rfl (j_getR (f := 518) cls_X10 18 (by decide) fl_X10_67 rfl rfl dX10_reset_27 H.1 (j_aload_n dX10_reset_30 rfl 1 rfl (j_getI (f := 519) cls_X10 19 (by decide) fl_X10_131 rfl (by decide) dX10_reset_31 H.1 (j_iald dX10_reset_34 H.2.1 H.2.2.1 (j_bipush (v := 60) dX10_reset_35 rfl (j_callV0 (as := [.int (jI h 1000 (jR h 518 r0 0) (Int32.toNatClampNeg (jI h 519 r0 0))), .int 60]) cm_X10_copy im_X10_copy se_X10_copy (ci := 10) rfl (by decide) ml_X10_227 ⟨by decide, by decide⟩ dX10_reset_37 rfl rfl (Nat.le_of_ble_eq_true rfl) H.1 (jj_C.mono H.2.2.2 (fun v2 h1 H3 => j_aload_n dX10_reset_40 rfl 1 rfl (j_callV0 (as := []) cm_X10_over im_X10_over se_X10_over (ci := 10) rfl (by decide) ml_X10_240 ⟨by decide, by decide⟩ dX10_reset_41 rfl rfl (Nat.le_of_ble_eq_true rfl) H3.1 (jj_C.mono H3.2 (fun v5 h4 H6 => j_iload_n dX10_reset_44 rfl 0 rfl (j_if_eq (tgt := 52) dX10_reset_45 (by decide) (fun c7 => j_iconst (v := 0) dX10_reset_52 rfl (j_ret (v := .int 0) ⟨dX10_reset_53, _, rfl⟩ rfl ((H6.1 c7)))) (fun c7 => j_iconst (v := 1) dX10_reset_48 rfl (j_goto (tgt := 53) dX10_reset_49 (by decide) (j_ret (v := .int 1) ⟨dX10_reset_53, _, rfl⟩ rfl ((H6.2 c7)))))))))))))))))))
theorem dX10_sweep_0 : decode cX10_sweep 0 = .ok (.aload_n 0, 1) := by decide +kernel
theorem dX10_sweep_1 : decode cX10_sweep 1 = .ok (.iconst 0, 1) := by decide +kernel
theorem dX10_sweep_2 : decode cX10_sweep 2 = .ok (.putfield 103, 3) := by decide +kernel
theorem dX10_sweep_5 : decode cX10_sweep 5 = .ok (.aload_n 0, 1) := by decide +kernel
theorem dX10_sweep_6 : decode cX10_sweep 6 = .ok (.getfield 168, 3) := by decide +kernel
theorem dX10_sweep_9 : decode cX10_sweep 9 = .ok (.ifCond .le 6, 3) := by decide +kernel
theorem dX10_sweep_12 : decode cX10_sweep 12 = .ok (.bipush (-3), 2) := by decide +kernel
theorem dX10_sweep_14 : decode cX10_sweep 14 = .ok (.ireturn, 1) := by decide +kernel
theorem dX10_sweep_15 : decode cX10_sweep 15 = .ok (.lconst 0, 1) := by decide +kernel
theorem dX10_sweep_16 : decode cX10_sweep 16 = .ok (.lstore_n 1, 1) := by decide +kernel
theorem dX10_sweep_17 : decode cX10_sweep 17 = .ok (.iconst 0, 1) := by decide +kernel
theorem dX10_sweep_18 : decode cX10_sweep 18 = .ok (.istore_n 3, 1) := by decide +kernel
theorem dX10_sweep_19 : decode cX10_sweep 19 = .ok (.iload_n 3, 1) := by decide +kernel
theorem dX10_sweep_20 : decode cX10_sweep 20 = .ok (.bipush 6, 2) := by decide +kernel
theorem dX10_sweep_22 : decode cX10_sweep 22 = .ok (.if_icmp .ge 37, 3) := by decide +kernel
theorem dX10_sweep_25 : decode cX10_sweep 25 = .ok (.lload_n 1, 1) := by decide +kernel
theorem dX10_sweep_26 : decode cX10_sweep 26 = .ok (.aload_n 0, 1) := by decide +kernel
theorem dX10_sweep_27 : decode cX10_sweep 27 = .ok (.getfield 67, 3) := by decide +kernel
theorem dX10_sweep_30 : decode cX10_sweep 30 = .ok (.iload_n 3, 1) := by decide +kernel
theorem dX10_sweep_31 : decode cX10_sweep 31 = .ok (.iaload, 1) := by decide +kernel
theorem dX10_sweep_32 : decode cX10_sweep 32 = .ok (.iconst (-1), 1) := by decide +kernel
theorem dX10_sweep_33 : decode cX10_sweep 33 = .ok (.if_icmp .ne 7, 3) := by decide +kernel
theorem dX10_sweep_36 : decode cX10_sweep 36 = .ok (.lconst 0, 1) := by decide +kernel
theorem dX10_sweep_37 : decode cX10_sweep 37 = .ok (.goto 14, 3) := by decide +kernel
theorem dX10_sweep_40 : decode cX10_sweep 40 = .ok (.aload_n 0, 1) := by decide +kernel
theorem dX10_sweep_41 : decode cX10_sweep 41 = .ok (.getfield 64, 3) := by decide +kernel
theorem dX10_sweep_44 : decode cX10_sweep 44 = .ok (.aload_n 0, 1) := by decide +kernel
theorem dX10_sweep_45 : decode cX10_sweep 45 = .ok (.getfield 67, 3) := by decide +kernel
theorem dX10_sweep_48 : decode cX10_sweep 48 = .ok (.iload_n 3, 1) := by decide +kernel
theorem dX10_sweep_49 : decode cX10_sweep 49 = .ok (.iaload, 1) := by decide +kernel
theorem dX10_sweep_50 : decode cX10_sweep 50 = .ok (.laload, 1) := by decide +kernel
theorem dX10_sweep_51 : decode cX10_sweep 51 = .ok (.lor, 1) := by decide +kernel
theorem dX10_sweep_52 : decode cX10_sweep 52 = .ok (.lstore_n 1, 1) := by decide +kernel
theorem dX10_sweep_53 : decode cX10_sweep 53 = .ok (.iinc 3 1, 3) := by decide +kernel
theorem dX10_sweep_56 : decode cX10_sweep 56 = .ok (.goto (-37), 3) := by decide +kernel
theorem dX10_sweep_59 : decode cX10_sweep 59 = .ok (.aload_n 0, 1) := by decide +kernel
theorem dX10_sweep_60 : decode cX10_sweep 60 = .ok (.getfield 54, 3) := by decide +kernel
theorem dX10_sweep_63 : decode cX10_sweep 63 = .ok (.lload_n 1, 1) := by decide +kernel
theorem dX10_sweep_64 : decode cX10_sweep 64 = .ok (.ldc2_w 253, 3) := by decide +kernel
theorem dX10_sweep_67 : decode cX10_sweep 67 = .ok (.lxor, 1) := by decide +kernel
theorem dX10_sweep_68 : decode cX10_sweep 68 = .ok (.land, 1) := by decide +kernel
theorem dX10_sweep_69 : decode cX10_sweep 69 = .ok (.invokestatic 243, 3) := by decide +kernel
theorem dX10_sweep_72 : decode cX10_sweep 72 = .ok (.istore_n 3, 1) := by decide +kernel
theorem dX10_sweep_73 : decode cX10_sweep 73 = .ok (.aload_n 0, 1) := by decide +kernel
theorem dX10_sweep_74 : decode cX10_sweep 74 = .ok (.dup, 1) := by decide +kernel
theorem dX10_sweep_75 : decode cX10_sweep 75 = .ok (.getfield 54, 3) := by decide +kernel
theorem dX10_sweep_78 : decode cX10_sweep 78 = .ok (.lload_n 1, 1) := by decide +kernel
theorem dX10_sweep_79 : decode cX10_sweep 79 = .ok (.land, 1) := by decide +kernel
theorem dX10_sweep_80 : decode cX10_sweep 80 = .ok (.putfield 54, 3) := by decide +kernel
theorem dX10_sweep_83 : decode cX10_sweep 83 = .ok (.iload_n 3, 1) := by decide +kernel
theorem dX10_sweep_84 : decode cX10_sweep 84 = .ok (.ireturn, 1) := by decide +kernel
theorem EX10_sweep {h : jj_H} {Q : Value → jj_H → Prop} (r0 : Nat) (H : ∀ d : jj_D, jK h r0 = 11 ∧ (∀ h1, h1 = wI h 500 r0 0 0 → (((jI h1 520 r0 0) ≤ 0 → jj_WP d mX10_sweep 0 0 19 [(0, .ref r0), (1, .long 0), (3, .int 0)] [] h1 Q) ∧ (¬ (jI h1 520 r0 0) ≤ 0 → Q (.int (-3)) h1)))) : jj_C mX10_sweep 0 0 [.ref r0] h Q := j_enter (by decide +kernel) (Nat.le_of_ble_eq_true rfl) rfl fun d => have H := H d; j_aload_n dX10_sweep_0 rfl 0 rfl (j_iconst (v := 0) dX10_sweep_1 rfl (j_putI (f := 500) cls_X10 0 (by decide) fl_X10_103 rfl rfl rfl (Or.inl rfl) dX10_sweep_2 H.1 (j_aload_n dX10_sweep_5 rfl 0 rfl (j_getI (f := 520) cls_X10 20 (by decide) fl_X10_168 rfl (by decide) dX10_sweep_6 H.1 (j_if_le (tgt := 15) dX10_sweep_9 (by decide) (fun c2 => j_lconst (v := 0) dX10_sweep_15 rfl (j_lstore_n (L' := [(1, .long 0), (0, .ref r0)]) dX10_sweep_16 rfl (by decide) rfl (j_iconst (v := 0) dX10_sweep_17 rfl (j_istore_n (L' := [(3, .int 0), (1, .long 0), (0, .ref r0)]) dX10_sweep_18 rfl (by decide) rfl (j_sub [2, 1, 0] rfl (((H.2 _ rfl).1 c2))))))) (fun c2 => j_bipush (v := (-3)) dX10_sweep_12 rfl (j_ret (v := .int (-3)) ⟨dX10_sweep_14, _, rfl⟩ rfl (((H.2 _ rfl).2 c2)))))))))
theorem VX10_sweep_19 {d : jj_D} {h : jj_H} {Q : Value → jj_H → Prop} (r0 : Nat) (l1 : Int64) (x3 : Int32) (H : (6 ≤ x3 → jK h r0 = 11 ∧ (jj_C mX10_bits 0 0 [.long ((jL h 514 r0 0) &&& (l1 ^^^ (-1)))] h (fun v3 h2 => jj_vi (fun y4 => jK h2 r0 = 11 ∧ (∀ h6, h6 = wL h2 514 r0 0 ((jL h2 514 r0 0) &&& l1) → (Q (.int y4) h6))) v3))) ∧ (¬ 6 ≤ x3 → jK h r0 = 11 ∧ (jK h (jR h 518 r0 0) = 21 ∧ (vp_in x3 (jN h (jR h 518 r0 0)) ∧ ((¬ (jI h 1000 (jR h 518 r0 0) (Int32.toNatClampNeg x3)) = (-1) → jK h (jR h 517 r0 0) = 22 ∧ (vp_in (jI h 1000 (jR h 518 r0 0) (Int32.toNatClampNeg x3)) (jN h (jR h 517 r0 0)) ∧ (jj_WP d mX10_sweep 0 0 19 [(0, .ref r0), (1, .long (l1 ||| (jL h 1000 (jR h 517 r0 0) (Int32.toNatClampNeg (jI h 1000 (jR h 518 r0 0) (Int32.toNatClampNeg x3)))))), (3, .int (x3 + 1))] [] h Q))) ∧ ((jI h 1000 (jR h 518 r0 0) (Int32.toNatClampNeg x3)) = (-1) → jj_WP d mX10_sweep 0 0 19 [(0, .ref r0), (1, .long (l1 ||| 0)), (3, .int (x3 + 1))] [] h Q)))))) : jj_WP d mX10_sweep 0 0 19 [(0, .ref r0), (1, .long l1), (3, .int x3)] [] h Q := j_iload_n dX10_sweep_19 rfl 2 rfl (j_bipush (v := 6) dX10_sweep_20 rfl (j_icmp_ge (tgt := 59) dX10_sweep_22 (by decide) (fun c1 => j_aload_n dX10_sweep_59 rfl 0 rfl (j_getL (f := 514) cls_X10 14 (by decide) fl_X10_54 rfl rfl dX10_sweep_60 (H.1 c1).1 (j_lload_n dX10_sweep_63 rfl 1 rfl (j_ldc2 (v := (-1)) dX10_sweep_64 kc_X10_253 (j_lxor dX10_sweep_67 (j_land dX10_sweep_68 (j_callS0 (as := [.long ((jL h 514 r0 0) &&& (l1 ^^^ (-1)))]) cm_X10_bits sm_X10_bits ml_X10_243 ⟨by decide, by decide⟩ dX10_sweep_69 rfl rfl (Nat.le_of_ble_eq_true rfl) (jj_C.mono (H.1 c1).2 (fun v3 h2 H5 => jj_vi_e (fun y4 H5 => j_istore_n (L' := [(3, .int y4), (0, .ref r0), (1, .long l1)]) dX10_sweep_72 rfl (by decide) rfl (j_aload_n dX10_sweep_73 rfl 1 rfl (j_dup dX10_sweep_74 rfl (j_getL (f := 514) cls_X10 14 (by decide) fl_X10_54 rfl rfl dX10_sweep_75 H5.1 (j_lload_n dX10_sweep_78 rfl 2 rfl (j_land dX10_sweep_79 (j_putL (f := 514) cls_X10 14 (by decide) fl_X10_54 rfl rfl rfl (Or.inl rfl) dX10_sweep_80 H5.1 (j_iload_n dX10_sweep_83 rfl 0 rfl (j_ret (v := .int y4) ⟨dX10_sweep_84, _, rfl⟩ rfl ((H5.2 _ rfl))))))))))) H5))))))))) (fun c1 => j_lload_n dX10_sweep_25 rfl 1 rfl (j_aload_n dX10_sweep_26 rfl 0 rfl (j_getR (f := 518) cls_X10 18 (by decide) fl_X10_67 rfl rfl dX10_sweep_27 (H.2 c1).1 (j_iload_n dX10_sweep_30 rfl 2 rfl (j_iald dX10_sweep_31 (H.2 c1).2.1 (H.2 c1).2.2.1 (j_iconst (v := (-1)) dX10_sweep_32 rfl (j_icmp_ne (tgt := 40) dX10_sweep_33 (by decide) (fun c7 => j_aload_n dX10_sweep_40 rfl 0 rfl (j_getR (f := 517) cls_X10 17 (by decide) fl_X10_64 rfl rfl dX10_sweep_41 (H.2 c1).1 (j_aload_n dX10_sweep_44 rfl 0 rfl (j_getR (f := 518) cls_X10 18 (by decide) fl_X10_67 rfl rfl dX10_sweep_45 (H.2 c1).1 (j_iload_n dX10_sweep_48 rfl 2 rfl (j_iald dX10_sweep_49 (H.2 c1).2.1 (H.2 c1).2.2.1 (j_lald dX10_sweep_50 ((H.2 c1).2.2.2.1 c7).1 ((H.2 c1).2.2.2.1 c7).2.1 (j_lor dX10_sweep_51 (j_lstore_n (L' := [(1, .long (l1 ||| (jL h 1000 (jR h 517 r0 0) (Int32.toNatClampNeg (jI h 1000 (jR h 518 r0 0) (Int32.toNatClampNeg x3)))))), (0, .ref r0), (3, .int x3)]) dX10_sweep_52 rfl (by decide) rfl (j_iinc (v := (x3 + 1)) (L' := [(3, .int (x3 + 1)), (1, .long (l1 ||| (jL h 1000 (jR h 517 r0 0) (Int32.toNatClampNeg (jI h 1000 (jR h 518 r0 0) (Int32.toNatClampNeg x3)))))), (0, .ref r0)]) dX10_sweep_53 2 rfl rfl (by decide) rfl (j_goto (tgt := 19) dX10_sweep_56 (by decide) (j_sub [2, 1, 0] rfl (((H.2 c1).2.2.2.1 c7).2.2))))))))))))) (fun c7 => j_lconst (v := 0) dX10_sweep_36 rfl (j_goto (tgt := 51) dX10_sweep_37 (by decide) (j_lor dX10_sweep_51 (j_lstore_n (L' := [(1, .long (l1 ||| 0)), (0, .ref r0), (3, .int x3)]) dX10_sweep_52 rfl (by decide) rfl (j_iinc (v := (x3 + 1)) (L' := [(3, .int (x3 + 1)), (1, .long (l1 ||| 0)), (0, .ref r0)]) dX10_sweep_53 2 rfl rfl (by decide) rfl (j_goto (tgt := 19) dX10_sweep_56 (by decide) (j_sub [2, 1, 0] rfl (((H.2 c1).2.2.2.2 c7))))))))))))))))))
theorem dX10_diff_0 : decode cX10_diff 0 = .ok (.aload_n 0, 1) := by decide +kernel
theorem dX10_diff_1 : decode cX10_diff 1 = .ok (.iconst 0, 1) := by decide +kernel
theorem dX10_diff_2 : decode cX10_diff 2 = .ok (.putfield 103, 3) := by decide +kernel
theorem dX10_diff_5 : decode cX10_diff 5 = .ok (.aload_n 0, 1) := by decide +kernel
theorem dX10_diff_6 : decode cX10_diff 6 = .ok (.iload_n 1, 1) := by decide +kernel
theorem dX10_diff_7 : decode cX10_diff 7 = .ok (.invokevirtual 191, 3) := by decide +kernel
theorem dX10_diff_10 : decode cX10_diff 10 = .ok (.istore 4, 2) := by decide +kernel
theorem dX10_diff_12 : decode cX10_diff 12 = .ok (.aload_n 0, 1) := by decide +kernel
theorem dX10_diff_13 : decode cX10_diff 13 = .ok (.iload_n 2, 1) := by decide +kernel
theorem dX10_diff_14 : decode cX10_diff 14 = .ok (.invokevirtual 191, 3) := by decide +kernel
theorem dX10_diff_17 : decode cX10_diff 17 = .ok (.istore 5, 2) := by decide +kernel
theorem dX10_diff_19 : decode cX10_diff 19 = .ok (.iload 4, 2) := by decide +kernel
theorem dX10_diff_21 : decode cX10_diff 21 = .ok (.bipush (-5), 2) := by decide +kernel
theorem dX10_diff_23 : decode cX10_diff 23 = .ok (.if_icmp .eq 17, 3) := by decide +kernel
theorem dX10_diff_26 : decode cX10_diff 26 = .ok (.iload 5, 2) := by decide +kernel
theorem dX10_diff_28 : decode cX10_diff 28 = .ok (.bipush (-5), 2) := by decide +kernel
theorem dX10_diff_30 : decode cX10_diff 30 = .ok (.if_icmp .eq 10, 3) := by decide +kernel
theorem dX10_diff_33 : decode cX10_diff 33 = .ok (.iload_n 3, 1) := by decide +kernel
theorem dX10_diff_34 : decode cX10_diff 34 = .ok (.invokestatic 165, 3) := by decide +kernel
theorem dX10_diff_37 : decode cX10_diff 37 = .ok (.ifCond .ne 6, 3) := by decide +kernel
theorem dX10_diff_40 : decode cX10_diff 40 = .ok (.bipush (-5), 2) := by decide +kernel
theorem dX10_diff_42 : decode cX10_diff 42 = .ok (.ireturn, 1) := by decide +kernel
theorem dX10_diff_43 : decode cX10_diff 43 = .ok (.aload_n 0, 1) := by decide +kernel
theorem dX10_diff_44 : decode cX10_diff 44 = .ok (.iconst 0, 1) := by decide +kernel
theorem dX10_diff_45 : decode cX10_diff 45 = .ok (.putfield 255, 3) := by decide +kernel
theorem dX10_diff_48 : decode cX10_diff 48 = .ok (.iconst 0, 1) := by decide +kernel
theorem dX10_diff_49 : decode cX10_diff 49 = .ok (.istore 6, 2) := by decide +kernel
theorem dX10_diff_51 : decode cX10_diff 51 = .ok (.iconst 0, 1) := by decide +kernel
theorem dX10_diff_52 : decode cX10_diff 52 = .ok (.istore 7, 2) := by decide +kernel
theorem dX10_diff_54 : decode cX10_diff 54 = .ok (.iload 6, 2) := by decide +kernel
theorem dX10_diff_56 : decode cX10_diff 56 = .ok (.aload_n 0, 1) := by decide +kernel
theorem dX10_diff_57 : decode cX10_diff 57 = .ok (.getfield 18, 3) := by decide +kernel
theorem dX10_diff_60 : decode cX10_diff 60 = .ok (.iconst 3, 1) := by decide +kernel
theorem dX10_diff_61 : decode cX10_diff 61 = .ok (.iload 4, 2) := by decide +kernel
theorem dX10_diff_63 : decode cX10_diff 63 = .ok (.imul, 1) := by decide +kernel
theorem dX10_diff_64 : decode cX10_diff 64 = .ok (.iload_n 3, 1) := by decide +kernel
theorem dX10_diff_65 : decode cX10_diff 65 = .ok (.iadd, 1) := by decide +kernel
theorem dX10_diff_66 : decode cX10_diff 66 = .ok (.iaload, 1) := by decide +kernel
theorem dX10_diff_67 : decode cX10_diff 67 = .ok (.if_icmp .lt 19, 3) := by decide +kernel
theorem dX10_diff_70 : decode cX10_diff 70 = .ok (.iload 7, 2) := by decide +kernel
theorem dX10_diff_72 : decode cX10_diff 72 = .ok (.aload_n 0, 1) := by decide +kernel
theorem dX10_diff_73 : decode cX10_diff 73 = .ok (.getfield 18, 3) := by decide +kernel
theorem dX10_diff_76 : decode cX10_diff 76 = .ok (.iconst 3, 1) := by decide +kernel
theorem dX10_diff_77 : decode cX10_diff 77 = .ok (.iload 5, 2) := by decide +kernel
theorem dX10_diff_79 : decode cX10_diff 79 = .ok (.imul, 1) := by decide +kernel
theorem dX10_diff_80 : decode cX10_diff 80 = .ok (.iload_n 3, 1) := by decide +kernel
theorem dX10_diff_81 : decode cX10_diff 81 = .ok (.iadd, 1) := by decide +kernel
theorem dX10_diff_82 : decode cX10_diff 82 = .ok (.iaload, 1) := by decide +kernel
theorem dX10_diff_83 : decode cX10_diff 83 = .ok (.if_icmp .ge 316, 3) := by decide +kernel
theorem dX10_diff_86 : decode cX10_diff 86 = .ok (.aload_n 0, 1) := by decide +kernel
theorem dX10_diff_87 : decode cX10_diff 87 = .ok (.iload 4, 2) := by decide +kernel
theorem dX10_diff_89 : decode cX10_diff 89 = .ok (.iload_n 3, 1) := by decide +kernel
theorem dX10_diff_90 : decode cX10_diff 90 = .ok (.iload 6, 2) := by decide +kernel
theorem dX10_diff_92 : decode cX10_diff 92 = .ok (.invokevirtual 110, 3) := by decide +kernel
theorem dX10_diff_95 : decode cX10_diff 95 = .ok (.istore 8, 2) := by decide +kernel
theorem dX10_diff_97 : decode cX10_diff 97 = .ok (.aload_n 0, 1) := by decide +kernel
theorem dX10_diff_98 : decode cX10_diff 98 = .ok (.iload 5, 2) := by decide +kernel
theorem dX10_diff_100 : decode cX10_diff 100 = .ok (.iload_n 3, 1) := by decide +kernel
theorem dX10_diff_101 : decode cX10_diff 101 = .ok (.iload 7, 2) := by decide +kernel
theorem dX10_diff_103 : decode cX10_diff 103 = .ok (.invokevirtual 110, 3) := by decide +kernel
theorem dX10_diff_106 : decode cX10_diff 106 = .ok (.istore 9, 2) := by decide +kernel
theorem dX10_diff_108 : decode cX10_diff 108 = .ok (.iload 6, 2) := by decide +kernel
theorem dX10_diff_110 : decode cX10_diff 110 = .ok (.aload_n 0, 1) := by decide +kernel
theorem dX10_diff_111 : decode cX10_diff 111 = .ok (.getfield 18, 3) := by decide +kernel
theorem dX10_diff_114 : decode cX10_diff 114 = .ok (.iconst 3, 1) := by decide +kernel
theorem dX10_diff_115 : decode cX10_diff 115 = .ok (.iload 4, 2) := by decide +kernel
theorem dX10_diff_117 : decode cX10_diff 117 = .ok (.imul, 1) := by decide +kernel
theorem dX10_diff_118 : decode cX10_diff 118 = .ok (.iload_n 3, 1) := by decide +kernel
theorem dX10_diff_119 : decode cX10_diff 119 = .ok (.iadd, 1) := by decide +kernel
theorem dX10_diff_120 : decode cX10_diff 120 = .ok (.iaload, 1) := by decide +kernel
theorem dX10_diff_121 : decode cX10_diff 121 = .ok (.if_icmp .ge 40, 3) := by decide +kernel
theorem dX10_diff_124 : decode cX10_diff 124 = .ok (.iload 7, 2) := by decide +kernel
theorem dX10_diff_126 : decode cX10_diff 126 = .ok (.aload_n 0, 1) := by decide +kernel
theorem dX10_diff_127 : decode cX10_diff 127 = .ok (.getfield 18, 3) := by decide +kernel
theorem dX10_diff_130 : decode cX10_diff 130 = .ok (.iconst 3, 1) := by decide +kernel
theorem dX10_diff_131 : decode cX10_diff 131 = .ok (.iload 5, 2) := by decide +kernel
theorem dX10_diff_133 : decode cX10_diff 133 = .ok (.imul, 1) := by decide +kernel
theorem dX10_diff_134 : decode cX10_diff 134 = .ok (.iload_n 3, 1) := by decide +kernel
theorem dX10_diff_135 : decode cX10_diff 135 = .ok (.iadd, 1) := by decide +kernel
theorem dX10_diff_136 : decode cX10_diff 136 = .ok (.iaload, 1) := by decide +kernel
theorem dX10_diff_137 : decode cX10_diff 137 = .ok (.if_icmp .eq 20, 3) := by decide +kernel
theorem dX10_diff_140 : decode cX10_diff 140 = .ok (.aload_n 0, 1) := by decide +kernel
theorem dX10_diff_141 : decode cX10_diff 141 = .ok (.getfield 8, 3) := by decide +kernel
theorem dX10_diff_144 : decode cX10_diff 144 = .ok (.iload 8, 2) := by decide +kernel
theorem dX10_diff_146 : decode cX10_diff 146 = .ok (.iaload, 1) := by decide +kernel
theorem dX10_diff_147 : decode cX10_diff 147 = .ok (.aload_n 0, 1) := by decide +kernel
theorem dX10_diff_148 : decode cX10_diff 148 = .ok (.getfield 8, 3) := by decide +kernel
theorem dX10_diff_151 : decode cX10_diff 151 = .ok (.iload 9, 2) := by decide +kernel
theorem dX10_diff_153 : decode cX10_diff 153 = .ok (.iaload, 1) := by decide +kernel
theorem dX10_diff_154 : decode cX10_diff 154 = .ok (.if_icmp .gt 7, 3) := by decide +kernel
theorem dX10_diff_157 : decode cX10_diff 157 = .ok (.iconst 1, 1) := by decide +kernel
theorem dX10_diff_158 : decode cX10_diff 158 = .ok (.goto 4, 3) := by decide +kernel
theorem dX10_diff_161 : decode cX10_diff 161 = .ok (.iconst 0, 1) := by decide +kernel
theorem dX10_diff_162 : decode cX10_diff 162 = .ok (.istore 10, 2) := by decide +kernel
theorem dX10_diff_164 : decode cX10_diff 164 = .ok (.iload 7, 2) := by decide +kernel
theorem dX10_diff_166 : decode cX10_diff 166 = .ok (.aload_n 0, 1) := by decide +kernel
theorem dX10_diff_167 : decode cX10_diff 167 = .ok (.getfield 18, 3) := by decide +kernel
theorem dX10_diff_170 : decode cX10_diff 170 = .ok (.iconst 3, 1) := by decide +kernel
theorem dX10_diff_171 : decode cX10_diff 171 = .ok (.iload 5, 2) := by decide +kernel
theorem dX10_diff_173 : decode cX10_diff 173 = .ok (.imul, 1) := by decide +kernel
theorem dX10_diff_174 : decode cX10_diff 174 = .ok (.iload_n 3, 1) := by decide +kernel
theorem dX10_diff_175 : decode cX10_diff 175 = .ok (.iadd, 1) := by decide +kernel
theorem dX10_diff_176 : decode cX10_diff 176 = .ok (.iaload, 1) := by decide +kernel
theorem dX10_diff_177 : decode cX10_diff 177 = .ok (.if_icmp .ge 40, 3) := by decide +kernel
theorem dX10_diff_180 : decode cX10_diff 180 = .ok (.iload 6, 2) := by decide +kernel
theorem dX10_diff_182 : decode cX10_diff 182 = .ok (.aload_n 0, 1) := by decide +kernel
theorem dX10_diff_183 : decode cX10_diff 183 = .ok (.getfield 18, 3) := by decide +kernel
theorem dX10_diff_186 : decode cX10_diff 186 = .ok (.iconst 3, 1) := by decide +kernel
theorem dX10_diff_187 : decode cX10_diff 187 = .ok (.iload 4, 2) := by decide +kernel
theorem dX10_diff_189 : decode cX10_diff 189 = .ok (.imul, 1) := by decide +kernel
theorem dX10_diff_190 : decode cX10_diff 190 = .ok (.iload_n 3, 1) := by decide +kernel
theorem dX10_diff_191 : decode cX10_diff 191 = .ok (.iadd, 1) := by decide +kernel
theorem dX10_diff_192 : decode cX10_diff 192 = .ok (.iaload, 1) := by decide +kernel
theorem dX10_diff_193 : decode cX10_diff 193 = .ok (.if_icmp .eq 20, 3) := by decide +kernel
theorem dX10_diff_196 : decode cX10_diff 196 = .ok (.aload_n 0, 1) := by decide +kernel
theorem dX10_diff_197 : decode cX10_diff 197 = .ok (.getfield 8, 3) := by decide +kernel
theorem dX10_diff_200 : decode cX10_diff 200 = .ok (.iload 9, 2) := by decide +kernel
theorem dX10_diff_202 : decode cX10_diff 202 = .ok (.iaload, 1) := by decide +kernel
theorem dX10_diff_203 : decode cX10_diff 203 = .ok (.aload_n 0, 1) := by decide +kernel
theorem dX10_diff_204 : decode cX10_diff 204 = .ok (.getfield 8, 3) := by decide +kernel
theorem dX10_diff_207 : decode cX10_diff 207 = .ok (.iload 8, 2) := by decide +kernel
theorem dX10_diff_209 : decode cX10_diff 209 = .ok (.iaload, 1) := by decide +kernel
theorem dX10_diff_210 : decode cX10_diff 210 = .ok (.if_icmp .gt 7, 3) := by decide +kernel
theorem dX10_diff_213 : decode cX10_diff 213 = .ok (.iconst 1, 1) := by decide +kernel
theorem dX10_diff_214 : decode cX10_diff 214 = .ok (.goto 4, 3) := by decide +kernel
theorem dX10_diff_217 : decode cX10_diff 217 = .ok (.iconst 0, 1) := by decide +kernel
theorem dX10_diff_218 : decode cX10_diff 218 = .ok (.istore 11, 2) := by decide +kernel
theorem dX10_diff_220 : decode cX10_diff 220 = .ok (.iload 10, 2) := by decide +kernel
theorem dX10_diff_222 : decode cX10_diff 222 = .ok (.ifCond .ne 7, 3) := by decide +kernel
theorem dX10_diff_225 : decode cX10_diff 225 = .ok (.iconst 1, 1) := by decide +kernel
theorem dX10_diff_226 : decode cX10_diff 226 = .ok (.goto 14, 3) := by decide +kernel
theorem dX10_diff_229 : decode cX10_diff 229 = .ok (.iload 11, 2) := by decide +kernel
theorem dX10_diff_231 : decode cX10_diff 231 = .ok (.ifCond .ne 7, 3) := by decide +kernel
theorem dX10_diff_234 : decode cX10_diff 234 = .ok (.iconst 2, 1) := by decide +kernel
theorem dX10_diff_235 : decode cX10_diff 235 = .ok (.goto 5, 3) := by decide +kernel
theorem dX10_diff_238 : decode cX10_diff 238 = .ok (.bipush 8, 2) := by decide +kernel
theorem dX10_diff_240 : decode cX10_diff 240 = .ok (.istore 12, 2) := by decide +kernel
theorem dX10_diff_242 : decode cX10_diff 242 = .ok (.iload 10, 2) := by decide +kernel
theorem dX10_diff_244 : decode cX10_diff 244 = .ok (.ifCond .eq 63, 3) := by decide +kernel
theorem dX10_diff_247 : decode cX10_diff 247 = .ok (.iload 11, 2) := by decide +kernel
theorem dX10_diff_249 : decode cX10_diff 249 = .ok (.ifCond .eq 58, 3) := by decide +kernel
theorem dX10_diff_252 : decode cX10_diff 252 = .ok (.iconst 0, 1) := by decide +kernel
theorem dX10_diff_253 : decode cX10_diff 253 = .ok (.istore 13, 2) := by decide +kernel
theorem dX10_diff_255 : decode cX10_diff 255 = .ok (.iload 13, 2) := by decide +kernel
theorem dX10_diff_257 : decode cX10_diff 257 = .ok (.iconst 3, 1) := by decide +kernel
theorem dX10_diff_258 : decode cX10_diff 258 = .ok (.if_icmp .ge 49, 3) := by decide +kernel
theorem dX10_diff_261 : decode cX10_diff 261 = .ok (.iload 12, 2) := by decide +kernel
theorem dX10_diff_263 : decode cX10_diff 263 = .ok (.aload_n 0, 1) := by decide +kernel
theorem dX10_diff_264 : decode cX10_diff 264 = .ok (.getfield 15, 3) := by decide +kernel
theorem dX10_diff_267 : decode cX10_diff 267 = .ok (.iconst 3, 1) := by decide +kernel
theorem dX10_diff_268 : decode cX10_diff 268 = .ok (.iload 8, 2) := by decide +kernel
theorem dX10_diff_270 : decode cX10_diff 270 = .ok (.imul, 1) := by decide +kernel
theorem dX10_diff_271 : decode cX10_diff 271 = .ok (.iload 13, 2) := by decide +kernel
theorem dX10_diff_273 : decode cX10_diff 273 = .ok (.iadd, 1) := by decide +kernel
theorem dX10_diff_274 : decode cX10_diff 274 = .ok (.iaload, 1) := by decide +kernel
theorem dX10_diff_275 : decode cX10_diff 275 = .ok (.aload_n 0, 1) := by decide +kernel
theorem dX10_diff_276 : decode cX10_diff 276 = .ok (.getfield 15, 3) := by decide +kernel
theorem dX10_diff_279 : decode cX10_diff 279 = .ok (.iconst 3, 1) := by decide +kernel
theorem dX10_diff_280 : decode cX10_diff 280 = .ok (.iload 9, 2) := by decide +kernel
theorem dX10_diff_282 : decode cX10_diff 282 = .ok (.imul, 1) := by decide +kernel
theorem dX10_diff_283 : decode cX10_diff 283 = .ok (.iload 13, 2) := by decide +kernel
theorem dX10_diff_285 : decode cX10_diff 285 = .ok (.iadd, 1) := by decide +kernel
theorem dX10_diff_286 : decode cX10_diff 286 = .ok (.iaload, 1) := by decide +kernel
theorem dX10_diff_287 : decode cX10_diff 287 = .ok (.if_icmp .eq 10, 3) := by decide +kernel
theorem dX10_diff_290 : decode cX10_diff 290 = .ok (.iconst 1, 1) := by decide +kernel
theorem dX10_diff_291 : decode cX10_diff 291 = .ok (.iload 13, 2) := by decide +kernel
theorem dX10_diff_293 : decode cX10_diff 293 = .ok (.ishl, 1) := by decide +kernel
theorem dX10_diff_294 : decode cX10_diff 294 = .ok (.goto 4, 3) := by decide +kernel
theorem dX10_diff_297 : decode cX10_diff 297 = .ok (.iconst 0, 1) := by decide +kernel
theorem dX10_diff_298 : decode cX10_diff 298 = .ok (.iadd, 1) := by decide +kernel
theorem dX10_diff_299 : decode cX10_diff 299 = .ok (.istore 12, 2) := by decide +kernel
theorem dX10_diff_301 : decode cX10_diff 301 = .ok (.iinc 13 1, 3) := by decide +kernel
theorem dX10_diff_304 : decode cX10_diff 304 = .ok (.goto (-49), 3) := by decide +kernel
theorem dX10_diff_307 : decode cX10_diff 307 = .ok (.iload 12, 2) := by decide +kernel
theorem dX10_diff_309 : decode cX10_diff 309 = .ok (.bipush 8, 2) := by decide +kernel
theorem dX10_diff_311 : decode cX10_diff 311 = .ok (.if_icmp .eq 55, 3) := by decide +kernel
theorem dX10_diff_314 : decode cX10_diff 314 = .ok (.aload_n 0, 1) := by decide +kernel
theorem dX10_diff_315 : decode cX10_diff 315 = .ok (.getfield 80, 3) := by decide +kernel
theorem dX10_diff_318 : decode cX10_diff 318 = .ok (.aload_n 0, 1) := by decide +kernel
theorem dX10_diff_319 : decode cX10_diff 319 = .ok (.getfield 255, 3) := by decide +kernel
theorem dX10_diff_322 : decode cX10_diff 322 = .ok (.iload 10, 2) := by decide +kernel
theorem dX10_diff_324 : decode cX10_diff 324 = .ok (.ifCond .eq 13, 3) := by decide +kernel
theorem dX10_diff_327 : decode cX10_diff 327 = .ok (.aload_n 0, 1) := by decide +kernel
theorem dX10_diff_328 : decode cX10_diff 328 = .ok (.getfield 8, 3) := by decide +kernel
theorem dX10_diff_331 : decode cX10_diff 331 = .ok (.iload 8, 2) := by decide +kernel
theorem dX10_diff_333 : decode cX10_diff 333 = .ok (.iaload, 1) := by decide +kernel
theorem dX10_diff_334 : decode cX10_diff 334 = .ok (.goto 10, 3) := by decide +kernel
theorem dX10_diff_337 : decode cX10_diff 337 = .ok (.aload_n 0, 1) := by decide +kernel
theorem dX10_diff_338 : decode cX10_diff 338 = .ok (.getfield 8, 3) := by decide +kernel
theorem dX10_diff_341 : decode cX10_diff 341 = .ok (.iload 9, 2) := by decide +kernel
theorem dX10_diff_343 : decode cX10_diff 343 = .ok (.iaload, 1) := by decide +kernel
theorem dX10_diff_344 : decode cX10_diff 344 = .ok (.iastore, 1) := by decide +kernel
theorem dX10_diff_345 : decode cX10_diff 345 = .ok (.aload_n 0, 1) := by decide +kernel
theorem dX10_diff_346 : decode cX10_diff 346 = .ok (.getfield 83, 3) := by decide +kernel
theorem dX10_diff_349 : decode cX10_diff 349 = .ok (.aload_n 0, 1) := by decide +kernel
theorem dX10_diff_350 : decode cX10_diff 350 = .ok (.getfield 255, 3) := by decide +kernel
theorem dX10_diff_353 : decode cX10_diff 353 = .ok (.iload 12, 2) := by decide +kernel
theorem dX10_diff_355 : decode cX10_diff 355 = .ok (.iastore, 1) := by decide +kernel
theorem dX10_diff_356 : decode cX10_diff 356 = .ok (.aload_n 0, 1) := by decide +kernel
theorem dX10_diff_357 : decode cX10_diff 357 = .ok (.dup, 1) := by decide +kernel
theorem dX10_diff_358 : decode cX10_diff 358 = .ok (.getfield 255, 3) := by decide +kernel
theorem dX10_diff_361 : decode cX10_diff 361 = .ok (.iconst 1, 1) := by decide +kernel
theorem dX10_diff_362 : decode cX10_diff 362 = .ok (.iadd, 1) := by decide +kernel
theorem dX10_diff_363 : decode cX10_diff 363 = .ok (.putfield 255, 3) := by decide +kernel
theorem dX10_diff_366 : decode cX10_diff 366 = .ok (.iload 6, 2) := by decide +kernel
theorem dX10_diff_368 : decode cX10_diff 368 = .ok (.iload 10, 2) := by decide +kernel
theorem dX10_diff_370 : decode cX10_diff 370 = .ok (.ifCond .eq 7, 3) := by decide +kernel
theorem dX10_diff_373 : decode cX10_diff 373 = .ok (.iconst 1, 1) := by decide +kernel
theorem dX10_diff_374 : decode cX10_diff 374 = .ok (.goto 4, 3) := by decide +kernel
theorem dX10_diff_377 : decode cX10_diff 377 = .ok (.iconst 0, 1) := by decide +kernel
theorem dX10_diff_378 : decode cX10_diff 378 = .ok (.iadd, 1) := by decide +kernel
theorem dX10_diff_379 : decode cX10_diff 379 = .ok (.istore 6, 2) := by decide +kernel
theorem dX10_diff_381 : decode cX10_diff 381 = .ok (.iload 7, 2) := by decide +kernel
theorem dX10_diff_383 : decode cX10_diff 383 = .ok (.iload 11, 2) := by decide +kernel
theorem dX10_diff_385 : decode cX10_diff 385 = .ok (.ifCond .eq 7, 3) := by decide +kernel
theorem dX10_diff_388 : decode cX10_diff 388 = .ok (.iconst 1, 1) := by decide +kernel
theorem dX10_diff_389 : decode cX10_diff 389 = .ok (.goto 4, 3) := by decide +kernel
theorem dX10_diff_392 : decode cX10_diff 392 = .ok (.iconst 0, 1) := by decide +kernel
theorem dX10_diff_393 : decode cX10_diff 393 = .ok (.iadd, 1) := by decide +kernel
theorem dX10_diff_394 : decode cX10_diff 394 = .ok (.istore 7, 2) := by decide +kernel
theorem dX10_diff_396 : decode cX10_diff 396 = .ok (.goto (-342), 3) := by decide +kernel
theorem dX10_diff_399 : decode cX10_diff 399 = .ok (.aload_n 0, 1) := by decide +kernel
theorem dX10_diff_400 : decode cX10_diff 400 = .ok (.getfield 255, 3) := by decide +kernel
theorem dX10_diff_403 : decode cX10_diff 403 = .ok (.ireturn, 1) := by decide +kernel
theorem EX10_diff {h : jj_H} {Q : Value → jj_H → Prop} (r0 : Nat) (x1 : Int32) (x2 : Int32) (x3 : Int32) (H : ∀ d : jj_D, jK h r0 = 11 ∧ (∀ h1, h1 = wI h 500 r0 0 0 → (jj_C mX10_placeOf 0 0 [.ref r0, .int x1] h1 (fun v3 h2 => jj_vi (fun y4 => jK h2 r0 = 11 ∧ (jj_C mX10_placeOf 0 0 [.ref r0, .int x2] h2 (fun v7 h6 => jj_vi (fun y8 => (y4 = (-5) → Q (.int (-5)) h6) ∧ (¬ y4 = (-5) → (y8 = (-5) → Q (.int (-5)) h6) ∧ (¬ y8 = (-5) → jj_C mX10_isTable 0 0 [.int x3] h6 (fun v13 h12 => jj_vi (fun y14 => (¬ y14 = 0 → jK h12 r0 = 11 ∧ (∀ h17, h17 = wI h12 527 r0 0 0 → (jj_WP d mX10_diff 0 0 54 [(0, .ref r0), (3, .int x3), (4, .int y4), (5, .int y8), (6, .int 0), (7, .int 0)] [] h17 Q))) ∧ (y14 = 0 → Q (.int (-5)) h12)) v13)))) v7))) v3)))) : jj_C mX10_diff 0 0 [.ref r0, .int x1, .int x2, .int x3] h Q := j_enter (by decide +kernel) (Nat.le_of_ble_eq_true rfl) rfl fun d => have H := H d; j_aload_n dX10_diff_0 rfl 0 rfl (j_iconst (v := 0) dX10_diff_1 rfl (j_putI (f := 500) cls_X10 0 (by decide) fl_X10_103 rfl rfl rfl (Or.inl rfl) dX10_diff_2 H.1 (j_aload_n dX10_diff_5 rfl 0 rfl (j_iload_n dX10_diff_6 rfl 1 rfl (j_callV0 (as := [.int x1]) cm_X10_placeOf im_X10_placeOf se_X10_placeOf (ci := 10) rfl (by decide) ml_X10_191 ⟨by decide, by decide⟩ dX10_diff_7 rfl rfl (Nat.le_of_ble_eq_true rfl) H.1 (jj_C.mono (H.2 _ rfl) (fun v3 h2 H5 => jj_vi_e (fun y4 H5 => j_istore (L' := [(4, .int y4), (0, .ref r0), (1, .int x1), (2, .int x2), (3, .int x3)]) dX10_diff_10 (by decide) rfl (j_aload_n dX10_diff_12 rfl 1 rfl (j_iload_n dX10_diff_13 rfl 3 rfl (j_callV0 (as := [.int x2]) cm_X10_placeOf im_X10_placeOf se_X10_placeOf (ci := 10) rfl (by decide) ml_X10_191 ⟨by decide, by decide⟩ dX10_diff_14 rfl rfl (Nat.le_of_ble_eq_true rfl) H5.1 (jj_C.mono H5.2 (fun v7 h6 H9 => jj_vi_e (fun y8 H9 => j_istore (L' := [(5, .int y8), (4, .int y4), (0, .ref r0), (1, .int x1), (2, .int x2), (3, .int x3)]) dX10_diff_17 (by decide) rfl (j_iload dX10_diff_19 1 rfl (j_bipush (v := (-5)) dX10_diff_21 rfl (j_icmp_eq (tgt := 40) dX10_diff_23 (by decide) (fun c10 => j_bipush (v := (-5)) dX10_diff_40 rfl (j_ret (v := .int (-5)) ⟨dX10_diff_42, _, rfl⟩ rfl ((H9.1 c10)))) (fun c10 => j_iload dX10_diff_26 0 rfl (j_bipush (v := (-5)) dX10_diff_28 rfl (j_icmp_eq (tgt := 40) dX10_diff_30 (by decide) (fun c11 => j_bipush (v := (-5)) dX10_diff_40 rfl (j_ret (v := .int (-5)) ⟨dX10_diff_42, _, rfl⟩ rfl (((H9.2 c10).1 c11)))) (fun c11 => j_iload_n dX10_diff_33 rfl 5 rfl (j_callS0 (as := [.int x3]) cm_X10_isTable sm_X10_isTable ml_X10_165 ⟨by decide, by decide⟩ dX10_diff_34 rfl rfl (Nat.le_of_ble_eq_true rfl) (jj_C.mono ((H9.2 c10).2 c11) (fun v13 h12 H15 => jj_vi_e (fun y14 H15 => j_if_ne (tgt := 43) dX10_diff_37 (by decide) (fun c16 => j_aload_n dX10_diff_43 rfl 2 rfl (j_iconst (v := 0) dX10_diff_44 rfl (j_putI (f := 527) cls_X10 27 (by decide) fl_X10_255 rfl rfl rfl (Or.inl rfl) dX10_diff_45 (H15.1 c16).1 (j_iconst (v := 0) dX10_diff_48 rfl (j_istore (L' := [(6, .int 0), (5, .int y8), (4, .int y4), (0, .ref r0), (1, .int x1), (2, .int x2), (3, .int x3)]) dX10_diff_49 (by decide) rfl (j_iconst (v := 0) dX10_diff_51 rfl (j_istore (L' := [(7, .int 0), (6, .int 0), (5, .int y8), (4, .int y4), (0, .ref r0), (1, .int x1), (2, .int x2), (3, .int x3)]) dX10_diff_52 (by decide) rfl (j_sub [4, 7, 3, 2, 1, 0] rfl (((H15.1 c16).2 _ rfl)))))))))) (fun c16 => j_bipush (v := (-5)) dX10_diff_40 rfl (j_ret (v := .int (-5)) ⟨dX10_diff_42, _, rfl⟩ rfl ((H15.2 c16))))) H15))))))))))) H9)))))) H5)))))))
theorem VX10_diff_54 {d : jj_D} {h : jj_H} {Q : Value → jj_H → Prop} (r0 : Nat) (x3 : Int32) (x4 : Int32) (x5 : Int32) (x6 : Int32) (x7 : Int32) (H : jK h r0 = 11 ∧ (jK h (jR h 503 r0 0) = 21 ∧ (vp_in ((3 * x4) + x3) (jN h (jR h 503 r0 0)) ∧ ((x6 < (jI h 1000 (jR h 503 r0 0) (Int32.toNatClampNeg ((3 * x4) + x3))) → jj_WP d mX10_diff 0 0 86 [(0, .ref r0), (3, .int x3), (4, .int x4), (5, .int x5), (6, .int x6), (7, .int x7)] [] h Q) ∧ (¬ x6 < (jI h 1000 (jR h 503 r0 0) (Int32.toNatClampNeg ((3 * x4) + x3))) → vp_in ((3 * x5) + x3) (jN h (jR h 503 r0 0)) ∧ (((jI h 1000 (jR h 503 r0 0) (Int32.toNatClampNeg ((3 * x5) + x3))) ≤ x7 → Q (.int (jI h 527 r0 0)) h) ∧ (¬ (jI h 1000 (jR h 503 r0 0) (Int32.toNatClampNeg ((3 * x5) + x3))) ≤ x7 → jj_WP d mX10_diff 0 0 86 [(0, .ref r0), (3, .int x3), (4, .int x4), (5, .int x5), (6, .int x6), (7, .int x7)] [] h Q))))))) : jj_WP d mX10_diff 0 0 54 [(0, .ref r0), (3, .int x3), (4, .int x4), (5, .int x5), (6, .int x6), (7, .int x7)] [] h Q := j_iload dX10_diff_54 4 rfl (j_aload_n dX10_diff_56 rfl 0 rfl (j_getR (f := 503) cls_X10 3 (by decide) fl_X10_18 rfl rfl dX10_diff_57 H.1 (j_iconst (v := 3) dX10_diff_60 rfl (j_iload dX10_diff_61 2 rfl (j_imul dX10_diff_63 (j_iload_n dX10_diff_64 rfl 1 rfl (j_iadd dX10_diff_65 (j_iald dX10_diff_66 H.2.1 H.2.2.1 (j_icmp_lt (tgt := 86) dX10_diff_67 (by decide) (fun c1 => j_sub [0, 1, 2, 3, 4, 5] rfl ((H.2.2.2.1 c1))) (fun c1 => j_iload dX10_diff_70 5 rfl (j_aload_n dX10_diff_72 rfl 0 rfl (j_getR (f := 503) cls_X10 3 (by decide) fl_X10_18 rfl rfl dX10_diff_73 H.1 (j_iconst (v := 3) dX10_diff_76 rfl (j_iload dX10_diff_77 3 rfl (j_imul dX10_diff_79 (j_iload_n dX10_diff_80 rfl 1 rfl (j_iadd dX10_diff_81 (j_iald dX10_diff_82 H.2.1 (H.2.2.2.2 c1).1 (j_icmp_ge (tgt := 399) dX10_diff_83 (by decide) (fun c2 => j_aload_n dX10_diff_399 rfl 0 rfl (j_getI (f := 527) cls_X10 27 (by decide) fl_X10_255 rfl (by decide) dX10_diff_400 H.1 (j_ret (v := .int (jI h 527 r0 0)) ⟨dX10_diff_403, _, rfl⟩ rfl (((H.2.2.2.2 c1).2.1 c2))))) (fun c2 => j_sub [0, 1, 2, 3, 4, 5] rfl (((H.2.2.2.2 c1).2.2 c2))))))))))))))))))))))
theorem VX10_diff_86 {d : jj_D} {h : jj_H} {Q : Value → jj_H → Prop} (r0 : Nat) (x3 : Int32) (x4 : Int32) (x5 : Int32) (x6 : Int32) (x7 : Int32) (H : jK h r0 = 11 ∧ (jj_C mX10_rowAt 0 0 [.ref r0, .int x4, .int x3, .int x6] h (fun v2 h1 => jj_vi (fun y3 => jK h1 r0 = 11 ∧ (jj_C mX10_rowAt 0 0 [.ref r0, .int x5, .int x3, .int x7] h1 (fun v6 h5 => jj_vi (fun y7 => jK h5 r0 = 11 ∧ (jK h5 (jR h5 503 r0 0) = 21 ∧ (vp_in ((3 * x4) + x3) (jN h5 (jR h5 503 r0 0)) ∧ (((jI h5 1000 (jR h5 503 r0 0) (Int32.toNatClampNeg ((3 * x4) + x3))) ≤ x6 → jj_WP d mX10_diff 0 0 162 [(0, .ref r0), (3, .int x3), (4, .int x4), (5, .int x5), (6, .int x6), (7, .int x7), (8, .int y3), (9, .int y7)] [.int 0] h5 Q) ∧ (¬ (jI h5 1000 (jR h5 503 r0 0) (Int32.toNatClampNeg ((3 * x4) + x3))) ≤ x6 → vp_in ((3 * x5) + x3) (jN h5 (jR h5 503 r0 0)) ∧ ((x7 = (jI h5 1000 (jR h5 503 r0 0) (Int32.toNatClampNeg ((3 * x5) + x3))) → jj_WP d mX10_diff 0 0 162 [(0, .ref r0), (3, .int x3), (4, .int x4), (5, .int x5), (6, .int x6), (7, .int x7), (8, .int y3), (9, .int y7)] [.int 1] h5 Q) ∧ (¬ x7 = (jI h5 1000 (jR h5 503 r0 0) (Int32.toNatClampNeg ((3 * x5) + x3))) → jK h5 (jR h5 501 r0 0) = 21 ∧ (vp_in y3 (jN h5 (jR h5 501 r0 0)) ∧ (vp_in y7 (jN h5 (jR h5 501 r0 0)) ∧ (((jI h5 1000 (jR h5 501 r0 0) (Int32.toNatClampNeg y7)) < (jI h5 1000 (jR h5 501 r0 0) (Int32.toNatClampNeg y3)) → jj_WP d mX10_diff 0 0 162 [(0, .ref r0), (3, .int x3), (4, .int x4), (5, .int x5), (6, .int x6), (7, .int x7), (8, .int y3), (9, .int y7)] [.int 0] h5 Q) ∧ (¬ (jI h5 1000 (jR h5 501 r0 0) (Int32.toNatClampNeg y7)) < (jI h5 1000 (jR h5 501 r0 0) (Int32.toNatClampNeg y3)) → jj_WP d mX10_diff 0 0 162 [(0, .ref r0), (3, .int x3), (4, .int x4), (5, .int x5), (6, .int x6), (7, .int x7), (8, .int y3), (9, .int y7)] [.int 1] h5 Q))))))))))) v6))) v2))) : jj_WP d mX10_diff 0 0 86 [(0, .ref r0), (3, .int x3), (4, .int x4), (5, .int x5), (6, .int x6), (7, .int x7)] [] h Q := j_aload_n dX10_diff_86 rfl 0 rfl (j_iload dX10_diff_87 2 rfl (j_iload_n dX10_diff_89 rfl 1 rfl (j_iload dX10_diff_90 4 rfl (j_callV0 (as := [.int x4, .int x3, .int x6]) cm_X10_rowAt im_X10_rowAt se_X10_rowAt (ci := 10) rfl (by decide) ml_X10_110 ⟨by decide, by decide⟩ dX10_diff_92 rfl rfl (Nat.le_of_ble_eq_true rfl) H.1 (jj_C.mono H.2 (fun v2 h1 H4 => jj_vi_e (fun y3 H4 => j_istore (L' := [(8, .int y3), (0, .ref r0), (3, .int x3), (4, .int x4), (5, .int x5), (6, .int x6), (7, .int x7)]) dX10_diff_95 (by decide) rfl (j_aload_n dX10_diff_97 rfl 1 rfl (j_iload dX10_diff_98 4 rfl (j_iload_n dX10_diff_100 rfl 2 rfl (j_iload dX10_diff_101 6 rfl (j_callV0 (as := [.int x5, .int x3, .int x7]) cm_X10_rowAt im_X10_rowAt se_X10_rowAt (ci := 10) rfl (by decide) ml_X10_110 ⟨by decide, by decide⟩ dX10_diff_103 rfl rfl (Nat.le_of_ble_eq_true rfl) H4.1 (jj_C.mono H4.2 (fun v6 h5 H8 => jj_vi_e (fun y7 H8 => j_istore (L' := [(9, .int y7), (8, .int y3), (0, .ref r0), (3, .int x3), (4, .int x4), (5, .int x5), (6, .int x6), (7, .int x7)]) dX10_diff_106 (by decide) rfl (j_iload dX10_diff_108 6 rfl (j_aload_n dX10_diff_110 rfl 2 rfl (j_getR (f := 503) cls_X10 3 (by decide) fl_X10_18 rfl rfl dX10_diff_111 H8.1 (j_iconst (v := 3) dX10_diff_114 rfl (j_iload dX10_diff_115 4 rfl (j_imul dX10_diff_117 (j_iload_n dX10_diff_118 rfl 3 rfl (j_iadd dX10_diff_119 (j_iald dX10_diff_120 H8.2.1 H8.2.2.1 (j_icmp_ge (tgt := 161) dX10_diff_121 (by decide) (fun c9 => j_iconst (v := 0) dX10_diff_161 rfl (j_sub [2, 3, 4, 5, 6, 7, 1, 0] rfl ((H8.2.2.2.1 c9)))) (fun c9 => j_iload dX10_diff_124 7 rfl (j_aload_n dX10_diff_126 rfl 2 rfl (j_getR (f := 503) cls_X10 3 (by decide) fl_X10_18 rfl rfl dX10_diff_127 H8.1 (j_iconst (v := 3) dX10_diff_130 rfl (j_iload dX10_diff_131 5 rfl (j_imul dX10_diff_133 (j_iload_n dX10_diff_134 rfl 3 rfl (j_iadd dX10_diff_135 (j_iald dX10_diff_136 H8.2.1 (H8.2.2.2.2 c9).1 (j_icmp_eq (tgt := 157) dX10_diff_137 (by decide) (fun c10 => j_iconst (v := 1) dX10_diff_157 rfl (j_goto (tgt := 162) dX10_diff_158 (by decide) (j_sub [2, 3, 4, 5, 6, 7, 1, 0] rfl (((H8.2.2.2.2 c9).2.1 c10))))) (fun c10 => j_aload_n dX10_diff_140 rfl 2 rfl (j_getR (f := 501) cls_X10 1 (by decide) fl_X10_8 rfl rfl dX10_diff_141 H8.1 (j_iload dX10_diff_144 1 rfl (j_iald dX10_diff_146 ((H8.2.2.2.2 c9).2.2 c10).1 ((H8.2.2.2.2 c9).2.2 c10).2.1 (j_aload_n dX10_diff_147 rfl 2 rfl (j_getR (f := 501) cls_X10 1 (by decide) fl_X10_8 rfl rfl dX10_diff_148 H8.1 (j_iload dX10_diff_151 0 rfl (j_iald dX10_diff_153 ((H8.2.2.2.2 c9).2.2 c10).1 ((H8.2.2.2.2 c9).2.2 c10).2.2.1 (j_icmp_gt (tgt := 161) dX10_diff_154 (by decide) (fun c11 => j_iconst (v := 0) dX10_diff_161 rfl (j_sub [2, 3, 4, 5, 6, 7, 1, 0] rfl ((((H8.2.2.2.2 c9).2.2 c10).2.2.2.1 c11)))) (fun c11 => j_iconst (v := 1) dX10_diff_157 rfl (j_goto (tgt := 162) dX10_diff_158 (by decide) (j_sub [2, 3, 4, 5, 6, 7, 1, 0] rfl ((((H8.2.2.2.2 c9).2.2 c10).2.2.2.2 c11))))))))))))))))))))))))))))))))))) H8)))))))) H4))))))
theorem VX10_diff_162 {d : jj_D} {h : jj_H} {Q : Value → jj_H → Prop} (r0 : Nat) (x3 : Int32) (x4 : Int32) (x5 : Int32) (x6 : Int32) (x7 : Int32) (x8 : Int32) (x9 : Int32) (xs0 : Int32) (H : jK h r0 = 11 ∧ (jK h (jR h 503 r0 0) = 21 ∧ (vp_in ((3 * x5) + x3) (jN h (jR h 503 r0 0)) ∧ (((jI h 1000 (jR h 503 r0 0) (Int32.toNatClampNeg ((3 * x5) + x3))) ≤ x7 → jj_WP d mX10_diff 0 0 218 [(0, .ref r0), (3, .int x3), (4, .int x4), (5, .int x5), (6, .int x6), (7, .int x7), (8, .int x8), (9, .int x9), (10, .int xs0)] [.int 0] h Q) ∧ (¬ (jI h 1000 (jR h 503 r0 0) (Int32.toNatClampNeg ((3 * x5) + x3))) ≤ x7 → vp_in ((3 * x4) + x3) (jN h (jR h 503 r0 0)) ∧ ((x6 = (jI h 1000 (jR h 503 r0 0) (Int32.toNatClampNeg ((3 * x4) + x3))) → jj_WP d mX10_diff 0 0 218 [(0, .ref r0), (3, .int x3), (4, .int x4), (5, .int x5), (6, .int x6), (7, .int x7), (8, .int x8), (9, .int x9), (10, .int xs0)] [.int 1] h Q) ∧ (¬ x6 = (jI h 1000 (jR h 503 r0 0) (Int32.toNatClampNeg ((3 * x4) + x3))) → jK h (jR h 501 r0 0) = 21 ∧ (vp_in x9 (jN h (jR h 501 r0 0)) ∧ (vp_in x8 (jN h (jR h 501 r0 0)) ∧ (((jI h 1000 (jR h 501 r0 0) (Int32.toNatClampNeg x8)) < (jI h 1000 (jR h 501 r0 0) (Int32.toNatClampNeg x9)) → jj_WP d mX10_diff 0 0 218 [(0, .ref r0), (3, .int x3), (4, .int x4), (5, .int x5), (6, .int x6), (7, .int x7), (8, .int x8), (9, .int x9), (10, .int xs0)] [.int 0] h Q) ∧ (¬ (jI h 1000 (jR h 501 r0 0) (Int32.toNatClampNeg x8)) < (jI h 1000 (jR h 501 r0 0) (Int32.toNatClampNeg x9)) → jj_WP d mX10_diff 0 0 218 [(0, .ref r0), (3, .int x3), (4, .int x4), (5, .int x5), (6, .int x6), (7, .int x7), (8, .int x8), (9, .int x9), (10, .int xs0)] [.int 1] h Q))))))))))) : jj_WP d mX10_diff 0 0 162 [(0, .ref r0), (3, .int x3), (4, .int x4), (5, .int x5), (6, .int x6), (7, .int x7), (8, .int x8), (9, .int x9)] [.int xs0] h Q := j_istore (L' := [(10, .int xs0), (0, .ref r0), (3, .int x3), (4, .int x4), (5, .int x5), (6, .int x6), (7, .int x7), (8, .int x8), (9, .int x9)]) dX10_diff_162 (by decide) rfl (j_iload dX10_diff_164 6 rfl (j_aload_n dX10_diff_166 rfl 1 rfl (j_getR (f := 503) cls_X10 3 (by decide) fl_X10_18 rfl rfl dX10_diff_167 H.1 (j_iconst (v := 3) dX10_diff_170 rfl (j_iload dX10_diff_171 4 rfl (j_imul dX10_diff_173 (j_iload_n dX10_diff_174 rfl 2 rfl (j_iadd dX10_diff_175 (j_iald dX10_diff_176 H.2.1 H.2.2.1 (j_icmp_ge (tgt := 217) dX10_diff_177 (by decide) (fun c1 => j_iconst (v := 0) dX10_diff_217 rfl (j_sub [1, 2, 3, 4, 5, 6, 7, 8, 0] rfl ((H.2.2.2.1 c1)))) (fun c1 => j_iload dX10_diff_180 5 rfl (j_aload_n dX10_diff_182 rfl 1 rfl (j_getR (f := 503) cls_X10 3 (by decide) fl_X10_18 rfl rfl dX10_diff_183 H.1 (j_iconst (v := 3) dX10_diff_186 rfl (j_iload dX10_diff_187 3 rfl (j_imul dX10_diff_189 (j_iload_n dX10_diff_190 rfl 2 rfl (j_iadd dX10_diff_191 (j_iald dX10_diff_192 H.2.1 (H.2.2.2.2 c1).1 (j_icmp_eq (tgt := 213) dX10_diff_193 (by decide) (fun c2 => j_iconst (v := 1) dX10_diff_213 rfl (j_goto (tgt := 218) dX10_diff_214 (by decide) (j_sub [1, 2, 3, 4, 5, 6, 7, 8, 0] rfl (((H.2.2.2.2 c1).2.1 c2))))) (fun c2 => j_aload_n dX10_diff_196 rfl 1 rfl (j_getR (f := 501) cls_X10 1 (by decide) fl_X10_8 rfl rfl dX10_diff_197 H.1 (j_iload dX10_diff_200 8 rfl (j_iald dX10_diff_202 ((H.2.2.2.2 c1).2.2 c2).1 ((H.2.2.2.2 c1).2.2 c2).2.1 (j_aload_n dX10_diff_203 rfl 1 rfl (j_getR (f := 501) cls_X10 1 (by decide) fl_X10_8 rfl rfl dX10_diff_204 H.1 (j_iload dX10_diff_207 7 rfl (j_iald dX10_diff_209 ((H.2.2.2.2 c1).2.2 c2).1 ((H.2.2.2.2 c1).2.2 c2).2.2.1 (j_icmp_gt (tgt := 217) dX10_diff_210 (by decide) (fun c3 => j_iconst (v := 0) dX10_diff_217 rfl (j_sub [1, 2, 3, 4, 5, 6, 7, 8, 0] rfl ((((H.2.2.2.2 c1).2.2 c2).2.2.2.1 c3)))) (fun c3 => j_iconst (v := 1) dX10_diff_213 rfl (j_goto (tgt := 218) dX10_diff_214 (by decide) (j_sub [1, 2, 3, 4, 5, 6, 7, 8, 0] rfl ((((H.2.2.2.2 c1).2.2 c2).2.2.2.2 c3))))))))))))))))))))))))))))))))))
theorem VX10_diff_218 {d : jj_D} {h : jj_H} {Q : Value → jj_H → Prop} (r0 : Nat) (x3 : Int32) (x4 : Int32) (x5 : Int32) (x6 : Int32) (x7 : Int32) (x8 : Int32) (x9 : Int32) (x10 : Int32) (xs0 : Int32) (H : (¬ x10 = 0 → (¬ xs0 = 0 → (x10 = 0 → jj_WP d mX10_diff 0 0 307 [(0, .ref r0), (3, .int x3), (4, .int x4), (5, .int x5), (6, .int x6), (7, .int x7), (8, .int x8), (9, .int x9), (10, .int x10), (11, .int xs0), (12, .int 8)] [] h Q) ∧ (¬ x10 = 0 → (xs0 = 0 → jj_WP d mX10_diff 0 0 307 [(0, .ref r0), (3, .int x3), (4, .int x4), (5, .int x5), (6, .int x6), (7, .int x7), (8, .int x8), (9, .int x9), (10, .int x10), (11, .int xs0), (12, .int 8)] [] h Q) ∧ (¬ xs0 = 0 → jj_WP d mX10_diff 0 0 255 [(0, .ref r0), (3, .int x3), (4, .int x4), (5, .int x5), (6, .int x6), (7, .int x7), (8, .int x8), (9, .int x9), (10, .int x10), (11, .int xs0), (12, .int 8), (13, .int 0)] [] h Q))) ∧ (xs0 = 0 → (x10 = 0 → jj_WP d mX10_diff 0 0 307 [(0, .ref r0), (3, .int x3), (4, .int x4), (5, .int x5), (6, .int x6), (7, .int x7), (8, .int x8), (9, .int x9), (10, .int x10), (11, .int xs0), (12, .int 2)] [] h Q) ∧ (¬ x10 = 0 → (xs0 = 0 → jj_WP d mX10_diff 0 0 307 [(0, .ref r0), (3, .int x3), (4, .int x4), (5, .int x5), (6, .int x6), (7, .int x7), (8, .int x8), (9, .int x9), (10, .int x10), (11, .int xs0), (12, .int 2)] [] h Q) ∧ (¬ xs0 = 0 → jj_WP d mX10_diff 0 0 255 [(0, .ref r0), (3, .int x3), (4, .int x4), (5, .int x5), (6, .int x6), (7, .int x7), (8, .int x8), (9, .int x9), (10, .int x10), (11, .int xs0), (12, .int 2), (13, .int 0)] [] h Q)))) ∧ (x10 = 0 → (x10 = 0 → jj_WP d mX10_diff 0 0 307 [(0, .ref r0), (3, .int x3), (4, .int x4), (5, .int x5), (6, .int x6), (7, .int x7), (8, .int x8), (9, .int x9), (10, .int x10), (11, .int xs0), (12, .int 1)] [] h Q) ∧ (¬ x10 = 0 → (xs0 = 0 → jj_WP d mX10_diff 0 0 307 [(0, .ref r0), (3, .int x3), (4, .int x4), (5, .int x5), (6, .int x6), (7, .int x7), (8, .int x8), (9, .int x9), (10, .int x10), (11, .int xs0), (12, .int 1)] [] h Q) ∧ (¬ xs0 = 0 → jj_WP d mX10_diff 0 0 255 [(0, .ref r0), (3, .int x3), (4, .int x4), (5, .int x5), (6, .int x6), (7, .int x7), (8, .int x8), (9, .int x9), (10, .int x10), (11, .int xs0), (12, .int 1), (13, .int 0)] [] h Q)))) : jj_WP d mX10_diff 0 0 218 [(0, .ref r0), (3, .int x3), (4, .int x4), (5, .int x5), (6, .int x6), (7, .int x7), (8, .int x8), (9, .int x9), (10, .int x10)] [.int xs0] h Q := j_istore (L' := [(11, .int xs0), (0, .ref r0), (3, .int x3), (4, .int x4), (5, .int x5), (6, .int x6), (7, .int x7), (8, .int x8), (9, .int x9), (10, .int x10)]) dX10_diff_218 (by decide) rfl (j_iload dX10_diff_220 9 rfl (j_if_ne (tgt := 229) dX10_diff_222 (by decide) (fun c1 => j_iload dX10_diff_229 0 rfl (j_if_ne (tgt := 238) dX10_diff_231 (by decide) (fun c2 => j_bipush (v := 8) dX10_diff_238 rfl (j_istore (L' := [(12, .int 8), (11, .int xs0), (0, .ref r0), (3, .int x3), (4, .int x4), (5, .int x5), (6, .int x6), (7, .int x7), (8, .int x8), (9, .int x9), (10, .int x10)]) dX10_diff_240 (by decide) rfl (j_iload dX10_diff_242 10 rfl (j_if_eq (tgt := 307) dX10_diff_244 (by decide) (fun c3 => j_sub [2, 3, 4, 5, 6, 7, 8, 9, 10, 1, 0] rfl ((((H.1 c1).1 c2).1 c3))) (fun c3 => j_iload dX10_diff_247 1 rfl (j_if_eq (tgt := 307) dX10_diff_249 (by decide) (fun c4 => j_sub [2, 3, 4, 5, 6, 7, 8, 9, 10, 1, 0] rfl (((((H.1 c1).1 c2).2 c3).1 c4))) (fun c4 => j_iconst (v := 0) dX10_diff_252 rfl (j_istore (L' := [(13, .int 0), (12, .int 8), (11, .int xs0), (0, .ref r0), (3, .int x3), (4, .int x4), (5, .int x5), (6, .int x6), (7, .int x7), (8, .int x8), (9, .int x9), (10, .int x10)]) dX10_diff_253 (by decide) rfl (j_sub [3, 4, 5, 6, 7, 8, 9, 10, 11, 2, 1, 0] rfl (((((H.1 c1).1 c2).2 c3).2 c4))))))))))) (fun c2 => j_iconst (v := 2) dX10_diff_234 rfl (j_goto (tgt := 240) dX10_diff_235 (by decide) (j_istore (L' := [(12, .int 2), (11, .int xs0), (0, .ref r0), (3, .int x3), (4, .int x4), (5, .int x5), (6, .int x6), (7, .int x7), (8, .int x8), (9, .int x9), (10, .int x10)]) dX10_diff_240 (by decide) rfl (j_iload dX10_diff_242 10 rfl (j_if_eq (tgt := 307) dX10_diff_244 (by decide) (fun c5 => j_sub [2, 3, 4, 5, 6, 7, 8, 9, 10, 1, 0] rfl ((((H.1 c1).2 c2).1 c5))) (fun c5 => j_iload dX10_diff_247 1 rfl (j_if_eq (tgt := 307) dX10_diff_249 (by decide) (fun c6 => j_sub [2, 3, 4, 5, 6, 7, 8, 9, 10, 1, 0] rfl (((((H.1 c1).2 c2).2 c5).1 c6))) (fun c6 => j_iconst (v := 0) dX10_diff_252 rfl (j_istore (L' := [(13, .int 0), (12, .int 2), (11, .int xs0), (0, .ref r0), (3, .int x3), (4, .int x4), (5, .int x5), (6, .int x6), (7, .int x7), (8, .int x8), (9, .int x9), (10, .int x10)]) dX10_diff_253 (by decide) rfl (j_sub [3, 4, 5, 6, 7, 8, 9, 10, 11, 2, 1, 0] rfl (((((H.1 c1).2 c2).2 c5).2 c6)))))))))))))) (fun c1 => j_iconst (v := 1) dX10_diff_225 rfl (j_goto (tgt := 240) dX10_diff_226 (by decide) (j_istore (L' := [(12, .int 1), (11, .int xs0), (0, .ref r0), (3, .int x3), (4, .int x4), (5, .int x5), (6, .int x6), (7, .int x7), (8, .int x8), (9, .int x9), (10, .int x10)]) dX10_diff_240 (by decide) rfl (j_iload dX10_diff_242 10 rfl (j_if_eq (tgt := 307) dX10_diff_244 (by decide) (fun c7 => j_sub [2, 3, 4, 5, 6, 7, 8, 9, 10, 1, 0] rfl (((H.2 c1).1 c7))) (fun c7 => j_iload dX10_diff_247 1 rfl (j_if_eq (tgt := 307) dX10_diff_249 (by decide) (fun c8 => j_sub [2, 3, 4, 5, 6, 7, 8, 9, 10, 1, 0] rfl ((((H.2 c1).2 c7).1 c8))) (fun c8 => j_iconst (v := 0) dX10_diff_252 rfl (j_istore (L' := [(13, .int 0), (12, .int 1), (11, .int xs0), (0, .ref r0), (3, .int x3), (4, .int x4), (5, .int x5), (6, .int x6), (7, .int x7), (8, .int x8), (9, .int x9), (10, .int x10)]) dX10_diff_253 (by decide) rfl (j_sub [3, 4, 5, 6, 7, 8, 9, 10, 11, 2, 1, 0] rfl ((((H.2 c1).2 c7).2 c8))))))))))))))
theorem VX10_diff_307 {d : jj_D} {h : jj_H} {Q : Value → jj_H → Prop} (r0 : Nat) (x3 : Int32) (x4 : Int32) (x5 : Int32) (x6 : Int32) (x7 : Int32) (x8 : Int32) (x9 : Int32) (x10 : Int32) (x11 : Int32) (x12 : Int32) (H : (x12 = 8 → jj_WP d mX10_diff 0 0 366 [(0, .ref r0), (3, .int x3), (4, .int x4), (5, .int x5), (6, .int x6), (7, .int x7), (10, .int x10), (11, .int x11)] [] h Q) ∧ (¬ x12 = 8 → jK h r0 = 11 ∧ ((x10 = 0 → jK h (jR h 501 r0 0) = 21 ∧ (vp_in x9 (jN h (jR h 501 r0 0)) ∧ (jK h (jR h 528 r0 0) = 21 ∧ (vp_in (jI h 527 r0 0) (jN h (jR h 528 r0 0)) ∧ (∀ h3, h3 = wI h 1000 (jR h 528 r0 0) (Int32.toNatClampNeg (jI h 527 r0 0)) (jI h 1000 (jR h 501 r0 0) (Int32.toNatClampNeg x9)) → (jK h (jR h3 529 r0 0) = 21 ∧ (vp_in (jI h3 527 r0 0) (jN h (jR h3 529 r0 0)) ∧ (∀ h4, h4 = wI h3 1000 (jR h3 529 r0 0) (Int32.toNatClampNeg (jI h3 527 r0 0)) x12 → (∀ h5, h5 = wI h4 527 r0 0 ((jI h4 527 r0 0) + 1) → (jj_WP d mX10_diff 0 0 366 [(0, .ref r0), (3, .int x3), (4, .int x4), (5, .int x5), (6, .int x6), (7, .int x7), (10, .int x10), (11, .int x11)] [] h5 Q)))))))))) ∧ (¬ x10 = 0 → jK h (jR h 501 r0 0) = 21 ∧ (vp_in x8 (jN h (jR h 501 r0 0)) ∧ (jK h (jR h 528 r0 0) = 21 ∧ (vp_in (jI h 527 r0 0) (jN h (jR h 528 r0 0)) ∧ (∀ h6, h6 = wI h 1000 (jR h 528 r0 0) (Int32.toNatClampNeg (jI h 527 r0 0)) (jI h 1000 (jR h 501 r0 0) (Int32.toNatClampNeg x8)) → (jK h (jR h6 529 r0 0) = 21 ∧ (vp_in (jI h6 527 r0 0) (jN h (jR h6 529 r0 0)) ∧ (∀ h7, h7 = wI h6 1000 (jR h6 529 r0 0) (Int32.toNatClampNeg (jI h6 527 r0 0)) x12 → (∀ h8, h8 = wI h7 527 r0 0 ((jI h7 527 r0 0) + 1) → (jj_WP d mX10_diff 0 0 366 [(0, .ref r0), (3, .int x3), (4, .int x4), (5, .int x5), (6, .int x6), (7, .int x7), (10, .int x10), (11, .int x11)] [] h8 Q))))))))))))) : jj_WP d mX10_diff 0 0 307 [(0, .ref r0), (3, .int x3), (4, .int x4), (5, .int x5), (6, .int x6), (7, .int x7), (8, .int x8), (9, .int x9), (10, .int x10), (11, .int x11), (12, .int x12)] [] h Q := j_iload dX10_diff_307 10 rfl (j_bipush (v := 8) dX10_diff_309 rfl (j_icmp_eq (tgt := 366) dX10_diff_311 (by decide) (fun c1 => j_sub [0, 1, 2, 3, 4, 5, 8, 9] rfl ((H.1 c1))) (fun c1 => j_aload_n dX10_diff_314 rfl 0 rfl (j_getR (f := 528) cls_X10 28 (by decide) fl_X10_80 rfl rfl dX10_diff_315 (H.2 c1).1 (j_aload_n dX10_diff_318 rfl 0 rfl (j_getI (f := 527) cls_X10 27 (by decide) fl_X10_255 rfl (by decide) dX10_diff_319 (H.2 c1).1 (j_iload dX10_diff_322 8 rfl (j_if_eq (tgt := 337) dX10_diff_324 (by decide) (fun c2 => j_aload_n dX10_diff_337 rfl 0 rfl (j_getR (f := 501) cls_X10 1 (by decide) fl_X10_8 rfl rfl dX10_diff_338 (H.2 c1).1 (j_iload dX10_diff_341 7 rfl (j_iald dX10_diff_343 ((H.2 c1).2.1 c2).1 ((H.2 c1).2.1 c2).2.1 (j_iast dX10_diff_344 ((H.2 c1).2.1 c2).2.2.1 ((H.2 c1).2.1 c2).2.2.2.1 (j_aload_n dX10_diff_345 rfl 0 rfl (j_getR (f := 529) cls_X10 29 (by decide) fl_X10_83 rfl rfl dX10_diff_346 (H.2 c1).1 (j_aload_n dX10_diff_349 rfl 0 rfl (j_getI (f := 527) cls_X10 27 (by decide) fl_X10_255 rfl (by decide) dX10_diff_350 (H.2 c1).1 (j_iload dX10_diff_353 10 rfl (j_iast dX10_diff_355 (((H.2 c1).2.1 c2).2.2.2.2 _ rfl).1 (((H.2 c1).2.1 c2).2.2.2.2 _ rfl).2.1 (j_aload_n dX10_diff_356 rfl 0 rfl (j_dup dX10_diff_357 rfl (j_getI (f := 527) cls_X10 27 (by decide) fl_X10_255 rfl (by decide) dX10_diff_358 (H.2 c1).1 (j_iconst (v := 1) dX10_diff_361 rfl (j_iadd dX10_diff_362 (j_putI (f := 527) cls_X10 27 (by decide) fl_X10_255 rfl rfl rfl (Or.inl rfl) dX10_diff_363 (H.2 c1).1 (j_sub [0, 1, 2, 3, 4, 5, 8, 9] rfl ((((((H.2 c1).2.1 c2).2.2.2.2 _ rfl).2.2 _ rfl) _ rfl)))))))))))))))))))) (fun c2 => j_aload_n dX10_diff_327 rfl 0 rfl (j_getR (f := 501) cls_X10 1 (by decide) fl_X10_8 rfl rfl dX10_diff_328 (H.2 c1).1 (j_iload dX10_diff_331 6 rfl (j_iald dX10_diff_333 ((H.2 c1).2.2 c2).1 ((H.2 c1).2.2 c2).2.1 (j_goto (tgt := 344) dX10_diff_334 (by decide) (j_iast dX10_diff_344 ((H.2 c1).2.2 c2).2.2.1 ((H.2 c1).2.2 c2).2.2.2.1 (j_aload_n dX10_diff_345 rfl 0 rfl (j_getR (f := 529) cls_X10 29 (by decide) fl_X10_83 rfl rfl dX10_diff_346 (H.2 c1).1 (j_aload_n dX10_diff_349 rfl 0 rfl (j_getI (f := 527) cls_X10 27 (by decide) fl_X10_255 rfl (by decide) dX10_diff_350 (H.2 c1).1 (j_iload dX10_diff_353 10 rfl (j_iast dX10_diff_355 (((H.2 c1).2.2 c2).2.2.2.2 _ rfl).1 (((H.2 c1).2.2 c2).2.2.2.2 _ rfl).2.1 (j_aload_n dX10_diff_356 rfl 0 rfl (j_dup dX10_diff_357 rfl (j_getI (f := 527) cls_X10 27 (by decide) fl_X10_255 rfl (by decide) dX10_diff_358 (H.2 c1).1 (j_iconst (v := 1) dX10_diff_361 rfl (j_iadd dX10_diff_362 (j_putI (f := 527) cls_X10 27 (by decide) fl_X10_255 rfl rfl rfl (Or.inl rfl) dX10_diff_363 (H.2 c1).1 (j_sub [0, 1, 2, 3, 4, 5, 8, 9] rfl ((((((H.2 c1).2.2 c2).2.2.2.2 _ rfl).2.2 _ rfl) _ rfl)))))))))))))))))))))))))))))
theorem VX10_diff_255 {d : jj_D} {h : jj_H} {Q : Value → jj_H → Prop} (r0 : Nat) (x3 : Int32) (x4 : Int32) (x5 : Int32) (x6 : Int32) (x7 : Int32) (x8 : Int32) (x9 : Int32) (x10 : Int32) (x11 : Int32) (x12 : Int32) (x13 : Int32) (H : (3 ≤ x13 → jj_WP d mX10_diff 0 0 307 [(0, .ref r0), (3, .int x3), (4, .int x4), (5, .int x5), (6, .int x6), (7, .int x7), (8, .int x8), (9, .int x9), (10, .int x10), (11, .int x11), (12, .int x12)] [] h Q) ∧ (¬ 3 ≤ x13 → jK h r0 = 11 ∧ (jK h (jR h 502 r0 0) = 21 ∧ (vp_in ((3 * x8) + x13) (jN h (jR h 502 r0 0)) ∧ (vp_in ((3 * x9) + x13) (jN h (jR h 502 r0 0)) ∧ (((jI h 1000 (jR h 502 r0 0) (Int32.toNatClampNeg ((3 * x8) + x13))) = (jI h 1000 (jR h 502 r0 0) (Int32.toNatClampNeg ((3 * x9) + x13))) → jj_WP d mX10_diff 0 0 255 [(0, .ref r0), (3, .int x3), (4, .int x4), (5, .int x5), (6, .int x6), (7, .int x7), (8, .int x8), (9, .int x9), (10, .int x10), (11, .int x11), (12, .int (x12 + 0)), (13, .int (x13 + 1))] [] h Q) ∧ (¬ (jI h 1000 (jR h 502 r0 0) (Int32.toNatClampNeg ((3 * x8) + x13))) = (jI h 1000 (jR h 502 r0 0) (Int32.toNatClampNeg ((3 * x9) + x13))) → jj_WP d mX10_diff 0 0 255 [(0, .ref r0), (3, .int x3), (4, .int x4), (5, .int x5), (6, .int x6), (7, .int x7), (8, .int x8), (9, .int x9), (10, .int x10), (11, .int x11), (12, .int (x12 + (1 <<< (x13 &&& 31)))), (13, .int (x13 + 1))] [] h Q))))))) : jj_WP d mX10_diff 0 0 255 [(0, .ref r0), (3, .int x3), (4, .int x4), (5, .int x5), (6, .int x6), (7, .int x7), (8, .int x8), (9, .int x9), (10, .int x10), (11, .int x11), (12, .int x12), (13, .int x13)] [] h Q := j_iload dX10_diff_255 11 rfl (j_iconst (v := 3) dX10_diff_257 rfl (j_icmp_ge (tgt := 307) dX10_diff_258 (by decide) (fun c1 => j_sub [0, 1, 2, 3, 4, 5, 6, 7, 8, 9, 10] rfl ((H.1 c1))) (fun c1 => j_iload dX10_diff_261 10 rfl (j_aload_n dX10_diff_263 rfl 0 rfl (j_getR (f := 502) cls_X10 2 (by decide) fl_X10_15 rfl rfl dX10_diff_264 (H.2 c1).1 (j_iconst (v := 3) dX10_diff_267 rfl (j_iload dX10_diff_268 6 rfl (j_imul dX10_diff_270 (j_iload dX10_diff_271 11 rfl (j_iadd dX10_diff_273 (j_iald dX10_diff_274 (H.2 c1).2.1 (H.2 c1).2.2.1 (j_aload_n dX10_diff_275 rfl 0 rfl (j_getR (f := 502) cls_X10 2 (by decide) fl_X10_15 rfl rfl dX10_diff_276 (H.2 c1).1 (j_iconst (v := 3) dX10_diff_279 rfl (j_iload dX10_diff_280 7 rfl (j_imul dX10_diff_282 (j_iload dX10_diff_283 11 rfl (j_iadd dX10_diff_285 (j_iald dX10_diff_286 (H.2 c1).2.1 (H.2 c1).2.2.2.1 (j_icmp_eq (tgt := 297) dX10_diff_287 (by decide) (fun c2 => j_iconst (v := 0) dX10_diff_297 rfl (j_iadd dX10_diff_298 (j_istore (L' := [(12, .int (x12 + 0)), (0, .ref r0), (3, .int x3), (4, .int x4), (5, .int x5), (6, .int x6), (7, .int x7), (8, .int x8), (9, .int x9), (10, .int x10), (11, .int x11), (13, .int x13)]) dX10_diff_299 (by decide) rfl (j_iinc (v := (x13 + 1)) (L' := [(13, .int (x13 + 1)), (12, .int (x12 + 0)), (0, .ref r0), (3, .int x3), (4, .int x4), (5, .int x5), (6, .int x6), (7, .int x7), (8, .int x8), (9, .int x9), (10, .int x10), (11, .int x11)]) dX10_diff_301 11 rfl rfl (by decide) rfl (j_goto (tgt := 255) dX10_diff_304 (by decide) (j_sub [2, 3, 4, 5, 6, 7, 8, 9, 10, 11, 1, 0] rfl (((H.2 c1).2.2.2.2.1 c2)))))))) (fun c2 => j_iconst (v := 1) dX10_diff_290 rfl (j_iload dX10_diff_291 11 rfl (j_ishl dX10_diff_293 (j_goto (tgt := 298) dX10_diff_294 (by decide) (j_iadd dX10_diff_298 (j_istore (L' := [(12, .int (x12 + (1 <<< (x13 &&& 31)))), (0, .ref r0), (3, .int x3), (4, .int x4), (5, .int x5), (6, .int x6), (7, .int x7), (8, .int x8), (9, .int x9), (10, .int x10), (11, .int x11), (13, .int x13)]) dX10_diff_299 (by decide) rfl (j_iinc (v := (x13 + 1)) (L' := [(13, .int (x13 + 1)), (12, .int (x12 + (1 <<< (x13 &&& 31)))), (0, .ref r0), (3, .int x3), (4, .int x4), (5, .int x5), (6, .int x6), (7, .int x7), (8, .int x8), (9, .int x9), (10, .int x10), (11, .int x11)]) dX10_diff_301 11 rfl rfl (by decide) rfl (j_goto (tgt := 255) dX10_diff_304 (by decide) (j_sub [2, 3, 4, 5, 6, 7, 8, 9, 10, 11, 1, 0] rfl (((H.2 c1).2.2.2.2.2 c2)))))))))))))))))))))))))))))))
theorem VX10_diff_366 {d : jj_D} {h : jj_H} {Q : Value → jj_H → Prop} (r0 : Nat) (x3 : Int32) (x4 : Int32) (x5 : Int32) (x6 : Int32) (x7 : Int32) (x10 : Int32) (x11 : Int32) (H : (x10 = 0 → (x11 = 0 → jj_WP d mX10_diff 0 0 54 [(0, .ref r0), (3, .int x3), (4, .int x4), (5, .int x5), (6, .int (x6 + 0)), (7, .int (x7 + 0))] [] h Q) ∧ (¬ x11 = 0 → jj_WP d mX10_diff 0 0 54 [(0, .ref r0), (3, .int x3), (4, .int x4), (5, .int x5), (6, .int (x6 + 0)), (7, .int (x7 + 1))] [] h Q)) ∧ (¬ x10 = 0 → (x11 = 0 → jj_WP d mX10_diff 0 0 54 [(0, .ref r0), (3, .int x3), (4, .int x4), (5, .int x5), (6, .int (x6 + 1)), (7, .int (x7 + 0))] [] h Q) ∧ (¬ x11 = 0 → jj_WP d mX10_diff 0 0 54 [(0, .ref r0), (3, .int x3), (4, .int x4), (5, .int x5), (6, .int (x6 + 1)), (7, .int (x7 + 1))] [] h Q))) : jj_WP d mX10_diff 0 0 366 [(0, .ref r0), (3, .int x3), (4, .int x4), (5, .int x5), (6, .int x6), (7, .int x7), (10, .int x10), (11, .int x11)] [] h Q := j_iload dX10_diff_366 4 rfl (j_iload dX10_diff_368 6 rfl (j_if_eq (tgt := 377) dX10_diff_370 (by decide) (fun c1 => j_iconst (v := 0) dX10_diff_377 rfl (j_iadd dX10_diff_378 (j_istore (L' := [(6, .int (x6 + 0)), (0, .ref r0), (3, .int x3), (4, .int x4), (5, .int x5), (7, .int x7), (10, .int x10), (11, .int x11)]) dX10_diff_379 (by decide) rfl (j_iload dX10_diff_381 5 rfl (j_iload dX10_diff_383 7 rfl (j_if_eq (tgt := 392) dX10_diff_385 (by decide) (fun c2 => j_iconst (v := 0) dX10_diff_392 rfl (j_iadd dX10_diff_393 (j_istore (L' := [(7, .int (x7 + 0)), (6, .int (x6 + 0)), (0, .ref r0), (3, .int x3), (4, .int x4), (5, .int x5), (10, .int x10), (11, .int x11)]) dX10_diff_394 (by decide) rfl (j_goto (tgt := 54) dX10_diff_396 (by decide) (j_sub [2, 3, 4, 5, 1, 0] rfl (((H.1 c1).1 c2))))))) (fun c2 => j_iconst (v := 1) dX10_diff_388 rfl (j_goto (tgt := 393) dX10_diff_389 (by decide) (j_iadd dX10_diff_393 (j_istore (L' := [(7, .int (x7 + 1)), (6, .int (x6 + 0)), (0, .ref r0), (3, .int x3), (4, .int x4), (5, .int x5), (10, .int x10), (11, .int x11)]) dX10_diff_394 (by decide) rfl (j_goto (tgt := 54) dX10_diff_396 (by decide) (j_sub [2, 3, 4, 5, 1, 0] rfl (((H.1 c1).2 c2)))))))))))))) (fun c1 => j_iconst (v := 1) dX10_diff_373 rfl (j_goto (tgt := 378) dX10_diff_374 (by decide) (j_iadd dX10_diff_378 (j_istore (L' := [(6, .int (x6 + 1)), (0, .ref r0), (3, .int x3), (4, .int x4), (5, .int x5), (7, .int x7), (10, .int x10), (11, .int x11)]) dX10_diff_379 (by decide) rfl (j_iload dX10_diff_381 5 rfl (j_iload dX10_diff_383 7 rfl (j_if_eq (tgt := 392) dX10_diff_385 (by decide) (fun c3 => j_iconst (v := 0) dX10_diff_392 rfl (j_iadd dX10_diff_393 (j_istore (L' := [(7, .int (x7 + 0)), (6, .int (x6 + 1)), (0, .ref r0), (3, .int x3), (4, .int x4), (5, .int x5), (10, .int x10), (11, .int x11)]) dX10_diff_394 (by decide) rfl (j_goto (tgt := 54) dX10_diff_396 (by decide) (j_sub [2, 3, 4, 5, 1, 0] rfl (((H.2 c1).1 c3))))))) (fun c3 => j_iconst (v := 1) dX10_diff_388 rfl (j_goto (tgt := 393) dX10_diff_389 (by decide) (j_iadd dX10_diff_393 (j_istore (L' := [(7, .int (x7 + 1)), (6, .int (x6 + 1)), (0, .ref r0), (3, .int x3), (4, .int x4), (5, .int x5), (10, .int x10), (11, .int x11)]) dX10_diff_394 (by decide) rfl (j_goto (tgt := 54) dX10_diff_396 (by decide) (j_sub [2, 3, 4, 5, 1, 0] rfl (((H.2 c1).2 c3)))))))))))))))))
theorem dX10_diffKey_0 : decode cX10_diffKey 0 = .ok (.aload_n 0, 1) := by decide +kernel
theorem dX10_diffKey_1 : decode cX10_diffKey 1 = .ok (.iconst 0, 1) := by decide +kernel
theorem dX10_diffKey_2 : decode cX10_diffKey 2 = .ok (.putfield 103, 3) := by decide +kernel
theorem dX10_diffKey_5 : decode cX10_diffKey 5 = .ok (.iload_n 1, 1) := by decide +kernel
theorem dX10_diffKey_6 : decode cX10_diffKey 6 = .ok (.i2l, 1) := by decide +kernel
theorem dX10_diffKey_7 : decode cX10_diffKey 7 = .ok (.lconst 0, 1) := by decide +kernel
theorem dX10_diffKey_8 : decode cX10_diffKey 8 = .ok (.aload_n 0, 1) := by decide +kernel
theorem dX10_diffKey_9 : decode cX10_diffKey 9 = .ok (.getfield 255, 3) := by decide +kernel
theorem dX10_diffKey_12 : decode cX10_diffKey 12 = .ok (.i2l, 1) := by decide +kernel
theorem dX10_diffKey_13 : decode cX10_diffKey 13 = .ok (.lconst 1, 1) := by decide +kernel
theorem dX10_diffKey_14 : decode cX10_diffKey 14 = .ok (.lsub, 1) := by decide +kernel
theorem dX10_diffKey_15 : decode cX10_diffKey 15 = .ok (.invokestatic 177, 3) := by decide +kernel
theorem dX10_diffKey_18 : decode cX10_diffKey 18 = .ok (.ifCond .eq 13, 3) := by decide +kernel
theorem dX10_diffKey_21 : decode cX10_diffKey 21 = .ok (.aload_n 0, 1) := by decide +kernel
theorem dX10_diffKey_22 : decode cX10_diffKey 22 = .ok (.getfield 80, 3) := by decide +kernel
theorem dX10_diffKey_25 : decode cX10_diffKey 25 = .ok (.iload_n 1, 1) := by decide +kernel
theorem dX10_diffKey_26 : decode cX10_diffKey 26 = .ok (.iaload, 1) := by decide +kernel
theorem dX10_diffKey_27 : decode cX10_diffKey 27 = .ok (.i2l, 1) := by decide +kernel
theorem dX10_diffKey_28 : decode cX10_diffKey 28 = .ok (.goto 6, 3) := by decide +kernel
theorem dX10_diffKey_31 : decode cX10_diffKey 31 = .ok (.ldc2_w 189, 3) := by decide +kernel
theorem dX10_diffKey_34 : decode cX10_diffKey 34 = .ok (.lreturn, 1) := by decide +kernel
theorem EX10_diffKey {h : jj_H} {Q : Value → jj_H → Prop} (r0 : Nat) (x1 : Int32) (H : ∀ d : jj_D, jK h r0 = 11 ∧ (∀ h1, h1 = wI h 500 r0 0 0 → (jj_C mX10_isIn 0 0 [.long (Int32.toInt64 x1), .long 0, .long ((Int32.toInt64 (jI h1 527 r0 0)) - 1)] h1 (fun v3 h2 => jj_vi (fun y4 => (y4 = 0 → Q (.long 4294967296) h2) ∧ (¬ y4 = 0 → jK h2 r0 = 11 ∧ (jK h2 (jR h2 528 r0 0) = 21 ∧ (vp_in x1 (jN h2 (jR h2 528 r0 0)) ∧ (Q (.long (Int32.toInt64 (jI h2 1000 (jR h2 528 r0 0) (Int32.toNatClampNeg x1)))) h2))))) v3)))) : jj_C mX10_diffKey 0 0 [.ref r0, .int x1] h Q := j_enter (by decide +kernel) (Nat.le_of_ble_eq_true rfl) rfl fun d => have H := H d; j_aload_n dX10_diffKey_0 rfl 0 rfl (j_iconst (v := 0) dX10_diffKey_1 rfl (j_putI (f := 500) cls_X10 0 (by decide) fl_X10_103 rfl rfl rfl (Or.inl rfl) dX10_diffKey_2 H.1 (j_iload_n dX10_diffKey_5 rfl 1 rfl (j_i2l dX10_diffKey_6 (j_lconst (v := 0) dX10_diffKey_7 rfl (j_aload_n dX10_diffKey_8 rfl 0 rfl (j_getI (f := 527) cls_X10 27 (by decide) fl_X10_255 rfl (by decide) dX10_diffKey_9 H.1 (j_i2l dX10_diffKey_12 (j_lconst (v := 1) dX10_diffKey_13 rfl (j_lsub dX10_diffKey_14 (j_callS0 (as := [.long (Int32.toInt64 x1), .long 0, .long ((Int32.toInt64 (jI (wI h 500 r0 0 0) 527 r0 0)) - 1)]) cm_X10_isIn sm_X10_isIn ml_X10_177 ⟨by decide, by decide⟩ dX10_diffKey_15 rfl rfl (Nat.le_of_ble_eq_true rfl) (jj_C.mono (H.2 _ rfl) (fun v3 h2 H5 => jj_vi_e (fun y4 H5 => j_if_eq (tgt := 31) dX10_diffKey_18 (by decide) (fun c6 => j_ldc2 (v := 4294967296) dX10_diffKey_31 kc_X10_189 (j_ret (v := .long 4294967296) ⟨dX10_diffKey_34, _, rfl⟩ rfl ((H5.1 c6)))) (fun c6 => j_aload_n dX10_diffKey_21 rfl 0 rfl (j_getR (f := 528) cls_X10 28 (by decide) fl_X10_80 rfl rfl dX10_diffKey_22 (H5.2 c6).1 (j_iload_n dX10_diffKey_25 rfl 1 rfl (j_iald dX10_diffKey_26 (H5.2 c6).2.1 (H5.2 c6).2.2.1 (j_i2l dX10_diffKey_27 (j_goto (tgt := 34) dX10_diffKey_28 (by decide) (j_ret (v := .long (Int32.toInt64 (jI h2 1000 (jR h2 528 r0 0) (Int32.toNatClampNeg x1)))) ⟨dX10_diffKey_34, _, rfl⟩ rfl ((H5.2 c6).2.2.2))))))))) H5)))))))))))))
theorem dX10_diffKind_0 : decode cX10_diffKind 0 = .ok (.aload_n 0, 1) := by decide +kernel
theorem dX10_diffKind_1 : decode cX10_diffKind 1 = .ok (.iconst 0, 1) := by decide +kernel
theorem dX10_diffKind_2 : decode cX10_diffKind 2 = .ok (.putfield 103, 3) := by decide +kernel
theorem dX10_diffKind_5 : decode cX10_diffKind 5 = .ok (.iload_n 1, 1) := by decide +kernel
theorem dX10_diffKind_6 : decode cX10_diffKind 6 = .ok (.i2l, 1) := by decide +kernel
theorem dX10_diffKind_7 : decode cX10_diffKind 7 = .ok (.lconst 0, 1) := by decide +kernel
theorem dX10_diffKind_8 : decode cX10_diffKind 8 = .ok (.aload_n 0, 1) := by decide +kernel
theorem dX10_diffKind_9 : decode cX10_diffKind 9 = .ok (.getfield 255, 3) := by decide +kernel
theorem dX10_diffKind_12 : decode cX10_diffKind 12 = .ok (.i2l, 1) := by decide +kernel
theorem dX10_diffKind_13 : decode cX10_diffKind 13 = .ok (.lconst 1, 1) := by decide +kernel
theorem dX10_diffKind_14 : decode cX10_diffKind 14 = .ok (.lsub, 1) := by decide +kernel
theorem dX10_diffKind_15 : decode cX10_diffKind 15 = .ok (.invokestatic 177, 3) := by decide +kernel
theorem dX10_diffKind_18 : decode cX10_diffKind 18 = .ok (.ifCond .eq 12, 3) := by decide +kernel
theorem dX10_diffKind_21 : decode cX10_diffKind 21 = .ok (.aload_n 0, 1) := by decide +kernel
theorem dX10_diffKind_22 : decode cX10_diffKind 22 = .ok (.getfield 83, 3) := by decide +kernel
theorem dX10_diffKind_25 : decode cX10_diffKind 25 = .ok (.iload_n 1, 1) := by decide +kernel
theorem dX10_diffKind_26 : decode cX10_diffKind 26 = .ok (.iaload, 1) := by decide +kernel
theorem dX10_diffKind_27 : decode cX10_diffKind 27 = .ok (.goto 4, 3) := by decide +kernel
theorem dX10_diffKind_30 : decode cX10_diffKind 30 = .ok (.iconst 0, 1) := by decide +kernel
theorem dX10_diffKind_31 : decode cX10_diffKind 31 = .ok (.ireturn, 1) := by decide +kernel
theorem EX10_diffKind {h : jj_H} {Q : Value → jj_H → Prop} (r0 : Nat) (x1 : Int32) (H : ∀ d : jj_D, jK h r0 = 11 ∧ (∀ h1, h1 = wI h 500 r0 0 0 → (jj_C mX10_isIn 0 0 [.long (Int32.toInt64 x1), .long 0, .long ((Int32.toInt64 (jI h1 527 r0 0)) - 1)] h1 (fun v3 h2 => jj_vi (fun y4 => (y4 = 0 → Q (.int 0) h2) ∧ (¬ y4 = 0 → jK h2 r0 = 11 ∧ (jK h2 (jR h2 529 r0 0) = 21 ∧ (vp_in x1 (jN h2 (jR h2 529 r0 0)) ∧ (Q (.int (jI h2 1000 (jR h2 529 r0 0) (Int32.toNatClampNeg x1))) h2))))) v3)))) : jj_C mX10_diffKind 0 0 [.ref r0, .int x1] h Q := j_enter (by decide +kernel) (Nat.le_of_ble_eq_true rfl) rfl fun d => have H := H d; j_aload_n dX10_diffKind_0 rfl 0 rfl (j_iconst (v := 0) dX10_diffKind_1 rfl (j_putI (f := 500) cls_X10 0 (by decide) fl_X10_103 rfl rfl rfl (Or.inl rfl) dX10_diffKind_2 H.1 (j_iload_n dX10_diffKind_5 rfl 1 rfl (j_i2l dX10_diffKind_6 (j_lconst (v := 0) dX10_diffKind_7 rfl (j_aload_n dX10_diffKind_8 rfl 0 rfl (j_getI (f := 527) cls_X10 27 (by decide) fl_X10_255 rfl (by decide) dX10_diffKind_9 H.1 (j_i2l dX10_diffKind_12 (j_lconst (v := 1) dX10_diffKind_13 rfl (j_lsub dX10_diffKind_14 (j_callS0 (as := [.long (Int32.toInt64 x1), .long 0, .long ((Int32.toInt64 (jI (wI h 500 r0 0 0) 527 r0 0)) - 1)]) cm_X10_isIn sm_X10_isIn ml_X10_177 ⟨by decide, by decide⟩ dX10_diffKind_15 rfl rfl (Nat.le_of_ble_eq_true rfl) (jj_C.mono (H.2 _ rfl) (fun v3 h2 H5 => jj_vi_e (fun y4 H5 => j_if_eq (tgt := 30) dX10_diffKind_18 (by decide) (fun c6 => j_iconst (v := 0) dX10_diffKind_30 rfl (j_ret (v := .int 0) ⟨dX10_diffKind_31, _, rfl⟩ rfl ((H5.1 c6)))) (fun c6 => j_aload_n dX10_diffKind_21 rfl 0 rfl (j_getR (f := 529) cls_X10 29 (by decide) fl_X10_83 rfl rfl dX10_diffKind_22 (H5.2 c6).1 (j_iload_n dX10_diffKind_25 rfl 1 rfl (j_iald dX10_diffKind_26 (H5.2 c6).2.1 (H5.2 c6).2.2.1 (j_goto (tgt := 31) dX10_diffKind_27 (by decide) (j_ret (v := .int (jI h2 1000 (jR h2 529 r0 0) (Int32.toNatClampNeg x1))) ⟨dX10_diffKind_31, _, rfl⟩ rfl ((H5.2 c6).2.2.2)))))))) H5)))))))))))))
