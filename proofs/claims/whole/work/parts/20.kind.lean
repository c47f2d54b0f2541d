theorem cw_X4 : ∀ w ∈ u_ws RX4 TX4 5, w ∈ ce_tw := ce_uws [432, 434, 436, 438, 440] (by decide +kernel)
theorem cw_X5 : ∀ w ∈ u_ws RX5 TX5 8, w ∈ ce_tw := ce_uws [199, 201, 203, 205, 207, 209, 211, 213] (by decide +kernel)
theorem cw_X6 : ∀ w ∈ u_ws RX6 TX6 3, w ∈ ce_tw := ce_uws [227, 229, 231] (by decide +kernel)
theorem cw_X9 : ∀ w ∈ u_ws RX9 TX9 11, w ∈ ce_tw := ce_uws [108, 110, 112, 114, 116, 118, 120, 122, 124, 126, 128] (by decide +kernel)
theorem cw_X10 : ∀ w ∈ u_ws RX10 TX10 4, w ∈ ce_tw := ce_uws [402, 404, 406, 408] (by decide +kernel)
theorem cw_X11 : ∀ w ∈ u_ws RX11 TX11 14, w ∈ ce_tw := ce_uws [457, 459, 461, 463, 465, 467, 469, 471, 473, 475, 477, 479, 481, 483] (by decide +kernel)
theorem cw_X12 : ∀ w ∈ u_ws RX12 TX12 45, w ∈ ce_tw := ce_uws [869, 871, 873, 875, 877, 879, 881, 883, 885, 887, 889, 891, 893, 895, 897, 899, 901, 903, 905, 907, 909, 911, 913, 915, 917, 919, 921, 923, 925, 927, 929, 931, 933, 935, 937, 939, 941, 943, 945, 947, 949, 951, 953, 955, 957] (by decide +kernel)
def pc_X3_steps : List Nat := [0, 1, 2, 3, 4, 5]
noncomputable def tb_X3_steps : List ce_Op := [o_iload 1, o_iload 2, o_bin q_sub, o_int 4, o_div, o_iret]
theorem tl_X3_steps : ce_TL tb_X3_steps := by
  unfold tb_X3_steps
  refine tl_c ta_iload ?_
  refine tl_c ta_iload ?_
  refine tl_c ta_bin ?_
  refine tl_c ta_int ?_
  refine tl_c ta_div ?_
  refine tl_c ta_iret ?_
  exact trivial
set_option maxRecDepth 20000 in
theorem ok_X3_steps (l : Launch) : ce_OkL l cX3_steps RX3 6 (some .int) 1 0 0 pc_X3_steps 0 tb_X3_steps := by
  unfold tb_X3_steps
  refine ok_c (j := 1) rfl (ok_iload_n (j := ⟨1, by decide⟩) (pc := 0) rfl rfl (by decide +kernel)) ?_
  refine ok_c (j := 2) rfl (ok_iload_n (j := ⟨2, by decide⟩) (pc := 1) rfl rfl (by decide +kernel)) ?_
  refine ok_c (j := 3) rfl (ok_isub (pc := 2) rfl rfl (by decide +kernel)) ?_
  refine ok_c (j := 4) rfl (ok_iconst (n := 4) (pc := 3) rfl rfl (by decide +kernel) (by decide)) ?_
  refine ok_c (j := 5) rfl (ok_idiv (pc := 4) rfl rfl (by decide +kernel)) ?_
  refine ok_c (j := 6) rfl (ok_iret (pc := 5) rfl (by decide +kernel) rfl) ?_
  exact trivial
noncomputable def F_X3_steps := ce_fI tb_X3_steps 6 (some 10)
theorem ct_X3_steps (l : Launch) : ce_callee l yX3_steps 5 1 0 0 (ce_wI F_X3_steps) := ⟨_, _, _, ce_ctr_of (pcs := pc_X3_steps) (by decide +kernel) rfl (ok_X3_steps l ) ce_fI_run, ce_tw_at wd_612 rfl, by decide, by decide +kernel, by decide +kernel, by decide +kernel⟩
def pc_X7_steps : List Nat := [0, 1]
noncomputable def tb_X7_steps : List ce_Op := [o_int 0, o_iret]
theorem tl_X7_steps : ce_TL tb_X7_steps := by
  unfold tb_X7_steps
  refine tl_c ta_int ?_
  refine tl_c ta_iret ?_
  exact trivial
set_option maxRecDepth 20000 in
theorem ok_X7_steps (l : Launch) : ce_OkL l cX7_steps RX7 6 (some .int) 1 0 0 pc_X7_steps 0 tb_X7_steps := by
  unfold tb_X7_steps
  refine ok_c (j := 1) rfl (ok_iconst (n := 0) (pc := 0) rfl rfl (by decide +kernel) (by decide)) ?_
  refine ok_c (j := 2) rfl (ok_iret (pc := 1) rfl (by decide +kernel) rfl) ?_
  exact trivial
noncomputable def F_X7_steps := ce_fI tb_X7_steps 6 (some 10)
theorem ct_X7_steps (l : Launch) : ce_callee l yX7_steps 5 1 0 0 (ce_wI F_X7_steps) := ⟨_, _, _, ce_ctr_of (pcs := pc_X7_steps) (by decide +kernel) rfl (ok_X7_steps l ) ce_fI_run, ce_tw_at wd_606 rfl, by decide, by decide +kernel, by decide +kernel, by decide +kernel⟩
def pc_X3_takes : List Nat := [0, 1, 3, 6, 7, 9, 12, 13, 16, 17]
noncomputable def tb_X3_takes : List ce_Op := [o_iload 1, o_iload 4, o_cmplt 8, o_iload 1, o_iload 5, o_cmplt 8, o_int 1, o_goto 9, o_int 0, o_zret]
theorem tl_X3_takes : ce_TL tb_X3_takes := by
  unfold tb_X3_takes
  refine tl_c ta_iload ?_
  refine tl_c ta_iload ?_
  refine tl_c ta_cmplt ?_
  refine tl_c ta_iload ?_
  refine tl_c ta_iload ?_
  refine tl_c ta_cmplt ?_
  refine tl_c ta_int ?_
  refine tl_c ta_goto ?_
  refine tl_c ta_int ?_
  refine tl_c ta_zret ?_
  exact trivial
set_option maxRecDepth 20000 in
theorem ok_X3_takes (l : Launch) : ce_OkL l cX3_takes RX3 6 (some .boolean) 1 0 0 pc_X3_takes 0 tb_X3_takes := by
  unfold tb_X3_takes
  refine ok_c (j := 1) rfl (ok_iload_n (j := ⟨1, by decide⟩) (pc := 0) rfl rfl (by decide +kernel)) ?_
  refine ok_c (j := 2) rfl (ok_iload (j := 4) (pc := 1) rfl rfl (by decide +kernel)) ?_
  refine ok_c (j := 3) rfl (ok_cmplt (off := 13) (tg := 16) (pc := 3) rfl rfl (by decide +kernel) rfl (by decide)) ?_
  refine ok_c (j := 4) rfl (ok_iload_n (j := ⟨1, by decide⟩) (pc := 6) rfl rfl (by decide +kernel)) ?_
  refine ok_c (j := 5) rfl (ok_iload (j := 5) (pc := 7) rfl rfl (by decide +kernel)) ?_
  refine ok_c (j := 6) rfl (ok_cmplt (off := 7) (tg := 16) (pc := 9) rfl rfl (by decide +kernel) rfl (by decide)) ?_
  refine ok_c (j := 7) rfl (ok_iconst (n := 1) (pc := 12) rfl rfl (by decide +kernel) (by decide)) ?_
  refine ok_c (j := 8) rfl (ok_goto (off := 4) (tg := 17) (pc := 13) rfl (by decide +kernel) rfl (by decide)) ?_
  refine ok_c (j := 9) rfl (ok_iconst (n := 0) (pc := 16) rfl rfl (by decide +kernel) (by decide)) ?_
  refine ok_c (j := 10) rfl (ok_zret (pc := 17) rfl (by decide +kernel) rfl) ?_
  exact trivial
noncomputable def F_X3_takes := ce_fI tb_X3_takes 6 (some 10)
theorem ct_X3_takes (l : Launch) : ce_callee l yX3_takes 5 1 0 0 (ce_wI F_X3_takes) := ⟨_, _, _, ce_ctr_of (pcs := pc_X3_takes) (by decide +kernel) rfl (ok_X3_takes l ) ce_fI_run, ce_tw_at wd_637 rfl, by decide, by decide +kernel, by decide +kernel, by decide +kernel⟩
def pc_X7_takes : List Nat := [0, 1, 2, 5, 6, 9, 10]
noncomputable def tb_X7_takes : List ce_Op := [o_iload 1, o_iload 3, o_cmplt 5, o_int 1, o_goto 6, o_int 0, o_zret]
theorem tl_X7_takes : ce_TL tb_X7_takes := by
  unfold tb_X7_takes
  refine tl_c ta_iload ?_
  refine tl_c ta_iload ?_
  refine tl_c ta_cmplt ?_
  refine tl_c ta_int ?_
  refine tl_c ta_goto ?_
  refine tl_c ta_int ?_
  refine tl_c ta_zret ?_
  exact trivial
set_option maxRecDepth 20000 in
theorem ok_X7_takes (l : Launch) : ce_OkL l cX7_takes RX7 6 (some .boolean) 1 0 0 pc_X7_takes 0 tb_X7_takes := by
  unfold tb_X7_takes
  refine ok_c (j := 1) rfl (ok_iload_n (j := ⟨1, by decide⟩) (pc := 0) rfl rfl (by decide +kernel)) ?_
  refine ok_c (j := 2) rfl (ok_iload_n (j := ⟨3, by decide⟩) (pc := 1) rfl rfl (by decide +kernel)) ?_
  refine ok_c (j := 3) rfl (ok_cmplt (off := 7) (tg := 9) (pc := 2) rfl rfl (by decide +kernel) rfl (by decide)) ?_
  refine ok_c (j := 4) rfl (ok_iconst (n := 1) (pc := 5) rfl rfl (by decide +kernel) (by decide)) ?_
  refine ok_c (j := 5) rfl (ok_goto (off := 4) (tg := 10) (pc := 6) rfl (by decide +kernel) rfl (by decide)) ?_
  refine ok_c (j := 6) rfl (ok_iconst (n := 0) (pc := 9) rfl rfl (by decide +kernel) (by decide)) ?_
  refine ok_c (j := 7) rfl (ok_zret (pc := 10) rfl (by decide +kernel) rfl) ?_
  exact trivial
noncomputable def F_X7_takes := ce_fI tb_X7_takes 6 (some 10)
theorem ct_X7_takes (l : Launch) : ce_callee l yX7_takes 5 1 0 0 (ce_wI F_X7_takes) := ⟨_, _, _, ce_ctr_of (pcs := pc_X7_takes) (by decide +kernel) rfl (ok_X7_takes l ) ce_fI_run, ce_tw_at wd_635 rfl, by decide, by decide +kernel, by decide +kernel, by decide +kernel⟩
def pc_X1_takes : List Nat := [0, 1, 3, 6, 7, 10, 11]
noncomputable def tb_X1_takes : List ce_Op := [o_iload 1, o_iload 4, o_cmplt 5, o_int 1, o_goto 6, o_int 0, o_zret]
theorem tl_X1_takes : ce_TL tb_X1_takes := by
  unfold tb_X1_takes
  refine tl_c ta_iload ?_
  refine tl_c ta_iload ?_
  refine tl_c ta_cmplt ?_
  refine tl_c ta_int ?_
  refine tl_c ta_goto ?_
  refine tl_c ta_int ?_
  refine tl_c ta_zret ?_
  exact trivial
set_option maxRecDepth 20000 in
theorem ok_X1_takes (l : Launch) : ce_OkL l cX1_takes RX1 6 (some .boolean) 1 0 0 pc_X1_takes 0 tb_X1_takes := by
  unfold tb_X1_takes
  refine ok_c (j := 1) rfl (ok_iload_n (j := ⟨1, by decide⟩) (pc := 0) rfl rfl (by decide +kernel)) ?_
  refine ok_c (j := 2) rfl (ok_iload (j := 4) (pc := 1) rfl rfl (by decide +kernel)) ?_
  refine ok_c (j := 3) rfl (ok_cmplt (off := 7) (tg := 10) (pc := 3) rfl rfl (by decide +kernel) rfl (by decide)) ?_
  refine ok_c (j := 4) rfl (ok_iconst (n := 1) (pc := 6) rfl rfl (by decide +kernel) (by decide)) ?_
  refine ok_c (j := 5) rfl (ok_goto (off := 4) (tg := 11) (pc := 7) rfl (by decide +kernel) rfl (by decide)) ?_
  refine ok_c (j := 6) rfl (ok_iconst (n := 0) (pc := 10) rfl rfl (by decide +kernel) (by decide)) ?_
  refine ok_c (j := 7) rfl (ok_zret (pc := 11) rfl (by decide +kernel) rfl) ?_
  exact trivial
noncomputable def F_X1_takes := ce_fI tb_X1_takes 6 (some 10)
theorem ct_X1_takes (l : Launch) : ce_callee l yX1_takes 5 1 0 0 (ce_wI F_X1_takes) := ⟨_, _, _, ce_ctr_of (pcs := pc_X1_takes) (by decide +kernel) rfl (ok_X1_takes l ) ce_fI_run, ce_tw_at wd_631 rfl, by decide, by decide +kernel, by decide +kernel, by decide +kernel⟩
def pc_X3_stays : List Nat := [0, 1, 2, 3]
noncomputable def tb_X3_stays : List ce_Op := [o_int 4, o_iload 1, o_bin q_add, o_iret]
theorem tl_X3_stays : ce_TL tb_X3_stays := by
  unfold tb_X3_stays
  refine tl_c ta_int ?_
  refine tl_c ta_iload ?_
  refine tl_c ta_bin ?_
  refine tl_c ta_iret ?_
  exact trivial
set_option maxRecDepth 20000 in
theorem ok_X3_stays (l : Launch) : ce_OkL l cX3_stays RX3 2 (some .int) 1 0 0 pc_X3_stays 0 tb_X3_stays := by
  unfold tb_X3_stays
  refine ok_c (j := 1) rfl (ok_iconst (n := 4) (pc := 0) rfl rfl (by decide +kernel) (by decide)) ?_
  refine ok_c (j := 2) rfl (ok_iload_n (j := ⟨1, by decide⟩) (pc := 1) rfl rfl (by decide +kernel)) ?_
  refine ok_c (j := 3) rfl (ok_iadd (pc := 2) rfl rfl (by decide +kernel)) ?_
  refine ok_c (j := 4) rfl (ok_iret (pc := 3) rfl (by decide +kernel) rfl) ?_
  exact trivial
noncomputable def F_X3_stays := ce_fI tb_X3_stays 2 (some 10)
theorem ct_X3_stays (l : Launch) : ce_callee l yX3_stays 1 1 0 0 (ce_wI F_X3_stays) := ⟨_, _, _, ce_ctr_of (pcs := pc_X3_stays) (by decide +kernel) rfl (ok_X3_stays l ) ce_fI_run, ce_tw_at wd_563 rfl, by decide, by decide +kernel, by decide +kernel, by decide +kernel⟩
def pc_X2_steps : List Nat := [0, 1, 2, 3, 4, 5, 7, 9, 12, 13]
noncomputable def tb_X2_steps : List ce_Op := [o_int 2, o_aload 0, o_iload 1, o_iload 2, o_iload 3, o_iload 4, o_iload 5, o_ci 6 F_X3_steps 0 0 0 0, o_bin q_mul, o_iret]
theorem tl_X2_steps : ce_TL tb_X2_steps := by
  unfold tb_X2_steps
  refine tl_c ta_int ?_
  refine tl_c ta_aload ?_
  refine tl_c ta_iload ?_
  refine tl_c ta_iload ?_
  refine tl_c ta_iload ?_
  refine tl_c ta_iload ?_
  refine tl_c ta_iload ?_
  refine tl_c ta_ci ?_
  refine tl_c ta_bin ?_
  refine tl_c ta_iret ?_
  exact trivial
set_option maxRecDepth 20000 in
theorem ok_X2_steps (l : Launch) : ce_OkL l cX2_steps RX2 6 (some .int) 2 0 0 pc_X2_steps 0 tb_X2_steps := by
  unfold tb_X2_steps
  refine ok_c (j := 1) rfl (ok_iconst (n := 2) (pc := 0) rfl rfl (by decide +kernel) (by decide)) ?_
  refine ok_c (j := 2) rfl (ok_aload_n (j := ⟨0, by decide⟩) (pc := 1) rfl rfl (by decide +kernel)) ?_
  refine ok_c (j := 3) rfl (ok_iload_n (j := ⟨1, by decide⟩) (pc := 2) rfl rfl (by decide +kernel)) ?_
  refine ok_c (j := 4) rfl (ok_iload_n (j := ⟨2, by decide⟩) (pc := 3) rfl rfl (by decide +kernel)) ?_
  refine ok_c (j := 5) rfl (ok_iload_n (j := ⟨3, by decide⟩) (pc := 4) rfl rfl (by decide +kernel)) ?_
  refine ok_c (j := 6) rfl (ok_iload (j := 4) (pc := 5) rfl rfl (by decide +kernel)) ?_
  refine ok_c (j := 7) rfl (ok_iload (j := 5) (pc := 7) rfl rfl (by decide +kernel)) ?_
  refine ok_c (j := 8) rfl (ok_super (x := ⟨RX3, "steps", "(IIIII)I"⟩) (y := yX3_steps) (n := 5) (d' := 1) (ix := 7) is_ci (pc := 9) rfl rfl (by decide +kernel) (by decide) (ct_X3_steps l) ce_fI_rec rfl (by decide +kernel) wd_598 wd_591 wd_146 wd_589 wd_59 (Or.inl rfl)) ?_
  refine ok_c (j := 9) rfl (ok_imul (pc := 12) rfl rfl (by decide +kernel)) ?_
  refine ok_c (j := 10) rfl (ok_iret (pc := 13) rfl (by decide +kernel) rfl) ?_
  exact trivial
noncomputable def F_X2_steps := ce_fI tb_X2_steps 6 (some 10)
theorem ct_X2_steps (l : Launch) : ce_callee l yX2_steps 5 2 0 0 (ce_wI F_X2_steps) := ⟨_, _, _, ce_ctr_of (pcs := pc_X2_steps) (by decide +kernel) rfl (ok_X2_steps l ) ce_fI_run, ce_tw_at wd_597 rfl, by decide, by decide +kernel, by decide +kernel, by decide +kernel⟩
def pc_X8_steps : List Nat := [0, 1, 2, 3, 4, 6, 8, 11, 13, 14, 15, 18]
noncomputable def tb_X8_steps : List ce_Op := [o_aload 0, o_iload 1, o_iload 2, o_iload 3, o_iload 4, o_iload 5, o_ci 6 F_X3_steps 0 0 0 0, o_iload 4, o_int 1, o_bin q_add, o_mmin, o_iret]
theorem tl_X8_steps : ce_TL tb_X8_steps := by
  unfold tb_X8_steps
  refine tl_c ta_aload ?_
  refine tl_c ta_iload ?_
  refine tl_c ta_iload ?_
  refine tl_c ta_iload ?_
  refine tl_c ta_iload ?_
  refine tl_c ta_iload ?_
  refine tl_c ta_ci ?_
  refine tl_c ta_iload ?_
  refine tl_c ta_int ?_
  refine tl_c ta_bin ?_
  refine tl_c ta_mmin ?_
  refine tl_c ta_iret ?_
  exact trivial
set_option maxRecDepth 20000 in
theorem ok_X8_steps (l : Launch) : ce_OkL l cX8_steps RX8 6 (some .int) 2 0 0 pc_X8_steps 0 tb_X8_steps := by
  unfold tb_X8_steps
  refine ok_c (j := 1) rfl (ok_aload_n (j := ⟨0, by decide⟩) (pc := 0) rfl rfl (by decide +kernel)) ?_
  refine ok_c (j := 2) rfl (ok_iload_n (j := ⟨1, by decide⟩) (pc := 1) rfl rfl (by decide +kernel)) ?_
  refine ok_c (j := 3) rfl (ok_iload_n (j := ⟨2, by decide⟩) (pc := 2) rfl rfl (by decide +kernel)) ?_
  refine ok_c (j := 4) rfl (ok_iload_n (j := ⟨3, by decide⟩) (pc := 3) rfl rfl (by decide +kernel)) ?_
  refine ok_c (j := 5) rfl (ok_iload (j := 4) (pc := 4) rfl rfl (by decide +kernel)) ?_
  refine ok_c (j := 6) rfl (ok_iload (j := 5) (pc := 6) rfl rfl (by decide +kernel)) ?_
  refine ok_c (j := 7) rfl (ok_super (x := ⟨RX3, "steps", "(IIIII)I"⟩) (y := yX3_steps) (n := 5) (d' := 1) (ix := 7) is_ci (pc := 8) rfl rfl (by decide +kernel) (by decide) (ct_X3_steps l) ce_fI_rec rfl (by decide +kernel) wd_610 wd_591 wd_153 wd_589 wd_59 (Or.inl rfl)) ?_
  refine ok_c (j := 8) rfl (ok_iload (j := 4) (pc := 11) rfl rfl (by decide +kernel)) ?_
  refine ok_c (j := 9) rfl (ok_iconst (n := 1) (pc := 13) rfl rfl (by decide +kernel) (by decide)) ?_
  refine ok_c (j := 10) rfl (ok_iadd (pc := 14) rfl rfl (by decide +kernel)) ?_
  refine ok_c (j := 11) rfl (ok_mmin (ix := 11) (pc := 15) rfl rfl (by decide +kernel) (by decide) wd_611 wd_387 wd_72 wd_388) ?_
  refine ok_c (j := 12) rfl (ok_iret (pc := 18) rfl (by decide +kernel) rfl) ?_
  exact trivial
noncomputable def F_X8_steps := ce_fI tb_X8_steps 6 (some 10)
theorem ct_X8_steps (l : Launch) : ce_callee l yX8_steps 5 2 0 0 (ce_wI F_X8_steps) := ⟨_, _, _, ce_ctr_of (pcs := pc_X8_steps) (by decide +kernel) rfl (ok_X8_steps l ) ce_fI_run, ce_tw_at wd_609 rfl, by decide, by decide +kernel, by decide +kernel, by decide +kernel⟩
def pc_X0_takes : List Nat := [0, 1, 2, 3, 4, 6, 8, 11, 14, 15, 17, 20, 21, 22, 25, 26, 29, 30]
noncomputable def tb_X0_takes : List ce_Op := [o_aload 0, o_iload 1, o_iload 2, o_iload 3, o_iload 4, o_iload 5, o_ci 6 F_X3_takes 0 0 0 0, o_ifne 14, o_iload 1, o_iload 4, o_cmplt 16, o_iload 2, o_int 3, o_cmple 16, o_int 1, o_goto 17, o_int 0, o_zret]
theorem tl_X0_takes : ce_TL tb_X0_takes := by
  unfold tb_X0_takes
  refine tl_c ta_aload ?_
  refine tl_c ta_iload ?_
  refine tl_c ta_iload ?_
  refine tl_c ta_iload ?_
  refine tl_c ta_iload ?_
  refine tl_c ta_iload ?_
  refine tl_c ta_ci ?_
  refine tl_c ta_ifne ?_
  refine tl_c ta_iload ?_
  refine tl_c ta_iload ?_
  refine tl_c ta_cmplt ?_
  refine tl_c ta_iload ?_
  refine tl_c ta_int ?_
  refine tl_c ta_cmple ?_
  refine tl_c ta_int ?_
  refine tl_c ta_goto ?_
  refine tl_c ta_int ?_
  refine tl_c ta_zret ?_
  exact trivial
set_option maxRecDepth 20000 in
theorem ok_X0_takes (l : Launch) : ce_OkL l cX0_takes RX0 6 (some .boolean) 2 0 0 pc_X0_takes 0 tb_X0_takes := by
  unfold tb_X0_takes
  refine ok_c (j := 1) rfl (ok_aload_n (j := ⟨0, by decide⟩) (pc := 0) rfl rfl (by decide +kernel)) ?_
  refine ok_c (j := 2) rfl (ok_iload_n (j := ⟨1, by decide⟩) (pc := 1) rfl rfl (by decide +kernel)) ?_
  refine ok_c (j := 3) rfl (ok_iload_n (j := ⟨2, by decide⟩) (pc := 2) rfl rfl (by decide +kernel)) ?_
  refine ok_c (j := 4) rfl (ok_iload_n (j := ⟨3, by decide⟩) (pc := 3) rfl rfl (by decide +kernel)) ?_
  refine ok_c (j := 5) rfl (ok_iload (j := 4) (pc := 4) rfl rfl (by decide +kernel)) ?_
  refine ok_c (j := 6) rfl (ok_iload (j := 5) (pc := 6) rfl rfl (by decide +kernel)) ?_
  refine ok_c (j := 7) rfl (ok_super (x := ⟨RX2, "takes", "(IIIII)Z"⟩) (y := yX3_takes) (n := 5) (d' := 1) (ix := 11) is_ci (pc := 8) rfl rfl (by decide +kernel) (by decide) (ct_X3_takes l) ce_fI_rec rfl (by decide +kernel) wd_626 wd_627 wd_167 wd_620 wd_59 (Or.inr ⟨_, wd_146⟩)) ?_
  refine ok_c (j := 8) rfl (ok_ifne (off := 14) (tg := 25) (pc := 11) rfl rfl (by decide +kernel) rfl (by decide)) ?_
  refine ok_c (j := 9) rfl (ok_iload_n (j := ⟨1, by decide⟩) (pc := 14) rfl rfl (by decide +kernel)) ?_
  refine ok_c (j := 10) rfl (ok_iload (j := 4) (pc := 15) rfl rfl (by decide +kernel)) ?_
  refine ok_c (j := 11) rfl (ok_cmplt (off := 12) (tg := 29) (pc := 17) rfl rfl (by decide +kernel) rfl (by decide)) ?_
  refine ok_c (j := 12) rfl (ok_iload_n (j := ⟨2, by decide⟩) (pc := 20) rfl rfl (by decide +kernel)) ?_
  refine ok_c (j := 13) rfl (ok_iconst (n := 3) (pc := 21) rfl rfl (by decide +kernel) (by decide)) ?_
  refine ok_c (j := 14) rfl (ok_cmple (off := 7) (tg := 29) (pc := 22) rfl rfl (by decide +kernel) rfl (by decide)) ?_
  refine ok_c (j := 15) rfl (ok_iconst (n := 1) (pc := 25) rfl rfl (by decide +kernel) (by decide)) ?_
  refine ok_c (j := 16) rfl (ok_goto (off := 4) (tg := 30) (pc := 26) rfl (by decide +kernel) rfl (by decide)) ?_
  refine ok_c (j := 17) rfl (ok_iconst (n := 0) (pc := 29) rfl rfl (by decide +kernel) (by decide)) ?_
  refine ok_c (j := 18) rfl (ok_zret (pc := 30) rfl (by decide +kernel) rfl) ?_
  exact trivial
noncomputable def F_X0_takes := ce_fI tb_X0_takes 6 (some 10)
theorem ct_X0_takes (l : Launch) : ce_callee l yX0_takes 5 2 0 0 (ce_wI F_X0_takes) := ⟨_, _, _, ce_ctr_of (pcs := pc_X0_takes) (by decide +kernel) rfl (ok_X0_takes l ) ce_fI_run, ce_tw_at wd_625 rfl, by decide, by decide +kernel, by decide +kernel, by decide +kernel⟩
def pc_X2_stays : List Nat := [0, 1, 2, 5, 6, 7]
noncomputable def tb_X2_stays : List ce_Op := [o_aload 0, o_iload 1, o_ci 2 F_X3_stays 0 0 0 0, o_int 1, o_bin q_add, o_iret]
theorem tl_X2_stays : ce_TL tb_X2_stays := by
  unfold tb_X2_stays
  refine tl_c ta_aload ?_
  refine tl_c ta_iload ?_
  refine tl_c ta_ci ?_
  refine tl_c ta_int ?_
  refine tl_c ta_bin ?_
  refine tl_c ta_iret ?_
  exact trivial
set_option maxRecDepth 20000 in
theorem ok_X2_stays (l : Launch) : ce_OkL l cX2_stays RX2 2 (some .int) 2 0 0 pc_X2_stays 0 tb_X2_stays := by
  unfold tb_X2_stays
  refine ok_c (j := 1) rfl (ok_aload_n (j := ⟨0, by decide⟩) (pc := 0) rfl rfl (by decide +kernel)) ?_
  refine ok_c (j := 2) rfl (ok_iload_n (j := ⟨1, by decide⟩) (pc := 1) rfl rfl (by decide +kernel)) ?_
  refine ok_c (j := 3) rfl (ok_super (x := ⟨RX3, "stays", "(I)I"⟩) (y := yX3_stays) (n := 1) (d' := 1) (ix := 11) is_ci (pc := 2) rfl rfl (by decide +kernel) (by decide) (ct_X3_stays l) ce_fI_rec rfl (by decide +kernel) wd_549 wd_545 wd_146 wd_543 wd_59 (Or.inl rfl)) ?_
  refine ok_c (j := 4) rfl (ok_iconst (n := 1) (pc := 5) rfl rfl (by decide +kernel) (by decide)) ?_
  refine ok_c (j := 5) rfl (ok_iadd (pc := 6) rfl rfl (by decide +kernel)) ?_
  refine ok_c (j := 6) rfl (ok_iret (pc := 7) rfl (by decide +kernel) rfl) ?_
  exact trivial
noncomputable def F_X2_stays := ce_fI tb_X2_stays 2 (some 10)
theorem ct_X2_stays (l : Launch) : ce_callee l yX2_stays 1 2 0 0 (ce_wI F_X2_stays) := ⟨_, _, _, ce_ctr_of (pcs := pc_X2_stays) (by decide +kernel) rfl (ok_X2_stays l ) ce_fI_run, ce_tw_at wd_548 rfl, by decide, by decide +kernel, by decide +kernel, by decide +kernel⟩
def pc_X8_stays : List Nat := [0, 1, 2, 5, 6, 7]
noncomputable def tb_X8_stays : List ce_Op := [o_aload 0, o_iload 1, o_ci 2 F_X3_stays 0 0 0 0, o_int 2, o_div, o_iret]
theorem tl_X8_stays : ce_TL tb_X8_stays := by
  unfold tb_X8_stays
  refine tl_c ta_aload ?_
  refine tl_c ta_iload ?_
  refine tl_c ta_ci ?_
  refine tl_c ta_int ?_
  refine tl_c ta_div ?_
  refine tl_c ta_iret ?_
  exact trivial
set_option maxRecDepth 20000 in
theorem ok_X8_stays (l : Launch) : ce_OkL l cX8_stays RX8 2 (some .int) 2 0 0 pc_X8_stays 0 tb_X8_stays := by
  unfold tb_X8_stays
  refine ok_c (j := 1) rfl (ok_aload_n (j := ⟨0, by decide⟩) (pc := 0) rfl rfl (by decide +kernel)) ?_
  refine ok_c (j := 2) rfl (ok_iload_n (j := ⟨1, by decide⟩) (pc := 1) rfl rfl (by decide +kernel)) ?_
  refine ok_c (j := 3) rfl (ok_super (x := ⟨RX3, "stays", "(I)I"⟩) (y := yX3_stays) (n := 1) (d' := 1) (ix := 17) is_ci (pc := 2) rfl rfl (by decide +kernel) (by decide) (ct_X3_stays l) ce_fI_rec rfl (by decide +kernel) wd_561 wd_545 wd_153 wd_543 wd_59 (Or.inl rfl)) ?_
  refine ok_c (j := 4) rfl (ok_iconst (n := 2) (pc := 5) rfl rfl (by decide +kernel) (by decide)) ?_
  refine ok_c (j := 5) rfl (ok_idiv (pc := 6) rfl rfl (by decide +kernel)) ?_
  refine ok_c (j := 6) rfl (ok_iret (pc := 7) rfl (by decide +kernel) rfl) ?_
  exact trivial
noncomputable def F_X8_stays := ce_fI tb_X8_stays 2 (some 10)
theorem ct_X8_stays (l : Launch) : ce_callee l yX8_stays 1 2 0 0 (ce_wI F_X8_stays) := ⟨_, _, _, ce_ctr_of (pcs := pc_X8_stays) (by decide +kernel) rfl (ok_X8_stays l ) ce_fI_run, ce_tw_at wd_560 rfl, by decide, by decide +kernel, by decide +kernel, by decide +kernel⟩
def pc_X0_steps : List Nat := [0, 1, 2, 3, 4, 6, 8, 11, 12, 13, 16, 18, 20, 21, 24, 25, 26]
noncomputable def tb_X0_steps : List ce_Op := [o_aload 0, o_iload 1, o_iload 2, o_iload 3, o_iload 4, o_iload 5, o_ci 6 F_X2_steps 0 0 0 0, o_iload 3, o_int 3, o_cmpne 14, o_int 10, o_iload 4, o_bin q_mul, o_goto 15, o_int 0, o_bin q_add, o_iret]
theorem tl_X0_steps : ce_TL tb_X0_steps := by
  unfold tb_X0_steps
  refine tl_c ta_aload ?_
  refine tl_c ta_iload ?_
  refine tl_c ta_iload ?_
  refine tl_c ta_iload ?_
  refine tl_c ta_iload ?_
  refine tl_c ta_iload ?_
  refine tl_c ta_ci ?_
  refine tl_c ta_iload ?_
  refine tl_c ta_int ?_
  refine tl_c ta_cmpne ?_
  refine tl_c ta_int ?_
  refine tl_c ta_iload ?_
  refine tl_c ta_bin ?_
  refine tl_c ta_goto ?_
  refine tl_c ta_int ?_
  refine tl_c ta_bin ?_
  refine tl_c ta_iret ?_
  exact trivial
set_option maxRecDepth 20000 in
theorem ok_X0_steps (l : Launch) : ce_OkL l cX0_steps RX0 6 (some .int) 3 0 0 pc_X0_steps 0 tb_X0_steps := by
  unfold tb_X0_steps
  refine ok_c (j := 1) rfl (ok_aload_n (j := ⟨0, by decide⟩) (pc := 0) rfl rfl (by decide +kernel)) ?_
  refine ok_c (j := 2) rfl (ok_iload_n (j := ⟨1, by decide⟩) (pc := 1) rfl rfl (by decide +kernel)) ?_
  refine ok_c (j := 3) rfl (ok_iload_n (j := ⟨2, by decide⟩) (pc := 2) rfl rfl (by decide +kernel)) ?_
  refine ok_c (j := 4) rfl (ok_iload_n (j := ⟨3, by decide⟩) (pc := 3) rfl rfl (by decide +kernel)) ?_
  refine ok_c (j := 5) rfl (ok_iload (j := 4) (pc := 4) rfl rfl (by decide +kernel)) ?_
  refine ok_c (j := 6) rfl (ok_iload (j := 5) (pc := 6) rfl rfl (by decide +kernel)) ?_
  refine ok_c (j := 7) rfl (ok_super (x := ⟨RX2, "steps", "(IIIII)I"⟩) (y := yX2_steps) (n := 5) (d' := 2) (ix := 7) is_ci (pc := 8) rfl rfl (by decide +kernel) (by decide) (ct_X2_steps l) ce_fI_rec rfl (by decide +kernel) wd_595 wd_1233 wd_167 wd_596 wd_60 (Or.inl rfl)) ?_
  refine ok_c (j := 8) rfl (ok_iload_n (j := ⟨3, by decide⟩) (pc := 11) rfl rfl (by decide +kernel)) ?_
  refine ok_c (j := 9) rfl (ok_iconst (n := 3) (pc := 12) rfl rfl (by decide +kernel) (by decide)) ?_
  refine ok_c (j := 10) rfl (ok_cmpne (off := 11) (tg := 24) (pc := 13) rfl rfl (by decide +kernel) rfl (by decide)) ?_
  refine ok_c (j := 11) rfl (ok_bipush (n := 10) (pc := 16) rfl rfl (by decide +kernel) (by decide)) ?_
  refine ok_c (j := 12) rfl (ok_iload (j := 4) (pc := 18) rfl rfl (by decide +kernel)) ?_
  refine ok_c (j := 13) rfl (ok_imul (pc := 20) rfl rfl (by decide +kernel)) ?_
  refine ok_c (j := 14) rfl (ok_goto (off := 4) (tg := 25) (pc := 21) rfl (by decide +kernel) rfl (by decide)) ?_
  refine ok_c (j := 15) rfl (ok_iconst (n := 0) (pc := 24) rfl rfl (by decide +kernel) (by decide)) ?_
  refine ok_c (j := 16) rfl (ok_iadd (pc := 25) rfl rfl (by decide +kernel)) ?_
  refine ok_c (j := 17) rfl (ok_iret (pc := 26) rfl (by decide +kernel) rfl) ?_
  exact trivial
noncomputable def F_X0_steps := ce_fI tb_X0_steps 6 (some 10)
theorem ct_X0_steps (l : Launch) : ce_callee l yX0_steps 5 3 0 0 (ce_wI F_X0_steps) := ⟨_, _, _, ce_ctr_of (pcs := pc_X0_steps) (by decide +kernel) rfl (ok_X0_steps l ) ce_fI_run, ce_tw_at wd_594 rfl, by decide, by decide +kernel, by decide +kernel, by decide +kernel⟩
def pc_X1_steps : List Nat := [0, 1, 2, 3, 4, 6, 8, 11, 13, 14]
noncomputable def tb_X1_steps : List ce_Op := [o_aload 0, o_iload 1, o_iload 2, o_iload 3, o_iload 4, o_iload 5, o_ci 6 F_X2_steps 0 0 0 0, o_iload 5, o_bin q_add, o_iret]
theorem tl_X1_steps : ce_TL tb_X1_steps := by
  unfold tb_X1_steps
  refine tl_c ta_aload ?_
  refine tl_c ta_iload ?_
  refine tl_c ta_iload ?_
  refine tl_c ta_iload ?_
  refine tl_c ta_iload ?_
  refine tl_c ta_iload ?_
  refine tl_c ta_ci ?_
  refine tl_c ta_iload ?_
  refine tl_c ta_bin ?_
  refine tl_c ta_iret ?_
  exact trivial
set_option maxRecDepth 20000 in
theorem ok_X1_steps (l : Launch) : ce_OkL l cX1_steps RX1 6 (some .int) 3 0 0 pc_X1_steps 0 tb_X1_steps := by
  unfold tb_X1_steps
  refine ok_c (j := 1) rfl (ok_aload_n (j := ⟨0, by decide⟩) (pc := 0) rfl rfl (by decide +kernel)) ?_
  refine ok_c (j := 2) rfl (ok_iload_n (j := ⟨1, by decide⟩) (pc := 1) rfl rfl (by decide +kernel)) ?_
  refine ok_c (j := 3) rfl (ok_iload_n (j := ⟨2, by decide⟩) (pc := 2) rfl rfl (by decide +kernel)) ?_
  refine ok_c (j := 4) rfl (ok_iload_n (j := ⟨3, by decide⟩) (pc := 3) rfl rfl (by decide +kernel)) ?_
  refine ok_c (j := 5) rfl (ok_iload (j := 4) (pc := 4) rfl rfl (by decide +kernel)) ?_
  refine ok_c (j := 6) rfl (ok_iload (j := 5) (pc := 6) rfl rfl (by decide +kernel)) ?_
  refine ok_c (j := 7) rfl (ok_super (x := ⟨RX2, "steps", "(IIIII)I"⟩) (y := yX2_steps) (n := 5) (d' := 2) (ix := 7) is_ci (pc := 8) rfl rfl (by decide +kernel) (by decide) (ct_X2_steps l) ce_fI_rec rfl (by decide +kernel) wd_602 wd_1233 wd_174 wd_596 wd_60 (Or.inl rfl)) ?_
  refine ok_c (j := 8) rfl (ok_iload (j := 5) (pc := 11) rfl rfl (by decide +kernel)) ?_
  refine ok_c (j := 9) rfl (ok_iadd (pc := 13) rfl rfl (by decide +kernel)) ?_
  refine ok_c (j := 10) rfl (ok_iret (pc := 14) rfl (by decide +kernel) rfl) ?_
  exact trivial
noncomputable def F_X1_steps := ce_fI tb_X1_steps 6 (some 10)
theorem ct_X1_steps (l : Launch) : ce_callee l yX1_steps 5 3 0 0 (ce_wI F_X1_steps) := ⟨_, _, _, ce_ctr_of (pcs := pc_X1_steps) (by decide +kernel) rfl (ok_X1_steps l ) ce_fI_run, ce_tw_at wd_601 rfl, by decide, by decide +kernel, by decide +kernel, by decide +kernel⟩
def pc_X7_stays : List Nat := [0, 1, 2, 5, 6, 7]
noncomputable def tb_X7_stays : List ce_Op := [o_aload 0, o_iload 1, o_ci 2 F_X8_stays 0 0 0 0, o_int 1, o_bin q_add, o_iret]
theorem tl_X7_stays : ce_TL tb_X7_stays := by
  unfold tb_X7_stays
  refine tl_c ta_aload ?_
  refine tl_c ta_iload ?_
  refine tl_c ta_ci ?_
  refine tl_c ta_int ?_
  refine tl_c ta_bin ?_
  refine tl_c ta_iret ?_
  exact trivial
set_option maxRecDepth 20000 in
theorem ok_X7_stays (l : Launch) : ce_OkL l cX7_stays RX7 2 (some .int) 3 0 0 pc_X7_stays 0 tb_X7_stays := by
  unfold tb_X7_stays
  refine ok_c (j := 1) rfl (ok_aload_n (j := ⟨0, by decide⟩) (pc := 0) rfl rfl (by decide +kernel)) ?_
  refine ok_c (j := 2) rfl (ok_iload_n (j := ⟨1, by decide⟩) (pc := 1) rfl rfl (by decide +kernel)) ?_
  refine ok_c (j := 3) rfl (ok_super (x := ⟨RX8, "stays", "(I)I"⟩) (y := yX8_stays) (n := 1) (d' := 2) (ix := 7) is_ci (pc := 2) rfl rfl (by decide +kernel) (by decide) (ct_X8_stays l) ce_fI_rec rfl (by decide +kernel) wd_558 wd_1232 wd_160 wd_559 wd_61 (Or.inl rfl)) ?_
  refine ok_c (j := 4) rfl (ok_iconst (n := 1) (pc := 5) rfl rfl (by decide +kernel) (by decide)) ?_
  refine ok_c (j := 5) rfl (ok_iadd (pc := 6) rfl rfl (by decide +kernel)) ?_
  refine ok_c (j := 6) rfl (ok_iret (pc := 7) rfl (by decide +kernel) rfl) ?_
  exact trivial
noncomputable def F_X7_stays := ce_fI tb_X7_stays 2 (some 10)
theorem ct_X7_stays (l : Launch) : ce_callee l yX7_stays 1 3 0 0 (ce_wI F_X7_stays) := ⟨_, _, _, ce_ctr_of (pcs := pc_X7_stays) (by decide +kernel) rfl (ok_X7_stays l ) ce_fI_run, ce_tw_at wd_557 rfl, by decide, by decide +kernel, by decide +kernel, by decide +kernel⟩
def pc_X1_stays : List Nat := [0, 1, 2, 3, 6, 7]
noncomputable def tb_X1_stays : List ce_Op := [o_int 2, o_aload 0, o_iload 1, o_ci 2 F_X2_stays 0 0 0 0, o_bin q_mul, o_iret]
theorem tl_X1_stays : ce_TL tb_X1_stays := by
  unfold tb_X1_stays
  refine tl_c ta_int ?_
  refine tl_c ta_aload ?_
  refine tl_c ta_iload ?_
  refine tl_c ta_ci ?_
  refine tl_c ta_bin ?_
  refine tl_c ta_iret ?_
  exact trivial
set_option maxRecDepth 20000 in
theorem ok_X1_stays (l : Launch) : ce_OkL l cX1_stays RX1 2 (some .int) 3 0 0 pc_X1_stays 0 tb_X1_stays := by
  unfold tb_X1_stays
  refine ok_c (j := 1) rfl (ok_iconst (n := 2) (pc := 0) rfl rfl (by decide +kernel) (by decide)) ?_
  refine ok_c (j := 2) rfl (ok_aload_n (j := ⟨0, by decide⟩) (pc := 1) rfl rfl (by decide +kernel)) ?_
  refine ok_c (j := 3) rfl (ok_iload_n (j := ⟨1, by decide⟩) (pc := 2) rfl rfl (by decide +kernel)) ?_
  refine ok_c (j := 4) rfl (ok_super (x := ⟨RX2, "stays", "(I)I"⟩) (y := yX2_stays) (n := 1) (d' := 2) (ix := 11) is_ci (pc := 3) rfl rfl (by decide +kernel) (by decide) (ct_X2_stays l) ce_fI_rec rfl (by decide +kernel) wd_553 wd_1231 wd_174 wd_547 wd_60 (Or.inl rfl)) ?_
  refine ok_c (j := 5) rfl (ok_imul (pc := 6) rfl rfl (by decide +kernel)) ?_
  refine ok_c (j := 6) rfl (ok_iret (pc := 7) rfl (by decide +kernel) rfl) ?_
  exact trivial
noncomputable def F_X1_stays := ce_fI tb_X1_stays 2 (some 10)
theorem ct_X1_stays (l : Launch) : ce_callee l yX1_stays 1 3 0 0 (ce_wI F_X1_stays) := ⟨_, _, _, ce_ctr_of (pcs := pc_X1_stays) (by decide +kernel) rfl (ok_X1_stays l ) ce_fI_run, ce_tw_at wd_552 rfl, by decide, by decide +kernel, by decide +kernel, by decide +kernel⟩
noncomputable def F_kind_steps : List ce_V → ce_S → Option (Int32 × ce_S) := fun a S => match a with
  | .inr (.inl q) :: _ => if q.1 = 10 then (match q.2 with
    | 0 => F_X3_steps a S
    | 1 => F_X2_steps a S
    | 2 => F_X8_steps a S
    | 3 => F_X7_steps a S
    | 4 => F_X0_steps a S
    | _ => F_X1_steps a S) else none
  | _ => none
theorem kd_steps_rec (a : List ce_V) (S : ce_S) (res : Option ce_V × ce_S) (h : ce_wI F_kind_steps a S = some res) : ∃ j as, a = .inr (.inl (10, j)) :: as := by
  match a, h with
  | [], h => cases h
  | .inl x :: r, h => cases h
  | .inr (.inr x) :: r, h => cases h
  | .inr (.inl (t, j)) :: r, h =>
    by_cases ht : t = 10
    · subst ht; exact ⟨j, r, rfl⟩
    · unfold ce_wI F_kind_steps at h
      simp only [if_neg ht] at h
      cases h
theorem kd_steps (l : Launch) : ∀ j, ∃ (y : MethodName) (q1 q2 q3 d' : Nat) (Fy : List ce_V → ce_S → ce_Rs), d' ≤ 3 ∧ ce_callee l y 5 d' 0 0 Fy ∧ lw_tbl[q1]? = some (Cond.selects (ce_kn j) yX3_steps y) ∧ lw_tbl[q2]? = some (Cond.instanceMethod y) ∧ lw_tbl[q3]? = some (Cond.initialized y.cls) ∧ ∀ as S, (ce_wI F_kind_steps) (.inr (.inl (10, j)) :: as) S = Fy (.inr (.inl (10, j)) :: as) S := by
  intro j
  match j with
  | 0 => exact ⟨yX3_steps, _, _, _, _, ce_wI F_X3_steps, by decide, ct_X3_steps l, wd_590, wd_589, wd_59, fun _ _ => rfl⟩
  | 1 => exact ⟨yX2_steps, _, _, _, _, ce_wI F_X2_steps, by decide, ct_X2_steps l, wd_603, wd_596, wd_60, fun _ _ => rfl⟩
  | 2 => exact ⟨yX8_steps, _, _, _, _, ce_wI F_X8_steps, by decide, ct_X8_steps l, wd_607, wd_608, wd_61, fun _ _ => rfl⟩
  | 3 => exact ⟨yX7_steps, _, _, _, _, ce_wI F_X7_steps, by decide, ct_X7_steps l, wd_604, wd_605, wd_62, fun _ _ => rfl⟩
  | 4 => exact ⟨yX0_steps, _, _, _, _, ce_wI F_X0_steps, by decide, ct_X0_steps l, wd_592, wd_593, wd_63, fun _ _ => rfl⟩
  | z + 5 => exact ⟨yX1_steps, _, _, _, _, ce_wI F_X1_steps, by decide, ct_X1_steps l, wd_599, wd_600, wd_64, fun _ _ => rfl⟩
noncomputable def F_kind_takes : List ce_V → ce_S → Option (Int32 × ce_S) := fun a S => match a with
  | .inr (.inl q) :: _ => if q.1 = 10 then (match q.2 with
    | 0 => F_X3_takes a S
    | 1 => F_X3_takes a S
    | 2 => F_X3_takes a S
    | 3 => F_X7_takes a S
    | 4 => F_X0_takes a S
    | _ => F_X1_takes a S) else none
  | _ => none
theorem kd_takes_rec (a : List ce_V) (S : ce_S) (res : Option ce_V × ce_S) (h : ce_wI F_kind_takes a S = some res) : ∃ j as, a = .inr (.inl (10, j)) :: as := by
  match a, h with
  | [], h => cases h
  | .inl x :: r, h => cases h
  | .inr (.inr x) :: r, h => cases h
  | .inr (.inl (t, j)) :: r, h =>
    by_cases ht : t = 10
    · subst ht; exact ⟨j, r, rfl⟩
    · unfold ce_wI F_kind_takes at h
      simp only [if_neg ht] at h
      cases h
theorem kd_takes (l : Launch) : ∀ j, ∃ (y : MethodName) (q1 q2 q3 d' : Nat) (Fy : List ce_V → ce_S → ce_Rs), d' ≤ 3 ∧ ce_callee l y 5 d' 0 0 Fy ∧ lw_tbl[q1]? = some (Cond.selects (ce_kn j) yX3_takes y) ∧ lw_tbl[q2]? = some (Cond.instanceMethod y) ∧ lw_tbl[q3]? = some (Cond.initialized y.cls) ∧ ∀ as S, (ce_wI F_kind_takes) (.inr (.inl (10, j)) :: as) S = Fy (.inr (.inl (10, j)) :: as) S := by
  intro j
  match j with
  | 0 => exact ⟨yX3_takes, _, _, _, _, ce_wI F_X3_takes, by decide, ct_X3_takes l, wd_621, wd_620, wd_59, fun _ _ => rfl⟩
  | 1 => exact ⟨yX3_takes, _, _, _, _, ce_wI F_X3_takes, by decide, ct_X3_takes l, wd_632, wd_620, wd_59, fun _ _ => rfl⟩
  | 2 => exact ⟨yX3_takes, _, _, _, _, ce_wI F_X3_takes, by decide, ct_X3_takes l, wd_636, wd_620, wd_59, fun _ _ => rfl⟩
  | 3 => exact ⟨yX7_takes, _, _, _, _, ce_wI F_X7_takes, by decide, ct_X7_takes l, wd_633, wd_634, wd_62, fun _ _ => rfl⟩
  | 4 => exact ⟨yX0_takes, _, _, _, _, ce_wI F_X0_takes, by decide, ct_X0_takes l, wd_623, wd_624, wd_63, fun _ _ => rfl⟩
  | z + 5 => exact ⟨yX1_takes, _, _, _, _, ce_wI F_X1_takes, by decide, ct_X1_takes l, wd_629, wd_630, wd_64, fun _ _ => rfl⟩
noncomputable def F_kind_stays : List ce_V → ce_S → Option (Int32 × ce_S) := fun a S => match a with
  | .inr (.inl q) :: _ => if q.1 = 10 then (match q.2 with
    | 0 => F_X3_stays a S
    | 1 => F_X2_stays a S
    | 2 => F_X8_stays a S
    | 3 => F_X7_stays a S
    | 4 => F_X2_stays a S
    | _ => F_X1_stays a S) else none
  | _ => none
theorem kd_stays_rec (a : List ce_V) (S : ce_S) (res : Option ce_V × ce_S) (h : ce_wI F_kind_stays a S = some res) : ∃ j as, a = .inr (.inl (10, j)) :: as := by
  match a, h with
  | [], h => cases h
  | .inl x :: r, h => cases h
  | .inr (.inr x) :: r, h => cases h
  | .inr (.inl (t, j)) :: r, h =>
    by_cases ht : t = 10
    · subst ht; exact ⟨j, r, rfl⟩
    · unfold ce_wI F_kind_stays at h
      simp only [if_neg ht] at h
      cases h
theorem kd_stays (l : Launch) : ∀ j, ∃ (y : MethodName) (q1 q2 q3 d' : Nat) (Fy : List ce_V → ce_S → ce_Rs), d' ≤ 3 ∧ ce_callee l y 1 d' 0 0 Fy ∧ lw_tbl[q1]? = some (Cond.selects (ce_kn j) yX3_stays y) ∧ lw_tbl[q2]? = some (Cond.instanceMethod y) ∧ lw_tbl[q3]? = some (Cond.initialized y.cls) ∧ ∀ as S, (ce_wI F_kind_stays) (.inr (.inl (10, j)) :: as) S = Fy (.inr (.inl (10, j)) :: as) S := by
  intro j
  match j with
  | 0 => exact ⟨yX3_stays, _, _, _, _, ce_wI F_X3_stays, by decide, ct_X3_stays l, wd_544, wd_543, wd_59, fun _ _ => rfl⟩
  | 1 => exact ⟨yX2_stays, _, _, _, _, ce_wI F_X2_stays, by decide, ct_X2_stays l, wd_554, wd_547, wd_60, fun _ _ => rfl⟩
  | 2 => exact ⟨yX8_stays, _, _, _, _, ce_wI F_X8_stays, by decide, ct_X8_stays l, wd_562, wd_559, wd_61, fun _ _ => rfl⟩
  | 3 => exact ⟨yX7_stays, _, _, _, _, ce_wI F_X7_stays, by decide, ct_X7_stays l, wd_555, wd_556, wd_62, fun _ _ => rfl⟩
  | 4 => exact ⟨yX2_stays, _, _, _, _, ce_wI F_X2_stays, by decide, ct_X2_stays l, wd_546, wd_547, wd_60, fun _ _ => rfl⟩
  | z + 5 => exact ⟨yX1_stays, _, _, _, _, ce_wI F_X1_stays, by decide, ct_X1_stays l, wd_550, wd_551, wd_64, fun _ _ => rfl⟩
