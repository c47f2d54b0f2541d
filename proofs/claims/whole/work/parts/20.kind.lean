theorem ok_c {l : Launch} {cc : ByteArray} {own : String} {nL : Nat} {rt : Option FieldType} {d MC MS : Nat} {pcs : List Nat} {i j : Nat} {o : ce_Op} {r : List ce_Op} (hj : i + 1 = j) (h : ce_Ok l cc own nL rt d MC MS pcs i o) (hr : ce_OkL l cc own nL rt d MC MS pcs j r) : ce_OkL l cc own nL rt d MC MS pcs i (o :: r) := ⟨h, hj ▸ hr⟩
theorem tl_c {o : ce_Op} {r : List ce_Op} (h : ce_Tail o) (hr : ce_TL r) : ce_TL (o :: r) := ⟨h, hr⟩
theorem cw_X4 : ∀ w ∈ u_ws RX4 TX4 5, w ∈ ce_tw := ce_uws [432, 434, 436, 438, 440] (by decide +kernel)
theorem cw_X5 : ∀ w ∈ u_ws RX5 TX5 8, w ∈ ce_tw := ce_uws [199, 201, 203, 205, 207, 209, 211, 213] (by decide +kernel)
theorem cw_X6 : ∀ w ∈ u_ws RX6 TX6 3, w ∈ ce_tw := ce_uws [227, 229, 231] (by decide +kernel)
theorem cw_X9 : ∀ w ∈ u_ws RX9 TX9 11, w ∈ ce_tw := ce_uws [108, 110, 112, 114, 116, 118, 120, 122, 124, 126, 128] (by decide +kernel)
theorem cw_X10 : ∀ w ∈ u_ws RX10 TX10 4, w ∈ ce_tw := ce_uws [402, 404, 406, 408] (by decide +kernel)
theorem cw_X11 : ∀ w ∈ u_ws RX11 TX11 14, w ∈ ce_tw := ce_uws [457, 459, 461, 463, 465, 467, 469, 471, 473, 475, 477, 479, 481, 483] (by decide +kernel)
theorem cw_X12 : ∀ w ∈ u_ws RX12 TX12 45, w ∈ ce_tw := ce_uws [869, 871, 873, 875, 877, 879, 881, 883, 885, 887, 889, 891, 893, 895, 897, 899, 901, 903, 905, 907, 909, 911, 913, 915, 917, 919, 921, 923, 925, 927, 929, 931, 933, 935, 937, 939, 941, 943, 945, 947, 949, 951, 953, 955, 957] (by decide +kernel)
def pc_X3_steps : List Nat := [0, 1, 2, 3, 4, 5]
noncomputable def tb_X3_steps : List ce_Op := [o_iload 1, o_iload 2, o_bin (fun x y => x - y), o_int 4, o_div, o_iret]
theorem tl_X3_steps : ce_TL tb_X3_steps := by
  unfold tb_X3_steps
  refine tl_c ta_iload ?_
  refine tl_c ta_iload ?_
  refine tl_c ta_bin ?_
  refine tl_c ta_int ?_
  refine tl_c ta_div ?_
  refine tl_c ta_iret ?_
  exact trivial
set_option maxRecDepth 20000 in
theorem ok_X3_steps (l : Launch) : ce_OkL l cX3_steps RX3 6 (some .int) 1 0 0 pc_X3_steps 0 tb_X3_steps := by
  unfold tb_X3_steps
  refine ok_c (j := 1) rfl (ok_iload_n (j := ⟨1, by decide⟩) (pc := 0) rfl rfl (by decide +kernel)) ?_
  refine ok_c (j := 2) rfl (ok_iload_n (j := ⟨2, by decide⟩) (pc := 1) rfl rfl (by decide +kernel)) ?_
  refine ok_c (j := 3) rfl (ok_isub (pc := 2) rfl rfl (by decide +kernel)) ?_
  refine ok_c (j := 4) rfl (ok_iconst (n := 4) (pc := 3) rfl rfl (by decide +kernel) (by decide)) ?_
  refine ok_c (j := 5) rfl (ok_idiv (pc := 4) rfl rfl (by decide +kernel)) ?_
  refine ok_c (j := 6) rfl (ok_iret (pc := 5) rfl (by decide +kernel) rfl) ?_
  exact trivial
noncomputable def F_X3_steps := ce_fI tb_X3_steps 6 (some 10)
theorem ct_X3_steps (l : Launch) : ce_callee l yX3_steps 5 1 0 0 (ce_wI F_X3_steps) := ⟨_, _, _, ce_ctr_of (pcs := pc_X3_steps) (by decide +kernel) rfl (ok_X3_steps l ) ce_fI_run, ce_tw_at wd_612 rfl, by decide, by decide +kernel, by decide +kernel, by decide +kernel⟩
def pc_X7_steps : List Nat := [0, 1]
noncomputable def tb_X7_steps : List ce_Op := [o_int 0, o_iret]
theorem tl_X7_steps : ce_TL tb_X7_steps := by
  unfold tb_X7_steps
  refine tl_c ta_int ?_
  refine tl_c ta_iret ?_
  exact trivial
set_option maxRecDepth 20000 in
theorem ok_X7_steps (l : Launch) : ce_OkL l cX7_steps RX7 6 (some .int) 1 0 0 pc_X7_steps 0 tb_X7_steps := by
  unfold tb_X7_steps
  refine ok_c (j := 1) rfl (ok_iconst (n := 0) (pc := 0) rfl rfl (by decide +kernel) (by decide)) ?_
  refine ok_c (j := 2) rfl (ok_iret (pc := 1) rfl (by decide +kernel) rfl) ?_
  exact trivial
noncomputable def F_X7_steps := ce_fI tb_X7_steps 6 (some 10)
theorem ct_X7_steps (l : Launch) : ce_callee l yX7_steps 5 1 0 0 (ce_wI F_X7_steps) := ⟨_, _, _, ce_ctr_of (pcs := pc_X7_steps) (by decide +kernel) rfl (ok_X7_steps l ) ce_fI_run, ce_tw_at wd_606 rfl, by decide, by decide +kernel, by decide +kernel, by decide +kernel⟩
def pc_X3_takes : List Nat := [0, 1, 3, 6, 7, 9, 12, 13, 16, 17]
noncomputable def tb_X3_takes : List ce_Op := [o_iload 1, o_iload 4, o_cmplt 8, o_iload 1, o_iload 5, o_cmplt 8, o_int 1, o_goto 9, o_int 0, o_zret]
theorem tl_X3_takes : ce_TL tb_X3_takes := by
  unfold tb_X3_takes
  refine tl_c ta_iload ?_
  refine tl_c ta_iload ?_
  refine tl_c ta_cmplt ?_
  refine tl_c ta_iload ?_
  refine tl_c ta_iload ?_
  refine tl_c ta_cmplt ?_
  refine tl_c ta_int ?_
  refine tl_c ta_goto ?_
  refine tl_c ta_int ?_
  refine tl_c ta_zret ?_
  exact trivial
set_option maxRecDepth 20000 in
theorem ok_X3_takes (l : Launch) : ce_OkL l cX3_takes RX3 6 (some .boolean) 1 0 0 pc_X3_takes 0 tb_X3_takes := by
  unfold tb_X3_takes
  refine ok_c (j := 1) rfl (ok_iload_n (j := ⟨1, by decide⟩) (pc := 0) rfl rfl (by decide +kernel)) ?_
  refine ok_c (j := 2) rfl (ok_iload (j := 4) (pc := 1) rfl rfl (by decide +kernel)) ?_
  refine ok_c (j := 3) rfl (ok_cmplt (off := 13) (tg := 16) (pc := 3) rfl rfl (by decide +kernel) rfl (by decide)) ?_
  refine ok_c (j := 4) rfl (ok_iload_n (j := ⟨1, by decide⟩) (pc := 6) rfl rfl (by decide +kernel)) ?_
  refine ok_c (j := 5) rfl (ok_iload (j := 5) (pc := 7) rfl rfl (by decide +kernel)) ?_
  refine ok_c (j := 6) rfl (ok_cmplt (off := 7) (tg := 16) (pc := 9) rfl rfl (by decide +kernel) rfl (by decide)) ?_
  refine ok_c (j := 7) rfl (ok_iconst (n := 1) (pc := 12) rfl rfl (by decide +kernel) (by decide)) ?_
  refine ok_c (j := 8) rfl (ok_goto (off := 4) (tg := 17) (pc := 13) rfl (by decide +kernel) rfl (by decide)) ?_
  refine ok_c (j := 9) rfl (ok_iconst (n := 0) (pc := 16) rfl rfl (by decide +kernel) (by decide)) ?_
  refine ok_c (j := 10) rfl (ok_zret (pc := 17) rfl (by decide +kernel) rfl) ?_
  exact trivial
noncomputable def F_X3_takes := ce_fI tb_X3_takes 6 (some 10)
theorem ct_X3_takes (l : Launch) : ce_callee l yX3_takes 5 1 0 0 (ce_wI F_X3_takes) := ⟨_, _, _, ce_ctr_of (pcs := pc_X3_takes) (by decide +kernel) rfl (ok_X3_takes l ) ce_fI_run, ce_tw_at wd_637 rfl, by decide, by decide +kernel, by decide +kernel, by decide +kernel⟩
def pc_X7_takes : List Nat := [0, 1, 2, 5, 6, 9, 10]
noncomputable def tb_X7_takes : List ce_Op := [o_iload 1, o_iload 3, o_cmplt 5, o_int 1, o_goto 6, o_int 0, o_zret]
theorem tl_X7_takes : ce_TL tb_X7_takes := by
  unfold tb_X7_takes
  refine tl_c ta_iload ?_
  refine tl_c ta_iload ?_
  refine tl_c ta_cmplt ?_
  refine tl_c ta_int ?_
  refine tl_c ta_goto ?_
  refine tl_c ta_int ?_
  refine tl_c ta_zret ?_
  exact trivial
set_option maxRecDepth 20000 in
theorem ok_X7_takes (l : Launch) : ce_OkL l cX7_takes RX7 6 (some .boolean) 1 0 0 pc_X7_takes 0 tb_X7_takes := by
  unfold tb_X7_takes
  refine ok_c (j := 1) rfl (ok_iload_n (j := ⟨1, by decide⟩) (pc := 0) rfl rfl (by decide +kernel)) ?_
  refine ok_c (j := 2) rfl (ok_iload_n (j := ⟨3, by decide⟩) (pc := 1) rfl rfl (by decide +kernel)) ?_
  refine ok_c (j := 3) rfl (ok_cmplt (off := 7) (tg := 9) (pc := 2) rfl rfl (by decide +kernel) rfl (by decide)) ?_
  refine ok_c (j := 4) rfl (ok_iconst (n := 1) (pc := 5) rfl rfl (by decide +kernel) (by decide)) ?_
  refine ok_c (j := 5) rfl (ok_goto (off := 4) (tg := 10) (pc := 6) rfl (by decide +kernel) rfl (by decide)) ?_
  refine ok_c (j := 6) rfl (ok_iconst (n := 0) (pc := 9) rfl rfl (by decide +kernel) (by decide)) ?_
  refine ok_c (j := 7) rfl (ok_zret (pc := 10) rfl (by decide +kernel) rfl) ?_
  exact trivial
noncomputable def F_X7_takes := ce_fI tb_X7_takes 6 (some 10)
theorem ct_X7_takes (l : Launch) : ce_callee l yX7_takes 5 1 0 0 (ce_wI F_X7_takes) := ⟨_, _, _, ce_ctr_of (pcs := pc_X7_takes) (by decide +kernel) rfl (ok_X7_takes l ) ce_fI_run, ce_tw_at wd_635 rfl, by decide, by decide +kernel, by decide +kernel, by decide +kernel⟩
def pc_X1_takes : List Nat := [0, 1, 3, 6, 7, 10, 11]
noncomputable def tb_X1_takes : List ce_Op := [o_iload 1, o_iload 4, o_cmplt 5, o_int 1, o_goto 6, o_int 0, o_zret]
theorem tl_X1_takes : ce_TL tb_X1_takes := by
  unfold tb_X1_takes
  refine tl_c ta_iload ?_
  refine tl_c ta_iload ?_
  refine tl_c ta_cmplt ?_
  refine tl_c ta_int ?_
  refine tl_c ta_goto ?_
  refine tl_c ta_int ?_
  refine tl_c ta_zret ?_
  exact trivial
set_option maxRecDepth 20000 in
theorem ok_X1_takes (l : Launch) : ce_OkL l cX1_takes RX1 6 (some .boolean) 1 0 0 pc_X1_takes 0 tb_X1_takes := by
  unfold tb_X1_takes
  refine ok_c (j := 1) rfl (ok_iload_n (j := ⟨1, by decide⟩) (pc := 0) rfl rfl (by decide +kernel)) ?_
  refine ok_c (j := 2) rfl (ok_iload (j := 4) (pc := 1) rfl rfl (by decide +kernel)) ?_
  refine ok_c (j := 3) rfl (ok_cmplt (off := 7) (tg := 10) (pc := 3) rfl rfl (by decide +kernel) rfl (by decide)) ?_
  refine ok_c (j := 4) rfl (ok_iconst (n := 1) (pc := 6) rfl rfl (by decide +kernel) (by decide)) ?_
  refine ok_c (j := 5) rfl (ok_goto (off := 4) (tg := 11) (pc := 7) rfl (by decide +kernel) rfl (by decide)) ?_
  refine ok_c (j := 6) rfl (ok_iconst (n := 0) (pc := 10) rfl rfl (by decide +kernel) (by decide)) ?_
  refine ok_c (j := 7) rfl (ok_zret (pc := 11) rfl (by decide +kernel) rfl) ?_
  exact trivial
noncomputable def F_X1_takes := ce_fI tb_X1_takes 6 (some 10)
theorem ct_X1_takes (l : Launch) : ce_callee l yX1_takes 5 1 0 0 (ce_wI F_X1_takes) := ⟨_, _, _, ce_ctr_of (pcs := pc_X1_takes) (by decide +kernel) rfl (ok_X1_takes l ) ce_fI_run, ce_tw_at wd_631 rfl, by decide, by decide +kernel, by decide +kernel, by decide +kernel⟩
def pc_X3_stays : List Nat := [0, 1, 2, 3]
noncomputable def tb_X3_stays : List ce_Op := [o_int 4, o_iload 1, o_bin (fun x y => x + y), o_iret]
theorem tl_X3_stays : ce_TL tb_X3_stays := by
  unfold tb_X3_stays
  refine tl_c ta_int ?_
  refine tl_c ta_iload ?_
  refine tl_c ta_bin ?_
  refine tl_c ta_iret ?_
  exact trivial
set_option maxRecDepth 20000 in
theorem ok_X3_stays (l : Launch) : ce_OkL l cX3_stays RX3 2 (some .int) 1 0 0 pc_X3_stays 0 tb_X3_stays := by
  unfold tb_X3_stays
  refine ok_c (j := 1) rfl (ok_iconst (n := 4) (pc := 0) rfl rfl (by decide +kernel) (by decide)) ?_
  refine ok_c (j := 2) rfl (ok_iload_n (j := ⟨1, by decide⟩) (pc := 1) rfl rfl (by decide +kernel)) ?_
  refine ok_c (j := 3) rfl (ok_iadd (pc := 2) rfl rfl (by decide +kernel)) ?_
  refine ok_c (j := 4) rfl (ok_iret (pc := 3) rfl (by decide +kernel) rfl) ?_
  exact trivial
noncomputable def F_X3_stays := ce_fI tb_X3_stays 2 (some 10)
theorem ct_X3_stays (l : Launch) : ce_callee l yX3_stays 1 1 0 0 (ce_wI F_X3_stays) := ⟨_, _, _, ce_ctr_of (pcs := pc_X3_stays) (by decide +kernel) rfl (ok_X3_stays l ) ce_fI_run, ce_tw_at wd_563 rfl, by decide, by decide +kernel, by decide +kernel, by decide +kernel⟩
def pc_X2_steps : List Nat := [0, 1, 2, 3, 4, 5, 7, 9, 12, 13]
noncomputable def tb_X2_steps : List ce_Op := [o_int 2, o_aload 0, o_iload 1, o_iload 2, o_iload 3, o_iload 4, o_iload 5, o_ci 6 F_X3_steps 0 0 0 0, o_bin (fun x y => x * y), o_iret]
theorem tl_X2_steps : ce_TL tb_X2_steps := by
  unfold tb_X2_steps
  refine tl_c ta_int ?_
  refine tl_c ta_aload ?_
  refine tl_c ta_iload ?_
  refine tl_c ta_iload ?_
  refine tl_c ta_iload ?_
  refine tl_c ta_iload ?_
  refine tl_c ta_iload ?_
  refine tl_c ta_ci ?_
  refine tl_c ta_bin ?_
  refine tl_c ta_iret ?_
  exact trivial
set_option maxRecDepth 20000 in
theorem ok_X2_steps (l : Launch) : ce_OkL l cX2_steps RX2 6 (some .int) 2 0 0 pc_X2_steps 0 tb_X2_steps := by
  unfold tb_X2_steps
  refine ok_c (j := 1) rfl (ok_iconst (n := 2) (pc := 0) rfl rfl (by decide +kernel) (by decide)) ?_
  refine ok_c (j := 2) rfl (ok_aload_n (j := ⟨0, by decide⟩) (pc := 1) rfl rfl (by decide +kernel)) ?_
  refine ok_c (j := 3) rfl (ok_iload_n (j := ⟨1, by decide⟩) (pc := 2) rfl rfl (by decide +kernel)) ?_
  refine ok_c (j := 4) rfl (ok_iload_n (j := ⟨2, by decide⟩) (pc := 3) rfl rfl (by decide +kernel)) ?_
  refine ok_c (j := 5) rfl (ok_iload_n (j := ⟨3, by decide⟩) (pc := 4) rfl rfl (by decide +kernel)) ?_
  refine ok_c (j := 6) rfl (ok_iload (j := 4) (pc := 5) rfl rfl (by decide +kernel)) ?_
  refine ok_c (j := 7) rfl (ok_iload (j := 5) (pc := 7) rfl rfl (by decide +kernel)) ?_
  refine ok_c (j := 8) rfl (ok_super (x := ⟨RX3, "steps", "(IIIII)I"⟩) (y := yX3_steps) (n := 5) (d' := 1) (ix := 7) is_ci (pc := 9) rfl rfl (by decide +kernel) (by decide) (ct_X3_steps l) ce_fI_rec rfl (by decide +kernel) wd_598 wd_591 wd_146 wd_589 wd_59 (Or.inl rfl)) ?_
  refine ok_c (j := 9) rfl (ok_imul (pc := 12) rfl rfl (by decide +kernel)) ?_
  refine ok_c (j := 10) rfl (ok_iret (pc := 13) rfl (by decide +kernel) rfl) ?_
  exact trivial
noncomputable def F_X2_steps := ce_fI tb_X2_steps 6 (some 10)
theorem ct_X2_steps (l : Launch) : ce_callee l yX2_steps 5 2 0 0 (ce_wI F_X2_steps) := ⟨_, _, _, ce_ctr_of (pcs := pc_X2_steps) (by decide +kernel) rfl (ok_X2_steps l ) ce_fI_run, ce_tw_at wd_597 rfl, by decide, by decide +kernel, by decide +kernel, by decide +kernel⟩
def pc_X8_steps : List Nat := [0, 1, 2, 3, 4, 6, 8, 11, 13, 14, 15, 18]
noncomputable def tb_X8_steps : List ce_Op := [o_aload 0, o_iload 1, o_iload 2, o_iload 3, o_iload 4, o_iload 5, o_ci 6 F_X3_steps 0 0 0 0, o_iload 4, o_int 1, o_bin (fun x y => x + y), o_mmin, o_iret]
theorem tl_X8_steps : ce_TL tb_X8_steps := by
  unfold tb_X8_steps
  refine tl_c ta_aload ?_
  refine tl_c ta_iload ?_
  refine tl_c ta_iload ?_
  refine tl_c ta_iload ?_
  refine tl_c ta_iload ?_
  refine tl_c ta_iload ?_
  refine tl_c ta_ci ?_
  refine tl_c ta_iload ?_
  refine tl_c ta_int ?_
  refine tl_c ta_bin ?_
  refine tl_c ta_mmin ?_
  refine tl_c ta_iret ?_
  exact trivial
set_option maxRecDepth 20000 in
theorem ok_X8_steps (l : Launch) : ce_OkL l cX8_steps RX8 6 (some .int) 2 0 0 pc_X8_steps 0 tb_X8_steps := by
  unfold tb_X8_steps
  refine ok_c (j := 1) rfl (ok_aload_n (j := ⟨0, by decide⟩) (pc := 0) rfl rfl (by decide +kernel)) ?_
  refine ok_c (j := 2) rfl (ok_iload_n (j := ⟨1, by decide⟩) (pc := 1) rfl rfl (by decide +kernel)) ?_
  refine ok_c (j := 3) rfl (ok_iload_n (j := ⟨2, by decide⟩) (pc := 2) rfl rfl (by decide +kernel)) ?_
  refine ok_c (j := 4) rfl (ok_iload_n (j := ⟨3, by decide⟩) (pc := 3) rfl rfl (by decide +kernel)) ?_
  refine ok_c (j := 5) rfl (ok_iload (j := 4) (pc := 4) rfl rfl (by decide +kernel)) ?_
  refine ok_c (j := 6) rfl (ok_iload (j := 5) (pc := 6) rfl rfl (by decide +kernel)) ?_
  refine ok_c (j := 7) rfl (ok_super (x := ⟨RX3, "steps", "(IIIII)I"⟩) (y := yX3_steps) (n := 5) (d' := 1) (ix := 7) is_ci (pc := 8) rfl rfl (by decide +kernel) (by decide) (ct_X3_steps l) ce_fI_rec rfl (by decide +kernel) wd_610 wd_591 wd_153 wd_589 wd_59 (Or.inl rfl)) ?_
  refine ok_c (j := 8) rfl (ok_iload (j := 4) (pc := 11) rfl rfl (by decide +kernel)) ?_
  refine ok_c (j := 9) rfl (ok_iconst (n := 1) (pc := 13) rfl rfl (by decide +kernel) (by decide)) ?_
  refine ok_c (j := 10) rfl (ok_iadd (pc := 14) rfl rfl (by decide +kernel)) ?_
  refine ok_c (j := 11) rfl (ok_mmin (ix := 11) (pc := 15) rfl rfl (by decide +kernel) (by decide) wd_611 wd_387 wd_72 wd_388) ?_
  refine ok_c (j := 12) rfl (ok_iret (pc := 18) rfl (by decide +kernel) rfl) ?_
  exact trivial
noncomputable def F_X8_steps := ce_fI tb_X8_steps 6 (some 10)
theorem ct_X8_steps (l : Launch) : ce_callee l yX8_steps 5 2 0 0 (ce_wI F_X8_steps) := ⟨_, _, _, ce_ctr_of (pcs := pc_X8_steps) (by decide +kernel) rfl (ok_X8_steps l ) ce_fI_run, ce_tw_at wd_609 rfl, by decide, by decide +kernel, by decide +kernel, by decide +kernel⟩
def pc_X0_takes : List Nat := [0, 1, 2, 3, 4, 6, 8, 11, 14, 15, 17, 20, 21, 22, 25, 26, 29, 30]
noncomputable def tb_X0_takes : List ce_Op := [o_aload 0, o_iload 1, o_iload 2, o_iload 3, o_iload 4, o_iload 5, o_ci 6 F_X3_takes 0 0 0 0, o_ifne 14, o_iload 1, o_iload 4, o_cmplt 16, o_iload 2, o_int 3, o_cmple 16, o_int 1, o_goto 17, o_int 0, o_zret]
theorem tl_X0_takes : ce_TL tb_X0_takes := by
  unfold tb_X0_takes
  refine tl_c ta_aload ?_
  refine tl_c ta_iload ?_
  refine tl_c ta_iload ?_
  refine tl_c ta_iload ?_
  refine tl_c ta_iload ?_
  refine tl_c ta_iload ?_
  refine tl_c ta_ci ?_
  refine tl_c ta_ifne ?_
  refine tl_c ta_iload ?_
  refine tl_c ta_iload ?_
  refine tl_c ta_cmplt ?_
  refine tl_c ta_iload ?_
  refine tl_c ta_int ?_
  refine tl_c ta_cmple ?_
  refine tl_c ta_int ?_
  refine tl_c ta_goto ?_
  refine tl_c ta_int ?_
  refine tl_c ta_zret ?_
  exact trivial
set_option maxRecDepth 20000 in
theorem ok_X0_takes (l : Launch) : ce_OkL l cX0_takes RX0 6 (some .boolean) 2 0 0 pc_X0_takes 0 tb_X0_takes := by
  unfold tb_X0_takes
  refine ok_c (j := 1) rfl (ok_aload_n (j := ⟨0, by decide⟩) (pc := 0) rfl rfl (by decide +kernel)) ?_
  refine ok_c (j := 2) rfl (ok_iload_n (j := ⟨1, by decide⟩) (pc := 1) rfl rfl (by decide +kernel)) ?_
  refine ok_c (j := 3) rfl (ok_iload_n (j := ⟨2, by decide⟩) (pc := 2) rfl rfl (by decide +kernel)) ?_
  refine ok_c (j := 4) rfl (ok_iload_n (j := ⟨3, by decide⟩) (pc := 3) rfl rfl (by decide +kernel)) ?_
  refine ok_c (j := 5) rfl (ok_iload (j := 4) (pc := 4) rfl rfl (by decide +kernel)) ?_
  refine ok_c (j := 6) rfl (ok_iload (j := 5) (pc := 6) rfl rfl (by decide +kernel)) ?_
  refine ok_c (j := 7) rfl (ok_super (x := ⟨RX2, "takes", "(IIIII)Z"⟩) (y := yX3_takes) (n := 5) (d' := 1) (ix := 11) is_ci (pc := 8) rfl rfl (by decide +kernel) (by decide) (ct_X3_takes l) ce_fI_rec rfl (by decide +kernel) wd_626 wd_627 wd_167 wd_620 wd_59 (Or.inr ⟨_, wd_146⟩)) ?_
  refine ok_c (j := 8) rfl (ok_ifne (off := 14) (tg := 25) (pc := 11) rfl rfl (by decide +kernel) rfl (by decide)) ?_
  refine ok_c (j := 9) rfl (ok_iload_n (j := ⟨1, by decide⟩) (pc := 14) rfl rfl (by decide +kernel)) ?_
  refine ok_c (j := 10) rfl (ok_iload (j := 4) (pc := 15) rfl rfl (by decide +kernel)) ?_
  refine ok_c (j := 11) rfl (ok_cmplt (off := 12) (tg := 29) (pc := 17) rfl rfl (by decide +kernel) rfl (by decide)) ?_
  refine ok_c (j := 12) rfl (ok_iload_n (j := ⟨2, by decide⟩) (pc := 20) rfl rfl (by decide +kernel)) ?_
  refine ok_c (j := 13) rfl (ok_iconst (n := 3) (pc := 21) rfl rfl (by decide +kernel) (by decide)) ?_
  refine ok_c (j := 14) rfl (ok_cmple (off := 7) (tg := 29) (pc := 22) rfl rfl (by decide +kernel) rfl (by decide)) ?_
  refine ok_c (j := 15) rfl (ok_iconst (n := 1) (pc := 25) rfl rfl (by decide +kernel) (by decide)) ?_
  refine ok_c (j := 16) rfl (ok_goto (off := 4) (tg := 30) (pc := 26) rfl (by decide +kernel) rfl (by decide)) ?_
  refine ok_c (j := 17) rfl (ok_iconst (n := 0) (pc := 29) rfl rfl (by decide +kernel) (by decide)) ?_
  refine ok_c (j := 18) rfl (ok_zret (pc := 30) rfl (by decide +kernel) rfl) ?_
  exact trivial
noncomputable def F_X0_takes := ce_fI tb_X0_takes 6 (some 10)
theorem ct_X0_takes (l : Launch) : ce_callee l yX0_takes 5 2 0 0 (ce_wI F_X0_takes) := ⟨_, _, _, ce_ctr_of (pcs := pc_X0_takes) (by decide +kernel) rfl (ok_X0_takes l ) ce_fI_run, ce_tw_at wd_625 rfl, by decide, by decide +kernel, by decide +kernel, by decide +kernel⟩
def pc_X2_stays : List Nat := [0, 1, 2, 5, 6, 7]
noncomputable def tb_X2_stays : List ce_Op := [o_aload 0, o_iload 1, o_ci 2 F_X3_stays 0 0 0 0, o_int 1, o_bin (fun x y => x + y), o_iret]
theorem tl_X2_stays : ce_TL tb_X2_stays := by
  unfold tb_X2_stays
  refine tl_c ta_aload ?_
  refine tl_c ta_iload ?_
  refine tl_c ta_ci ?_
  refine tl_c ta_int ?_
  refine tl_c ta_bin ?_
  refine tl_c ta_iret ?_
  exact trivial
set_option maxRecDepth 20000 in
theorem ok_X2_stays (l : Launch) : ce_OkL l cX2_stays RX2 2 (some .int) 2 0 0 pc_X2_stays 0 tb_X2_stays := by
  unfold tb_X2_stays
  refine ok_c (j := 1) rfl (ok_aload_n (j := ⟨0, by decide⟩) (pc := 0) rfl rfl (by decide +kernel)) ?_
  refine ok_c (j := 2) rfl (ok_iload_n (j := ⟨1, by decide⟩) (pc := 1) rfl rfl (by decide +kernel)) ?_
  refine ok_c (j := 3) rfl (ok_super (x := ⟨RX3, "stays", "(I)I"⟩) (y := yX3_stays) (n := 1) (d' := 1) (ix := 11) is_ci (pc := 2) rfl rfl (by decide +kernel) (by decide) (ct_X3_stays l) ce_fI_rec rfl (by decide +kernel) wd_549 wd_545 wd_146 wd_543 wd_59 (Or.inl rfl)) ?_
  refine ok_c (j := 4) rfl (ok_iconst (n := 1) (pc := 5) rfl rfl (by decide +kernel) (by decide)) ?_
  refine ok_c (j := 5) rfl (ok_iadd (pc := 6) rfl rfl (by decide +kernel)) ?_
  refine ok_c (j := 6) rfl (ok_iret (pc := 7) rfl (by decide +kernel) rfl) ?_
  exact trivial
noncomputable def F_X2_stays := ce_fI tb_X2_stays 2 (some 10)
theorem ct_X2_stays (l : Launch) : ce_callee l yX2_stays 1 2 0 0 (ce_wI F_X2_stays) := ⟨_, _, _, ce_ctr_of (pcs := pc_X2_stays) (by decide +kernel) rfl (ok_X2_stays l ) ce_fI_run, ce_tw_at wd_548 rfl, by decide, by decide +kernel, by decide +kernel, by decide +kernel⟩
def pc_X8_stays : List Nat := [0, 1, 2, 5, 6, 7]
noncomputable def tb_X8_stays : List ce_Op := [o_aload 0, o_iload 1, o_ci 2 F_X3_stays 0 0 0 0, o_int 2, o_div, o_iret]
theorem tl_X8_stays : ce_TL tb_X8_stays := by
  unfold tb_X8_stays
  refine tl_c ta_aload ?_
  refine tl_c ta_iload ?_
  refine tl_c ta_ci ?_
  refine tl_c ta_int ?_
  refine tl_c ta_div ?_
  refine tl_c ta_iret ?_
  exact trivial
set_option maxRecDepth 20000 in
theorem ok_X8_stays (l : Launch) : ce_OkL l cX8_stays RX8 2 (some .int) 2 0 0 pc_X8_stays 0 tb_X8_stays := by
  unfold tb_X8_stays
  refine ok_c (j := 1) rfl (ok_aload_n (j := ⟨0, by decide⟩) (pc := 0) rfl rfl (by decide +kernel)) ?_
  refine ok_c (j := 2) rfl (ok_iload_n (j := ⟨1, by decide⟩) (pc := 1) rfl rfl (by decide +kernel)) ?_
  refine ok_c (j := 3) rfl (ok_super (x := ⟨RX3, "stays", "(I)I"⟩) (y := yX3_stays) (n := 1) (d' := 1) (ix := 17) is_ci (pc := 2) rfl rfl (by decide +kernel) (by decide) (ct_X3_stays l) ce_fI_rec rfl (by decide +kernel) wd_561 wd_545 wd_153 wd_543 wd_59 (Or.inl rfl)) ?_
  refine ok_c (j := 4) rfl (ok_iconst (n := 2) (pc := 5) rfl rfl (by decide +kernel) (by decide)) ?_
  refine ok_c (j := 5) rfl (ok_idiv (pc := 6) rfl rfl (by decide +kernel)) ?_
  refine ok_c (j := 6) rfl (ok_iret (pc := 7) rfl (by decide +kernel) rfl) ?_
  exact trivial
noncomputable def F_X8_stays := ce_fI tb_X8_stays 2 (some 10)
theorem ct_X8_stays (l : Launch) : ce_callee l yX8_stays 1 2 0 0 (ce_wI F_X8_stays) := ⟨_, _, _, ce_ctr_of (pcs := pc_X8_stays) (by decide +kernel) rfl (ok_X8_stays l ) ce_fI_run, ce_tw_at wd_560 rfl, by decide, by decide +kernel, by decide +kernel, by decide +kernel⟩
def pc_X0_steps : List Nat := [0, 1, 2, 3, 4, 6, 8, 11, 12, 13, 16, 18, 20, 21, 24, 25, 26]
noncomputable def tb_X0_steps : List ce_Op := [o_aload 0, o_iload 1, o_iload 2, o_iload 3, o_iload 4, o_iload 5, o_ci 6 F_X2_steps 0 0 0 0, o_iload 3, o_int 3, o_cmpne 14, o_int 10, o_iload 4, o_bin (fun x y => x * y), o_goto 15, o_int 0, o_bin (fun x y => x + y), o_iret]
theorem tl_X0_steps : ce_TL tb_X0_steps := by
  unfold tb_X0_steps
  refine tl_c ta_aload ?_
  refine tl_c ta_iload ?_
  refine tl_c ta_iload ?_
  refine tl_c ta_iload ?_
  refine tl_c ta_iload ?_
  refine tl_c ta_iload ?_
  refine tl_c ta_ci ?_
  refine tl_c ta_iload ?_
  refine tl_c ta_int ?_
  refine tl_c ta_cmpne ?_
  refine tl_c ta_int ?_
  refine tl_c ta_iload ?_
  refine tl_c ta_bin ?_
  refine tl_c ta_goto ?_
  refine tl_c ta_int ?_
  refine tl_c ta_bin ?_
  refine tl_c ta_iret ?_
  exact trivial
set_option maxRecDepth 20000 in
theorem ok_X0_steps (l : Launch) : ce_OkL l cX0_steps RX0 6 (some .int) 3 0 0 pc_X0_steps 0 tb_X0_steps := by
  unfold tb_X0_steps
  refine ok_c (j := 1) rfl (ok_aload_n (j := ⟨0, by decide⟩) (pc := 0) rfl rfl (by decide +kernel)) ?_
  refine ok_c (j := 2) rfl (ok_iload_n (j := ⟨1, by decide⟩) (pc := 1) rfl rfl (by decide +kernel)) ?_
  refine ok_c (j := 3) rfl (ok_iload_n (j := ⟨2, by decide⟩) (pc := 2) rfl rfl (by decide +kernel)) ?_
  refine ok_c (j := 4) rfl (ok_iload_n (j := ⟨3, by decide⟩) (pc := 3) rfl rfl (by decide +kernel)) ?_
  refine ok_c (j := 5) rfl (ok_iload (j := 4) (pc := 4) rfl rfl (by decide +kernel)) ?_
  refine ok_c (j := 6) rfl (ok_iload (j := 5) (pc := 6) rfl rfl (by decide +kernel)) ?_
  refine ok_c (j := 7) rfl (ok_super (x := ⟨RX2, "steps", "(IIIII)I"⟩) (y := yX2_steps) (n := 5) (d' := 2) (ix := 7) is_ci (pc := 8) rfl rfl (by decide +kernel) (by decide) (ct_X2_steps l) ce_fI_rec rfl (by decide +kernel) wd_595 wd_1233 wd_167 wd_596 wd_60 (Or.inl rfl)) ?_
  refine ok_c (j := 8) rfl (ok_iload_n (j := ⟨3, by decide⟩) (pc := 11) rfl rfl (by decide +kernel)) ?_
  refine ok_c (j := 9) rfl (ok_iconst (n := 3) (pc := 12) rfl rfl (by decide +kernel) (by decide)) ?_
  refine ok_c (j := 10) rfl (ok_cmpne (off := 11) (tg := 24) (pc := 13) rfl rfl (by decide +kernel) rfl (by decide)) ?_
  refine ok_c (j := 11) rfl (ok_bipush (n := 10) (pc := 16) rfl rfl (by decide +kernel) (by decide)) ?_
  refine ok_c (j := 12) rfl (ok_iload (j := 4) (pc := 18) rfl rfl (by decide +kernel)) ?_
  refine ok_c (j := 13) rfl (ok_imul (pc := 20) rfl rfl (by decide +kernel)) ?_
  refine ok_c (j := 14) rfl (ok_goto (off := 4) (tg := 25) (pc := 21) rfl (by decide +kernel) rfl (by decide)) ?_
  refine ok_c (j := 15) rfl (ok_iconst (n := 0) (pc := 24) rfl rfl (by decide +kernel) (by decide)) ?_
  refine ok_c (j := 16) rfl (ok_iadd (pc := 25) rfl rfl (by decide +kernel)) ?_
  refine ok_c (j := 17) rfl (ok_iret (pc := 26) rfl (by decide +kernel) rfl) ?_
  exact trivial
noncomputable def F_X0_steps := ce_fI tb_X0_steps 6 (some 10)
theorem ct_X0_steps (l : Launch) : ce_callee l yX0_steps 5 3 0 0 (ce_wI F_X0_steps) := ⟨_, _, _, ce_ctr_of (pcs := pc_X0_steps) (by decide +kernel) rfl (ok_X0_steps l ) ce_fI_run, ce_tw_at wd_594 rfl, by decide, by decide +kernel, by decide +kernel, by decide +kernel⟩
def pc_X1_steps : List Nat := [0, 1, 2, 3, 4, 6, 8, 11, 13, 14]
noncomputable def tb_X1_steps : List ce_Op := [o_aload 0, o_iload 1, o_iload 2, o_iload 3, o_iload 4, o_iload 5, o_ci 6 F_X2_steps 0 0 0 0, o_iload 5, o_bin (fun x y => x + y), o_iret]
theorem tl_X1_steps : ce_TL tb_X1_steps := by
  unfold tb_X1_steps
  refine tl_c ta_aload ?_
  refine tl_c ta_iload ?_
  refine tl_c ta_iload ?_
  refine tl_c ta_iload ?_
  refine tl_c ta_iload ?_
  refine tl_c ta_iload ?_
  refine tl_c ta_ci ?_
  refine tl_c ta_iload ?_
  refine tl_c ta_bin ?_
  refine tl_c ta_iret ?_
  exact trivial
set_option maxRecDepth 20000 in
theorem ok_X1_steps (l : Launch) : ce_OkL l cX1_steps RX1 6 (some .int) 3 0 0 pc_X1_steps 0 tb_X1_steps := by
  unfold tb_X1_steps
  refine ok_c (j := 1) rfl (ok_aload_n (j := ⟨0, by decide⟩) (pc := 0) rfl rfl (by decide +kernel)) ?_
  refine ok_c (j := 2) rfl (ok_iload_n (j := ⟨1, by decide⟩) (pc := 1) rfl rfl (by decide +kernel)) ?_
  refine ok_c (j := 3) rfl (ok_iload_n (j := ⟨2, by decide⟩) (pc := 2) rfl rfl (by decide +kernel)) ?_
  refine ok_c (j := 4) rfl (ok_iload_n (j := ⟨3, by decide⟩) (pc := 3) rfl rfl (by decide +kernel)) ?_
  refine ok_c (j := 5) rfl (ok_iload (j := 4) (pc := 4) rfl rfl (by decide +kernel)) ?_
  refine ok_c (j := 6) rfl (ok_iload (j := 5) (pc := 6) rfl rfl (by decide +kernel)) ?_
  refine ok_c (j := 7) rfl (ok_super (x := ⟨RX2, "steps", "(IIIII)I"⟩) (y := yX2_steps) (n := 5) (d' := 2) (ix := 7) is_ci (pc := 8) rfl rfl (by decide +kernel) (by decide) (ct_X2_steps l) ce_fI_rec rfl (by decide +kernel) wd_602 wd_1233 wd_174 wd_596 wd_60 (Or.inl rfl)) ?_
  refine ok_c (j := 8) rfl (ok_iload (j := 5) (pc := 11) rfl rfl (by decide +kernel)) ?_
  refine ok_c (j := 9) rfl (ok_iadd (pc := 13) rfl rfl (by decide +kernel)) ?_
  refine ok_c (j := 10) rfl (ok_iret (pc := 14) rfl (by decide +kernel) rfl) ?_
  exact trivial
noncomputable def F_X1_steps := ce_fI tb_X1_steps 6 (some 10)
theorem ct_X1_steps (l : Launch) : ce_callee l yX1_steps 5 3 0 0 (ce_wI F_X1_steps) := ⟨_, _, _, ce_ctr_of (pcs := pc_X1_steps) (by decide +kernel) rfl (ok_X1_steps l ) ce_fI_run, ce_tw_at wd_601 rfl, by decide, by decide +kernel, by decide +kernel, by decide +kernel⟩
def pc_X7_stays : List Nat := [0, 1, 2, 5, 6, 7]
noncomputable def tb_X7_stays : List ce_Op := [o_aload 0, o_iload 1, o_ci 2 F_X8_stays 0 0 0 0, o_int 1, o_bin (fun x y => x + y), o_iret]
theorem tl_X7_stays : ce_TL tb_X7_stays := by
  unfold tb_X7_stays
  refine tl_c ta_aload ?_
  refine tl_c ta_iload ?_
  refine tl_c ta_ci ?_
  refine tl_c ta_int ?_
  refine tl_c ta_bin ?_
  refine tl_c ta_iret ?_
  exact trivial
set_option maxRecDepth 20000 in
theorem ok_X7_stays (l : Launch) : ce_OkL l cX7_stays RX7 2 (some .int) 3 0 0 pc_X7_stays 0 tb_X7_stays := by
  unfold tb_X7_stays
  refine ok_c (j := 1) rfl (ok_aload_n (j := ⟨0, by decide⟩) (pc := 0) rfl rfl (by decide +kernel)) ?_
  refine ok_c (j := 2) rfl (ok_iload_n (j := ⟨1, by decide⟩) (pc := 1) rfl rfl (by decide +kernel)) ?_
  refine ok_c (j := 3) rfl (ok_super (x := ⟨RX8, "stays", "(I)I"⟩) (y := yX8_stays) (n := 1) (d' := 2) (ix := 7) is_ci (pc := 2) rfl rfl (by decide +kernel) (by decide) (ct_X8_stays l) ce_fI_rec rfl (by decide +kernel) wd_558 wd_1232 wd_160 wd_559 wd_61 (Or.inl rfl)) ?_
  refine ok_c (j := 4) rfl (ok_iconst (n := 1) (pc := 5) rfl rfl (by decide +kernel) (by decide)) ?_
  refine ok_c (j := 5) rfl (ok_iadd (pc := 6) rfl rfl (by decide +kernel)) ?_
  refine ok_c (j := 6) rfl (ok_iret (pc := 7) rfl (by decide +kernel) rfl) ?_
  exact trivial
noncomputable def F_X7_stays := ce_fI tb_X7_stays 2 (some 10)
theorem ct_X7_stays (l : Launch) : ce_callee l yX7_stays 1 3 0 0 (ce_wI F_X7_stays) := ⟨_, _, _, ce_ctr_of (pcs := pc_X7_stays) (by decide +kernel) rfl (ok_X7_stays l ) ce_fI_run, ce_tw_at wd_557 rfl, by decide, by decide +kernel, by decide +kernel, by decide +kernel⟩
def pc_X1_stays : List Nat := [0, 1, 2, 3, 6, 7]
noncomputable def tb_X1_stays : List ce_Op := [o_int 2, o_aload 0, o_iload 1, o_ci 2 F_X2_stays 0 0 0 0, o_bin (fun x y => x * y), o_iret]
theorem tl_X1_stays : ce_TL tb_X1_stays := by
  unfold tb_X1_stays
  refine tl_c ta_int ?_
  refine tl_c ta_aload ?_
  refine tl_c ta_iload ?_
  refine tl_c ta_ci ?_
  refine tl_c ta_bin ?_
  refine tl_c ta_iret ?_
  exact trivial
set_option maxRecDepth 20000 in
theorem ok_X1_stays (l : Launch) : ce_OkL l cX1_stays RX1 2 (some .int) 3 0 0 pc_X1_stays 0 tb_X1_stays := by
  unfold tb_X1_stays
  refine ok_c (j := 1) rfl (ok_iconst (n := 2) (pc := 0) rfl rfl (by decide +kernel) (by decide)) ?_
  refine ok_c (j := 2) rfl (ok_aload_n (j := ⟨0, by decide⟩) (pc := 1) rfl rfl (by decide +kernel)) ?_
  refine ok_c (j := 3) rfl (ok_iload_n (j := ⟨1, by decide⟩) (pc := 2) rfl rfl (by decide +kernel)) ?_
  refine ok_c (j := 4) rfl (ok_super (x := ⟨RX2, "stays", "(I)I"⟩) (y := yX2_stays) (n := 1) (d' := 2) (ix := 11) is_ci (pc := 3) rfl rfl (by decide +kernel) (by decide) (ct_X2_stays l) ce_fI_rec rfl (by decide +kernel) wd_553 wd_1231 wd_174 wd_547 wd_60 (Or.inl rfl)) ?_
  refine ok_c (j := 5) rfl (ok_imul (pc := 6) rfl rfl (by decide +kernel)) ?_
  refine ok_c (j := 6) rfl (ok_iret (pc := 7) rfl (by decide +kernel) rfl) ?_
  exact trivial
noncomputable def F_X1_stays := ce_fI tb_X1_stays 2 (some 10)
theorem ct_X1_stays (l : Launch) : ce_callee l yX1_stays 1 3 0 0 (ce_wI F_X1_stays) := ⟨_, _, _, ce_ctr_of (pcs := pc_X1_stays) (by decide +kernel) rfl (ok_X1_stays l ) ce_fI_run, ce_tw_at wd_552 rfl, by decide, by decide +kernel, by decide +kernel, by decide +kernel⟩
