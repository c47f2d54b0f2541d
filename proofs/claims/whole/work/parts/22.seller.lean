def pc_X4_least : List Nat := [0, 1, 4, 5, 6, 9, 12, 13, 14, 15, 18, 19, 22, 25]
noncomputable def tb_X4_least : List ce_Op := [o_aload 0, o_getM 12 4 13, o_int 0, o_aload 0, o_getM 12 4 13, o_getI 13 1, o_aload 1, o_aload 0, o_iload 2, o_ci 6 F_X10_value 0 0 0 0, o_int 0, o_int 1999, o_ci 3 F_X11_within 0 0 0 0, o_iret]
theorem tl_X4_least : ce_TL tb_X4_least := by
  unfold tb_X4_least
  refine tl_c ta_aload ?_
  refine tl_c ta_getM ?_
  refine tl_c ta_int ?_
  refine tl_c ta_aload ?_
  refine tl_c ta_getM ?_
  refine tl_c ta_getI ?_
  refine tl_c ta_aload ?_
  refine tl_c ta_aload ?_
  refine tl_c ta_iload ?_
  refine tl_c ta_ci ?_
  refine tl_c ta_int ?_
  refine tl_c ta_int ?_
  refine tl_c ta_ci ?_
  refine tl_c ta_iret ?_
  exact trivial
set_option maxRecDepth 20000 in
theorem ok_X4_least (l : Launch) : ce_OkL l cX4_least RX4 3 (some .int) 3 0 0 pc_X4_least 0 tb_X4_least := by
  unfold tb_X4_least
  refine ok_c (j := 1) rfl (ok_aload_n (j := ⟨0, by decide⟩) (pc := 0) rfl rfl (by decide +kernel)) ?_
  refine ok_c (j := 2) rfl (ok_getM (ci := 4) (C := RX4) (T := TX4) (N := 5) (ix := 24) (pc := 1) rfl rfl (by decide +kernel) rfl (fun _ => rfl) rfl cw_X4 (by decide) rfl wd_430) ?_
  refine ok_c (j := 3) rfl (ok_iconst (n := 0) (pc := 4) rfl rfl (by decide +kernel) (by decide)) ?_
  refine ok_c (j := 4) rfl (ok_aload_n (j := ⟨0, by decide⟩) (pc := 5) rfl rfl (by decide +kernel)) ?_
  refine ok_c (j := 5) rfl (ok_getM (ci := 4) (C := RX4) (T := TX4) (N := 5) (ix := 24) (pc := 6) rfl rfl (by decide +kernel) rfl (fun _ => rfl) rfl cw_X4 (by decide) rfl wd_430) ?_
  refine ok_c (j := 6) rfl (ok_getI (ci := 10) (C := RX10) (T := TX10) (N := 4) (ix := 28) (pc := 9) rfl rfl (by decide +kernel) rfl (fun _ => rfl) rfl cw_X10 (by decide) rfl wd_398) ?_
  refine ok_c (j := 7) rfl (ok_aload_n (j := ⟨1, by decide⟩) (pc := 12) rfl rfl (by decide +kernel)) ?_
  refine ok_c (j := 8) rfl (ok_aload_n (j := ⟨0, by decide⟩) (pc := 13) rfl rfl (by decide +kernel)) ?_
  refine ok_c (j := 9) rfl (ok_iload_n (j := ⟨2, by decide⟩) (pc := 14) rfl rfl (by decide +kernel)) ?_
  refine ok_c (j := 10) rfl (ok_virtual (y := yX10_value) (n := 5) (d' := 2) (t := 13) (T := TX10) (N := 4) (ix := 33) is_ci (pc := 15) rfl rfl (by decide +kernel) (by decide) (ct_X10_value l) rfl (fun _ => rfl) ce_fI_rec wd_502 wd_503 wd_504 wd_71) ?_
  refine ok_c (j := 11) rfl (ok_iconst (n := 0) (pc := 18) rfl rfl (by decide +kernel) (by decide)) ?_
  refine ok_c (j := 12) rfl (ok_sipush (n := 1999) (pc := 19) rfl rfl (by decide +kernel) (by decide)) ?_
  refine ok_c (j := 13) rfl (ok_nest (y := yX11_within) (host := RX11) (n := 3) (d' := 2) (ix := 37) is_ci (pc := 22) rfl rfl (by decide +kernel) (by decide) (ct_X11_within l) (fun _ _ _ h => h.2.1.2.1) wd_384 wd_57) ?_
  refine ok_c (j := 14) rfl (ok_iret (pc := 25) rfl (by decide +kernel) rfl) ?_
  exact trivial
noncomputable def F_X4_least := ce_fI tb_X4_least 3 (some 12)
theorem ct_X4_least (l : Launch) : ce_callee l yX4_least 2 3 0 0 (ce_wI F_X4_least) := ⟨_, _, _, ce_ctr_of (pcs := pc_X4_least) (by decide +kernel) rfl (ok_X4_least l ) ce_fI_run, ce_tw_at wd_516 rfl, by decide, by decide +kernel, by decide +kernel, by decide +kernel⟩
def pc_X4_first : List Nat := [0, 1, 4, 5, 8, 11, 12, 15, 18, 19, 20, 21, 24, 25, 26, 27, 28, 29, 32, 35, 38]
noncomputable def tb_X4_first : List ce_Op := [o_aload 0, o_getM 12 4 13, o_aload 0, o_getM 12 4 13, o_getI 13 1, o_aload 0, o_getM 12 4 13, o_getI 13 2, o_aload 1, o_aload 0, o_int 0, o_ci 6 F_X10_value 0 0 0 0, o_istore 2, o_iload 2, o_aload 0, o_aload 1, o_int 0, o_ci 3 F_X4_least 0 0 0 0, o_int 1999, o_ci 3 F_X11_within 0 0 0 0, o_iret]
theorem tl_X4_first : ce_TL tb_X4_first := by
  unfold tb_X4_first
  refine tl_c ta_aload ?_
  refine tl_c ta_getM ?_
  refine tl_c ta_aload ?_
  refine tl_c ta_getM ?_
  refine tl_c ta_getI ?_
  refine tl_c ta_aload ?_
  refine tl_c ta_getM ?_
  refine tl_c ta_getI ?_
  refine tl_c ta_aload ?_
  refine tl_c ta_aload ?_
  refine tl_c ta_int ?_
  refine tl_c ta_ci ?_
  refine tl_c ta_istore ?_
  refine tl_c ta_iload ?_
  refine tl_c ta_aload ?_
  refine tl_c ta_aload ?_
  refine tl_c ta_int ?_
  refine tl_c ta_ci ?_
  refine tl_c ta_int ?_
  refine tl_c ta_ci ?_
  refine tl_c ta_iret ?_
  exact trivial
set_option maxRecDepth 20000 in
theorem ok_X4_first (l : Launch) : ce_OkL l cX4_first RX4 3 (some .int) 4 0 0 pc_X4_first 0 tb_X4_first := by
  unfold tb_X4_first
  refine ok_c (j := 1) rfl (ok_aload_n (j := ⟨0, by decide⟩) (pc := 0) rfl rfl (by decide +kernel)) ?_
  refine ok_c (j := 2) rfl (ok_getM (ci := 4) (C := RX4) (T := TX4) (N := 5) (ix := 24) (pc := 1) rfl rfl (by decide +kernel) rfl (fun _ => rfl) rfl cw_X4 (by decide) rfl wd_430) ?_
  refine ok_c (j := 3) rfl (ok_aload_n (j := ⟨0, by decide⟩) (pc := 4) rfl rfl (by decide +kernel)) ?_
  refine ok_c (j := 4) rfl (ok_getM (ci := 4) (C := RX4) (T := TX4) (N := 5) (ix := 24) (pc := 5) rfl rfl (by decide +kernel) rfl (fun _ => rfl) rfl cw_X4 (by decide) rfl wd_430) ?_
  refine ok_c (j := 5) rfl (ok_getI (ci := 10) (C := RX10) (T := TX10) (N := 4) (ix := 28) (pc := 8) rfl rfl (by decide +kernel) rfl (fun _ => rfl) rfl cw_X10 (by decide) rfl wd_398) ?_
  refine ok_c (j := 6) rfl (ok_aload_n (j := ⟨0, by decide⟩) (pc := 11) rfl rfl (by decide +kernel)) ?_
  refine ok_c (j := 7) rfl (ok_getM (ci := 4) (C := RX4) (T := TX4) (N := 5) (ix := 24) (pc := 12) rfl rfl (by decide +kernel) rfl (fun _ => rfl) rfl cw_X4 (by decide) rfl wd_430) ?_
  refine ok_c (j := 8) rfl (ok_getI (ci := 10) (C := RX10) (T := TX10) (N := 4) (ix := 41) (pc := 15) rfl rfl (by decide +kernel) rfl (fun _ => rfl) rfl cw_X10 (by decide) rfl wd_400) ?_
  refine ok_c (j := 9) rfl (ok_aload_n (j := ⟨1, by decide⟩) (pc := 18) rfl rfl (by decide +kernel)) ?_
  refine ok_c (j := 10) rfl (ok_aload_n (j := ⟨0, by decide⟩) (pc := 19) rfl rfl (by decide +kernel)) ?_
  refine ok_c (j := 11) rfl (ok_iconst (n := 0) (pc := 20) rfl rfl (by decide +kernel) (by decide)) ?_
  refine ok_c (j := 12) rfl (ok_virtual (y := yX10_value) (n := 5) (d' := 2) (t := 13) (T := TX10) (N := 4) (ix := 33) is_ci (pc := 21) rfl rfl (by decide +kernel) (by decide) (ct_X10_value l) rfl (fun _ => rfl) ce_fI_rec wd_502 wd_503 wd_504 wd_71) ?_
  refine ok_c (j := 13) rfl (ok_istore_n (j := ⟨2, by decide⟩) (pc := 24) rfl rfl (by decide +kernel) (by decide)) ?_
  refine ok_c (j := 14) rfl (ok_iload_n (j := ⟨2, by decide⟩) (pc := 25) rfl rfl (by decide +kernel)) ?_
  refine ok_c (j := 15) rfl (ok_aload_n (j := ⟨0, by decide⟩) (pc := 26) rfl rfl (by decide +kernel)) ?_
  refine ok_c (j := 16) rfl (ok_aload_n (j := ⟨1, by decide⟩) (pc := 27) rfl rfl (by decide +kernel)) ?_
  refine ok_c (j := 17) rfl (ok_iconst (n := 0) (pc := 28) rfl rfl (by decide +kernel) (by decide)) ?_
  refine ok_c (j := 18) rfl (ok_virtual (y := yX4_least) (n := 2) (d' := 3) (t := 12) (T := TX4) (N := 5) (ix := 44) is_ci (pc := 29) rfl rfl (by decide +kernel) (by decide) (ct_X4_least l) rfl (fun _ => rfl) ce_fI_rec wd_513 wd_514 wd_515 wd_74) ?_
  refine ok_c (j := 19) rfl (ok_sipush (n := 1999) (pc := 32) rfl rfl (by decide +kernel) (by decide)) ?_
  refine ok_c (j := 20) rfl (ok_nest (y := yX11_within) (host := RX11) (n := 3) (d' := 2) (ix := 37) is_ci (pc := 35) rfl rfl (by decide +kernel) (by decide) (ct_X11_within l) (fun _ _ _ h => h.2.1.2.1) wd_384 wd_57) ?_
  refine ok_c (j := 21) rfl (ok_iret (pc := 38) rfl (by decide +kernel) rfl) ?_
  exact trivial
noncomputable def F_X4_first := ce_fI tb_X4_first 3 (some 12)
theorem ct_X4_first (l : Launch) : ce_callee l yX4_first 1 4 0 0 (ce_wI F_X4_first) := ⟨_, _, _, ce_ctr_of (pcs := pc_X4_first) (by decide +kernel) rfl (ok_X4_first l ) ce_fI_run, ce_tw_at wd_501 rfl, by decide, by decide +kernel, by decide +kernel, by decide +kernel⟩
def pc_X4_pull : List Nat := [0, 1, 4, 5, 8, 11, 12, 15, 18, 19, 20, 21, 22, 25, 26, 27, 28, 30, 33]
noncomputable def tb_X4_pull : List ce_Op := [o_aload 0, o_getM 12 4 13, o_aload 0, o_getM 12 4 13, o_getI 13 2, o_aload 0, o_getM 12 4 13, o_getS 13 14 (ce_k0), o_alen 14, o_aload 1, o_aload 0, o_iload 2, o_ci 6 F_X10_value 0 0 0 0, o_istore 3, o_iload 3, o_int 0, o_int 99, o_ci 3 F_X11_within 0 0 0 0, o_iret]
theorem tl_X4_pull : ce_TL tb_X4_pull := by
  unfold tb_X4_pull
  refine tl_c ta_aload ?_
  refine tl_c ta_getM ?_
  refine tl_c ta_aload ?_
  refine tl_c ta_getM ?_
  refine tl_c ta_getI ?_
  refine tl_c ta_aload ?_
  refine tl_c ta_getM ?_
  refine tl_c ta_getS ?_
  refine tl_c ta_alen ?_
  refine tl_c ta_aload ?_
  refine tl_c ta_aload ?_
  refine tl_c ta_iload ?_
  refine tl_c ta_ci ?_
  refine tl_c ta_istore ?_
  refine tl_c ta_iload ?_
  refine tl_c ta_int ?_
  refine tl_c ta_int ?_
  refine tl_c ta_ci ?_
  refine tl_c ta_iret ?_
  exact trivial
set_option maxRecDepth 20000 in
theorem ok_X4_pull (l : Launch) : ce_OkL l cX4_pull RX4 4 (some .int) 3 0 0 pc_X4_pull 0 tb_X4_pull := by
  unfold tb_X4_pull
  refine ok_c (j := 1) rfl (ok_aload_n (j := ⟨0, by decide⟩) (pc := 0) rfl rfl (by decide +kernel)) ?_
  refine ok_c (j := 2) rfl (ok_getM (ci := 4) (C := RX4) (T := TX4) (N := 5) (ix := 24) (pc := 1) rfl rfl (by decide +kernel) rfl (fun _ => rfl) rfl cw_X4 (by decide) rfl wd_430) ?_
  refine ok_c (j := 3) rfl (ok_aload_n (j := ⟨0, by decide⟩) (pc := 4) rfl rfl (by decide +kernel)) ?_
  refine ok_c (j := 4) rfl (ok_getM (ci := 4) (C := RX4) (T := TX4) (N := 5) (ix := 24) (pc := 5) rfl rfl (by decide +kernel) rfl (fun _ => rfl) rfl cw_X4 (by decide) rfl wd_430) ?_
  refine ok_c (j := 5) rfl (ok_getI (ci := 10) (C := RX10) (T := TX10) (N := 4) (ix := 41) (pc := 8) rfl rfl (by decide +kernel) rfl (fun _ => rfl) rfl cw_X10 (by decide) rfl wd_400) ?_
  refine ok_c (j := 6) rfl (ok_aload_n (j := ⟨0, by decide⟩) (pc := 11) rfl rfl (by decide +kernel)) ?_
  refine ok_c (j := 7) rfl (ok_getM (ci := 4) (C := RX4) (T := TX4) (N := 5) (ix := 24) (pc := 12) rfl rfl (by decide +kernel) rfl (fun _ => rfl) rfl cw_X4 (by decide) rfl wd_430) ?_
  refine ok_c (j := 8) rfl (ok_getS (f := 0) (ci := 10) (C := RX10) (T := TX10) (N := 4) (ix := 48) (pc := 15) rfl rfl (by decide +kernel) rfl (fun _ => rfl) rfl cw_X10 (by decide) rfl wd_396) ?_
  refine ok_c (j := 9) rfl (ok_alen (pc := 18) rfl rfl (by decide +kernel) (by decide)) ?_
  refine ok_c (j := 10) rfl (ok_aload_n (j := ⟨1, by decide⟩) (pc := 19) rfl rfl (by decide +kernel)) ?_
  refine ok_c (j := 11) rfl (ok_aload_n (j := ⟨0, by decide⟩) (pc := 20) rfl rfl (by decide +kernel)) ?_
  refine ok_c (j := 12) rfl (ok_iload_n (j := ⟨2, by decide⟩) (pc := 21) rfl rfl (by decide +kernel)) ?_
  refine ok_c (j := 13) rfl (ok_virtual (y := yX10_value) (n := 5) (d' := 2) (t := 13) (T := TX10) (N := 4) (ix := 33) is_ci (pc := 22) rfl rfl (by decide +kernel) (by decide) (ct_X10_value l) rfl (fun _ => rfl) ce_fI_rec wd_502 wd_503 wd_504 wd_71) ?_
  refine ok_c (j := 14) rfl (ok_istore_n (j := ⟨3, by decide⟩) (pc := 25) rfl rfl (by decide +kernel) (by decide)) ?_
  refine ok_c (j := 15) rfl (ok_iload_n (j := ⟨3, by decide⟩) (pc := 26) rfl rfl (by decide +kernel)) ?_
  refine ok_c (j := 16) rfl (ok_iconst (n := 0) (pc := 27) rfl rfl (by decide +kernel) (by decide)) ?_
  refine ok_c (j := 17) rfl (ok_bipush (n := 99) (pc := 28) rfl rfl (by decide +kernel) (by decide)) ?_
  refine ok_c (j := 18) rfl (ok_nest (y := yX11_within) (host := RX11) (n := 3) (d' := 2) (ix := 37) is_ci (pc := 30) rfl rfl (by decide +kernel) (by decide) (ct_X11_within l) (fun _ _ _ h => h.2.1.2.1) wd_384 wd_57) ?_
  refine ok_c (j := 19) rfl (ok_iret (pc := 33) rfl (by decide +kernel) rfl) ?_
  exact trivial
noncomputable def F_X4_pull := ce_fI tb_X4_pull 4 (some 12)
theorem ct_X4_pull (l : Launch) : ce_callee l yX4_pull 2 3 0 0 (ce_wI F_X4_pull) := ⟨_, _, _, ce_ctr_of (pcs := pc_X4_pull) (by decide +kernel) rfl (ok_X4_pull l ) ce_fI_run, ce_tw_at wd_616 rfl, by decide, by decide +kernel, by decide +kernel, by decide +kernel⟩
def pc_X4_take : List Nat := [0, 1, 2, 5, 8, 9, 10, 13, 16, 17, 18, 21, 24, 25, 26, 29, 32, 33, 34, 37, 40]
noncomputable def tb_X4_take : List ce_Op := [o_aload 0, o_aload 1, o_getI 12 0, o_putI 12 0, o_aload 0, o_aload 1, o_getI 12 1, o_putI 12 1, o_aload 0, o_aload 1, o_getI 12 2, o_putI 12 2, o_aload 0, o_aload 1, o_getI 12 3, o_putI 12 3, o_aload 0, o_aload 1, o_getM 12 4 13, o_putM 12 4 13, o_vret]
theorem tl_X4_take : ce_TL tb_X4_take := by
  unfold tb_X4_take
  refine tl_c ta_aload ?_
  refine tl_c ta_aload ?_
  refine tl_c ta_getI ?_
  refine tl_c ta_putI ?_
  refine tl_c ta_aload ?_
  refine tl_c ta_aload ?_
  refine tl_c ta_getI ?_
  refine tl_c ta_putI ?_
  refine tl_c ta_aload ?_
  refine tl_c ta_aload ?_
  refine tl_c ta_getI ?_
  refine tl_c ta_putI ?_
  refine tl_c ta_aload ?_
  refine tl_c ta_aload ?_
  refine tl_c ta_getI ?_
  refine tl_c ta_putI ?_
  refine tl_c ta_aload ?_
  refine tl_c ta_aload ?_
  refine tl_c ta_getM ?_
  refine tl_c ta_putM ?_
  refine tl_c ta_vret ?_
  exact trivial
set_option maxRecDepth 20000 in
theorem ok_X4_take (l : Launch) : ce_OkL l cX4_take RX4 2 none 1 0 0 pc_X4_take 0 tb_X4_take := by
  unfold tb_X4_take
  refine ok_c (j := 1) rfl (ok_aload_n (j := ⟨0, by decide⟩) (pc := 0) rfl rfl (by decide +kernel)) ?_
  refine ok_c (j := 2) rfl (ok_aload_n (j := ⟨1, by decide⟩) (pc := 1) rfl rfl (by decide +kernel)) ?_
  refine ok_c (j := 3) rfl (ok_getI (ci := 4) (C := RX4) (T := TX4) (N := 5) (ix := 9) (pc := 2) rfl rfl (by decide +kernel) rfl (fun _ => rfl) rfl cw_X4 (by decide) rfl wd_418) ?_
  refine ok_c (j := 4) rfl (ok_putI (ci := 4) (C := RX4) (T := TX4) (N := 5) (ty := tyX4) (ix := 9) (pc := 5) rfl rfl (by decide +kernel) rfl (fun _ => rfl) rfl cw_X4 tyX4_ok nmX4 (by decide) rfl rfl rfl wd_418) ?_
  refine ok_c (j := 5) rfl (ok_aload_n (j := ⟨0, by decide⟩) (pc := 8) rfl rfl (by decide +kernel)) ?_
  refine ok_c (j := 6) rfl (ok_aload_n (j := ⟨1, by decide⟩) (pc := 9) rfl rfl (by decide +kernel)) ?_
  refine ok_c (j := 7) rfl (ok_getI (ci := 4) (C := RX4) (T := TX4) (N := 5) (ix := 15) (pc := 10) rfl rfl (by decide +kernel) rfl (fun _ => rfl) rfl cw_X4 (by decide) rfl wd_421) ?_
  refine ok_c (j := 8) rfl (ok_putI (ci := 4) (C := RX4) (T := TX4) (N := 5) (ty := tyX4) (ix := 15) (pc := 13) rfl rfl (by decide +kernel) rfl (fun _ => rfl) rfl cw_X4 tyX4_ok nmX4 (by decide) rfl rfl rfl wd_421) ?_
  refine ok_c (j := 9) rfl (ok_aload_n (j := ⟨0, by decide⟩) (pc := 16) rfl rfl (by decide +kernel)) ?_
  refine ok_c (j := 10) rfl (ok_aload_n (j := ⟨1, by decide⟩) (pc := 17) rfl rfl (by decide +kernel)) ?_
  refine ok_c (j := 11) rfl (ok_getI (ci := 4) (C := RX4) (T := TX4) (N := 5) (ix := 18) (pc := 18) rfl rfl (by decide +kernel) rfl (fun _ => rfl) rfl cw_X4 (by decide) rfl wd_425) ?_
  refine ok_c (j := 12) rfl (ok_putI (ci := 4) (C := RX4) (T := TX4) (N := 5) (ty := tyX4) (ix := 18) (pc := 21) rfl rfl (by decide +kernel) rfl (fun _ => rfl) rfl cw_X4 tyX4_ok nmX4 (by decide) rfl rfl rfl wd_425) ?_
  refine ok_c (j := 13) rfl (ok_aload_n (j := ⟨0, by decide⟩) (pc := 24) rfl rfl (by decide +kernel)) ?_
  refine ok_c (j := 14) rfl (ok_aload_n (j := ⟨1, by decide⟩) (pc := 25) rfl rfl (by decide +kernel)) ?_
  refine ok_c (j := 15) rfl (ok_getI (ci := 4) (C := RX4) (T := TX4) (N := 5) (ix := 21) (pc := 26) rfl rfl (by decide +kernel) rfl (fun _ => rfl) rfl cw_X4 (by decide) rfl wd_428) ?_
  refine ok_c (j := 16) rfl (ok_putI (ci := 4) (C := RX4) (T := TX4) (N := 5) (ty := tyX4) (ix := 21) (pc := 29) rfl rfl (by decide +kernel) rfl (fun _ => rfl) rfl cw_X4 tyX4_ok nmX4 (by decide) rfl rfl rfl wd_428) ?_
  refine ok_c (j := 17) rfl (ok_aload_n (j := ⟨0, by decide⟩) (pc := 32) rfl rfl (by decide +kernel)) ?_
  refine ok_c (j := 18) rfl (ok_aload_n (j := ⟨1, by decide⟩) (pc := 33) rfl rfl (by decide +kernel)) ?_
  refine ok_c (j := 19) rfl (ok_getM (ci := 4) (C := RX4) (T := TX4) (N := 5) (ix := 24) (pc := 34) rfl rfl (by decide +kernel) rfl (fun _ => rfl) rfl cw_X4 (by decide) rfl wd_430) ?_
  refine ok_c (j := 20) rfl (ok_putM (ci := 4) (C := RX4) (T := TX4) (N := 5) (ty := tyX4) (ix := 24) (pc := 37) rfl rfl (by decide +kernel) rfl (fun _ => rfl) rfl cw_X4 tyX4_ok nmX4 (by decide) rfl rfl rfl wd_430) ?_
  refine ok_c (j := 21) rfl (ok_vret (pc := 40) rfl (by decide +kernel) rfl) ?_
  exact trivial
noncomputable def F_X4_take := ce_fV tb_X4_take 2 (some 12)
theorem ct_X4_take (l : Launch) : ce_callee l yX4_take 1 1 0 0 (ce_wV F_X4_take) := ⟨_, _, _, ce_ctr_of (pcs := pc_X4_take) (by decide +kernel) rfl (ok_X4_take l ) ce_fV_run, ce_tw_at wd_683 rfl, by decide, by decide +kernel, by decide +kernel, by decide +kernel⟩
def pc_X5_takeTalk : List Nat := [0, 1, 2, 5, 8, 9, 10, 13, 16, 17, 18, 21, 24, 25, 26, 29, 32]
noncomputable def tb_X5_takeTalk : List ce_Op := [o_aload 0, o_aload 1, o_getI 11 4, o_putI 11 4, o_aload 0, o_aload 1, o_getI 11 5, o_putI 11 5, o_aload 0, o_aload 1, o_getI 11 6, o_putI 11 6, o_aload 0, o_aload 1, o_getI 11 7, o_putI 11 7, o_vret]
theorem tl_X5_takeTalk : ce_TL tb_X5_takeTalk := by
  unfold tb_X5_takeTalk
  refine tl_c ta_aload ?_
  refine tl_c ta_aload ?_
  refine tl_c ta_getI ?_
  refine tl_c ta_putI ?_
  refine tl_c ta_aload ?_
  refine tl_c ta_aload ?_
  refine tl_c ta_getI ?_
  refine tl_c ta_putI ?_
  refine tl_c ta_aload ?_
  refine tl_c ta_aload ?_
  refine tl_c ta_getI ?_
  refine tl_c ta_putI ?_
  refine tl_c ta_aload ?_
  refine tl_c ta_aload ?_
  refine tl_c ta_getI ?_
  refine tl_c ta_putI ?_
  refine tl_c ta_vret ?_
  exact trivial
set_option maxRecDepth 20000 in
theorem ok_X5_takeTalk (l : Launch) : ce_OkL l cX5_takeTalk RX5 2 none 1 0 0 pc_X5_takeTalk 0 tb_X5_takeTalk := by
  unfold tb_X5_takeTalk
  refine ok_c (j := 1) rfl (ok_aload_n (j := ⟨0, by decide⟩) (pc := 0) rfl rfl (by decide +kernel)) ?_
  refine ok_c (j := 2) rfl (ok_aload_n (j := ⟨1, by decide⟩) (pc := 1) rfl rfl (by decide +kernel)) ?_
  refine ok_c (j := 3) rfl (ok_getI (ci := 5) (C := RX5) (T := TX5) (N := 8) (ix := 21) (pc := 2) rfl rfl (by decide +kernel) rfl (fun _ => rfl) rfl cw_X5 (by decide) rfl wd_189) ?_
  refine ok_c (j := 4) rfl (ok_putI (ci := 5) (C := RX5) (T := TX5) (N := 8) (ty := tyX5) (ix := 21) (pc := 5) rfl rfl (by decide +kernel) rfl (fun _ => rfl) rfl cw_X5 tyX5_ok nmX5 (by decide) rfl rfl rfl wd_189) ?_
  refine ok_c (j := 5) rfl (ok_aload_n (j := ⟨0, by decide⟩) (pc := 8) rfl rfl (by decide +kernel)) ?_
  refine ok_c (j := 6) rfl (ok_aload_n (j := ⟨1, by decide⟩) (pc := 9) rfl rfl (by decide +kernel)) ?_
  refine ok_c (j := 7) rfl (ok_getI (ci := 5) (C := RX5) (T := TX5) (N := 8) (ix := 24) (pc := 10) rfl rfl (by decide +kernel) rfl (fun _ => rfl) rfl cw_X5 (by decide) rfl wd_192) ?_
  refine ok_c (j := 8) rfl (ok_putI (ci := 5) (C := RX5) (T := TX5) (N := 8) (ty := tyX5) (ix := 24) (pc := 13) rfl rfl (by decide +kernel) rfl (fun _ => rfl) rfl cw_X5 tyX5_ok nmX5 (by decide) rfl rfl rfl wd_192) ?_
  refine ok_c (j := 9) rfl (ok_aload_n (j := ⟨0, by decide⟩) (pc := 16) rfl rfl (by decide +kernel)) ?_
  refine ok_c (j := 10) rfl (ok_aload_n (j := ⟨1, by decide⟩) (pc := 17) rfl rfl (by decide +kernel)) ?_
  refine ok_c (j := 11) rfl (ok_getI (ci := 5) (C := RX5) (T := TX5) (N := 8) (ix := 27) (pc := 18) rfl rfl (by decide +kernel) rfl (fun _ => rfl) rfl cw_X5 (by decide) rfl wd_195) ?_
  refine ok_c (j := 12) rfl (ok_putI (ci := 5) (C := RX5) (T := TX5) (N := 8) (ty := tyX5) (ix := 27) (pc := 21) rfl rfl (by decide +kernel) rfl (fun _ => rfl) rfl cw_X5 tyX5_ok nmX5 (by decide) rfl rfl rfl wd_195) ?_
  refine ok_c (j := 13) rfl (ok_aload_n (j := ⟨0, by decide⟩) (pc := 24) rfl rfl (by decide +kernel)) ?_
  refine ok_c (j := 14) rfl (ok_aload_n (j := ⟨1, by decide⟩) (pc := 25) rfl rfl (by decide +kernel)) ?_
  refine ok_c (j := 15) rfl (ok_getI (ci := 5) (C := RX5) (T := TX5) (N := 8) (ix := 30) (pc := 26) rfl rfl (by decide +kernel) rfl (fun _ => rfl) rfl cw_X5 (by decide) rfl wd_197) ?_
  refine ok_c (j := 16) rfl (ok_putI (ci := 5) (C := RX5) (T := TX5) (N := 8) (ty := tyX5) (ix := 30) (pc := 29) rfl rfl (by decide +kernel) rfl (fun _ => rfl) rfl cw_X5 tyX5_ok nmX5 (by decide) rfl rfl rfl wd_197) ?_
  refine ok_c (j := 17) rfl (ok_vret (pc := 32) rfl (by decide +kernel) rfl) ?_
  exact trivial
noncomputable def F_X5_takeTalk := ce_fV tb_X5_takeTalk 2 (some 11)
theorem ct_X5_takeTalk (l : Launch) : ce_callee l yX5_takeTalk 1 1 0 0 (ce_wV F_X5_takeTalk) := ⟨_, _, _, ce_ctr_of (pcs := pc_X5_takeTalk) (by decide +kernel) rfl (ok_X5_takeTalk l ) ce_fV_run, ce_tw_at wd_666 rfl, by decide, by decide +kernel, by decide +kernel, by decide +kernel⟩
def pc_X5_take : List Nat := [0, 1, 2, 5, 8, 9, 10, 13, 16, 17, 18, 21, 24, 25, 26, 29, 32, 33, 34, 37]
noncomputable def tb_X5_take : List ce_Op := [o_aload 0, o_aload 1, o_getM 11 0 10, o_putM 11 0 10, o_aload 0, o_aload 1, o_getI 11 1, o_putI 11 1, o_aload 0, o_aload 1, o_getI 11 2, o_putI 11 2, o_aload 0, o_aload 1, o_getI 11 3, o_putI 11 3, o_aload 0, o_aload 1, o_cv 2 F_X5_takeTalk 0 0 0 0, o_vret]
theorem tl_X5_take : ce_TL tb_X5_take := by
  unfold tb_X5_take
  refine tl_c ta_aload ?_
  refine tl_c ta_aload ?_
  refine tl_c ta_getM ?_
  refine tl_c ta_putM ?_
  refine tl_c ta_aload ?_
  refine tl_c ta_aload ?_
  refine tl_c ta_getI ?_
  refine tl_c ta_putI ?_
  refine tl_c ta_aload ?_
  refine tl_c ta_aload ?_
  refine tl_c ta_getI ?_
  refine tl_c ta_putI ?_
  refine tl_c ta_aload ?_
  refine tl_c ta_aload ?_
  refine tl_c ta_getI ?_
  refine tl_c ta_putI ?_
  refine tl_c ta_aload ?_
  refine tl_c ta_aload ?_
  refine tl_c ta_cv ?_
  refine tl_c ta_vret ?_
  exact trivial
set_option maxRecDepth 20000 in
theorem ok_X5_take (l : Launch) : ce_OkL l cX5_take RX5 2 none 2 0 0 pc_X5_take 0 tb_X5_take := by
  unfold tb_X5_take
  refine ok_c (j := 1) rfl (ok_aload_n (j := ⟨0, by decide⟩) (pc := 0) rfl rfl (by decide +kernel)) ?_
  refine ok_c (j := 2) rfl (ok_aload_n (j := ⟨1, by decide⟩) (pc := 1) rfl rfl (by decide +kernel)) ?_
  refine ok_c (j := 3) rfl (ok_getM (ci := 5) (C := RX5) (T := TX5) (N := 8) (ix := 33) (pc := 2) rfl rfl (by decide +kernel) rfl (fun _ => rfl) rfl cw_X5 (by decide) rfl wd_180) ?_
  refine ok_c (j := 4) rfl (ok_putM (ci := 5) (C := RX5) (T := TX5) (N := 8) (ty := tyX5) (ix := 33) (pc := 5) rfl rfl (by decide +kernel) rfl (fun _ => rfl) rfl cw_X5 tyX5_ok nmX5 (by decide) rfl rfl rfl wd_180) ?_
  refine ok_c (j := 5) rfl (ok_aload_n (j := ⟨0, by decide⟩) (pc := 8) rfl rfl (by decide +kernel)) ?_
  refine ok_c (j := 6) rfl (ok_aload_n (j := ⟨1, by decide⟩) (pc := 9) rfl rfl (by decide +kernel)) ?_
  refine ok_c (j := 7) rfl (ok_getI (ci := 5) (C := RX5) (T := TX5) (N := 8) (ix := 9) (pc := 10) rfl rfl (by decide +kernel) rfl (fun _ => rfl) rfl cw_X5 (by decide) rfl wd_182) ?_
  refine ok_c (j := 8) rfl (ok_putI (ci := 5) (C := RX5) (T := TX5) (N := 8) (ty := tyX5) (ix := 9) (pc := 13) rfl rfl (by decide +kernel) rfl (fun _ => rfl) rfl cw_X5 tyX5_ok nmX5 (by decide) rfl rfl rfl wd_182) ?_
  refine ok_c (j := 9) rfl (ok_aload_n (j := ⟨0, by decide⟩) (pc := 16) rfl rfl (by decide +kernel)) ?_
  refine ok_c (j := 10) rfl (ok_aload_n (j := ⟨1, by decide⟩) (pc := 17) rfl rfl (by decide +kernel)) ?_
  refine ok_c (j := 11) rfl (ok_getI (ci := 5) (C := RX5) (T := TX5) (N := 8) (ix := 15) (pc := 18) rfl rfl (by decide +kernel) rfl (fun _ => rfl) rfl cw_X5 (by decide) rfl wd_184) ?_
  refine ok_c (j := 12) rfl (ok_putI (ci := 5) (C := RX5) (T := TX5) (N := 8) (ty := tyX5) (ix := 15) (pc := 21) rfl rfl (by decide +kernel) rfl (fun _ => rfl) rfl cw_X5 tyX5_ok nmX5 (by decide) rfl rfl rfl wd_184) ?_
  refine ok_c (j := 13) rfl (ok_aload_n (j := ⟨0, by decide⟩) (pc := 24) rfl rfl (by decide +kernel)) ?_
  refine ok_c (j := 14) rfl (ok_aload_n (j := ⟨1, by decide⟩) (pc := 25) rfl rfl (by decide +kernel)) ?_
  refine ok_c (j := 15) rfl (ok_getI (ci := 5) (C := RX5) (T := TX5) (N := 8) (ix := 18) (pc := 26) rfl rfl (by decide +kernel) rfl (fun _ => rfl) rfl cw_X5 (by decide) rfl wd_187) ?_
  refine ok_c (j := 16) rfl (ok_putI (ci := 5) (C := RX5) (T := TX5) (N := 8) (ty := tyX5) (ix := 18) (pc := 29) rfl rfl (by decide +kernel) rfl (fun _ => rfl) rfl cw_X5 tyX5_ok nmX5 (by decide) rfl rfl rfl wd_187) ?_
  refine ok_c (j := 17) rfl (ok_aload_n (j := ⟨0, by decide⟩) (pc := 32) rfl rfl (by decide +kernel)) ?_
  refine ok_c (j := 18) rfl (ok_aload_n (j := ⟨1, by decide⟩) (pc := 33) rfl rfl (by decide +kernel)) ?_
  refine ok_c (j := 19) rfl (ok_virtual (y := yX5_takeTalk) (n := 1) (d' := 1) (t := 11) (T := TX5) (N := 8) (ix := 37) is_cv (pc := 34) rfl rfl (by decide +kernel) (by decide) (ct_X5_takeTalk l) rfl (fun _ => rfl) ce_fV_rec wd_663 wd_664 wd_665 wd_65) ?_
  refine ok_c (j := 20) rfl (ok_vret (pc := 37) rfl (by decide +kernel) rfl) ?_
  exact trivial
noncomputable def F_X5_take := ce_fV tb_X5_take 2 (some 11)
theorem ct_X5_take (l : Launch) : ce_callee l yX5_take 1 2 0 0 (ce_wV F_X5_take) := ⟨_, _, _, ce_ctr_of (pcs := pc_X5_take) (by decide +kernel) rfl (ok_X5_take l ) ce_fV_run, ce_tw_at wd_662 rfl, by decide, by decide +kernel, by decide +kernel, by decide +kernel⟩
def pc_X5_sellAt : List Nat := [0, 1, 2, 5, 6, 7, 10]
noncomputable def tb_X5_sellAt : List ce_Op := [o_aload 0, o_int 1, o_putI 11 6, o_aload 0, o_iload 1, o_putI 11 7, o_vret]
theorem tl_X5_sellAt : ce_TL tb_X5_sellAt := by
  unfold tb_X5_sellAt
  refine tl_c ta_aload ?_
  refine tl_c ta_int ?_
  refine tl_c ta_putI ?_
  refine tl_c ta_aload ?_
  refine tl_c ta_iload ?_
  refine tl_c ta_putI ?_
  refine tl_c ta_vret ?_
  exact trivial
set_option maxRecDepth 20000 in
theorem ok_X5_sellAt (l : Launch) : ce_OkL l cX5_sellAt RX5 2 none 1 0 0 pc_X5_sellAt 0 tb_X5_sellAt := by
  unfold tb_X5_sellAt
  refine ok_c (j := 1) rfl (ok_aload_n (j := ⟨0, by decide⟩) (pc := 0) rfl rfl (by decide +kernel)) ?_
  refine ok_c (j := 2) rfl (ok_iconst (n := 1) (pc := 1) rfl rfl (by decide +kernel) (by decide)) ?_
  refine ok_c (j := 3) rfl (ok_putI (ci := 5) (C := RX5) (T := TX5) (N := 8) (ty := tyX5) (ix := 27) (pc := 2) rfl rfl (by decide +kernel) rfl (fun _ => rfl) rfl cw_X5 tyX5_ok nmX5 (by decide) rfl rfl rfl wd_195) ?_
  refine ok_c (j := 4) rfl (ok_aload_n (j := ⟨0, by decide⟩) (pc := 5) rfl rfl (by decide +kernel)) ?_
  refine ok_c (j := 5) rfl (ok_iload_n (j := ⟨1, by decide⟩) (pc := 6) rfl rfl (by decide +kernel)) ?_
  refine ok_c (j := 6) rfl (ok_putI (ci := 5) (C := RX5) (T := TX5) (N := 8) (ty := tyX5) (ix := 30) (pc := 7) rfl rfl (by decide +kernel) rfl (fun _ => rfl) rfl cw_X5 tyX5_ok nmX5 (by decide) rfl rfl rfl wd_197) ?_
  refine ok_c (j := 7) rfl (ok_vret (pc := 10) rfl (by decide +kernel) rfl) ?_
  exact trivial
noncomputable def F_X5_sellAt := ce_fV tb_X5_sellAt 2 (some 11)
theorem ct_X5_sellAt (l : Launch) : ce_callee l yX5_sellAt 1 1 0 0 (ce_wV F_X5_sellAt) := ⟨_, _, _, ce_ctr_of (pcs := pc_X5_sellAt) (by decide +kernel) rfl (ok_X5_sellAt l ) ce_fV_run, ce_tw_at wd_641 rfl, by decide, by decide +kernel, by decide +kernel, by decide +kernel⟩
def pc_X5_begin : List Nat := [0, 1, 2, 5, 6, 7, 10, 11, 12, 15, 16, 17, 20, 21, 22, 23, 26, 29]
noncomputable def tb_X5_begin : List ce_Op := [o_aload 0, o_int 0, o_putI 11 4, o_aload 0, o_int 0, o_putI 11 5, o_aload 0, o_int 0, o_putI 11 6, o_aload 0, o_int (-1), o_putI 11 7, o_aload 0, o_aload 1, o_aload 0, o_ci 2 F_X4_first 0 0 0 0, o_putI 11 4, o_vret]
theorem tl_X5_begin : ce_TL tb_X5_begin := by
  unfold tb_X5_begin
  refine tl_c ta_aload ?_
  refine tl_c ta_int ?_
  refine tl_c ta_putI ?_
  refine tl_c ta_aload ?_
  refine tl_c ta_int ?_
  refine tl_c ta_putI ?_
  refine tl_c ta_aload ?_
  refine tl_c ta_int ?_
  refine tl_c ta_putI ?_
  refine tl_c ta_aload ?_
  refine tl_c ta_int ?_
  refine tl_c ta_putI ?_
  refine tl_c ta_aload ?_
  refine tl_c ta_aload ?_
  refine tl_c ta_aload ?_
  refine tl_c ta_ci ?_
  refine tl_c ta_putI ?_
  refine tl_c ta_vret ?_
  exact trivial
set_option maxRecDepth 20000 in
theorem ok_X5_begin (l : Launch) : ce_OkL l cX5_begin RX5 2 none 5 0 0 pc_X5_begin 0 tb_X5_begin := by
  unfold tb_X5_begin
  refine ok_c (j := 1) rfl (ok_aload_n (j := ⟨0, by decide⟩) (pc := 0) rfl rfl (by decide +kernel)) ?_
  refine ok_c (j := 2) rfl (ok_iconst (n := 0) (pc := 1) rfl rfl (by decide +kernel) (by decide)) ?_
  refine ok_c (j := 3) rfl (ok_putI (ci := 5) (C := RX5) (T := TX5) (N := 8) (ty := tyX5) (ix := 21) (pc := 2) rfl rfl (by decide +kernel) rfl (fun _ => rfl) rfl cw_X5 tyX5_ok nmX5 (by decide) rfl rfl rfl wd_189) ?_
  refine ok_c (j := 4) rfl (ok_aload_n (j := ⟨0, by decide⟩) (pc := 5) rfl rfl (by decide +kernel)) ?_
  refine ok_c (j := 5) rfl (ok_iconst (n := 0) (pc := 6) rfl rfl (by decide +kernel) (by decide)) ?_
  refine ok_c (j := 6) rfl (ok_putI (ci := 5) (C := RX5) (T := TX5) (N := 8) (ty := tyX5) (ix := 24) (pc := 7) rfl rfl (by decide +kernel) rfl (fun _ => rfl) rfl cw_X5 tyX5_ok nmX5 (by decide) rfl rfl rfl wd_192) ?_
  refine ok_c (j := 7) rfl (ok_aload_n (j := ⟨0, by decide⟩) (pc := 10) rfl rfl (by decide +kernel)) ?_
  refine ok_c (j := 8) rfl (ok_iconst (n := 0) (pc := 11) rfl rfl (by decide +kernel) (by decide)) ?_
  refine ok_c (j := 9) rfl (ok_putI (ci := 5) (C := RX5) (T := TX5) (N := 8) (ty := tyX5) (ix := 27) (pc := 12) rfl rfl (by decide +kernel) rfl (fun _ => rfl) rfl cw_X5 tyX5_ok nmX5 (by decide) rfl rfl rfl wd_195) ?_
  refine ok_c (j := 10) rfl (ok_aload_n (j := ⟨0, by decide⟩) (pc := 15) rfl rfl (by decide +kernel)) ?_
  refine ok_c (j := 11) rfl (ok_iconst (n := (-1)) (pc := 16) rfl rfl (by decide +kernel) (by decide)) ?_
  refine ok_c (j := 12) rfl (ok_putI (ci := 5) (C := RX5) (T := TX5) (N := 8) (ty := tyX5) (ix := 30) (pc := 17) rfl rfl (by decide +kernel) rfl (fun _ => rfl) rfl cw_X5 tyX5_ok nmX5 (by decide) rfl rfl rfl wd_197) ?_
  refine ok_c (j := 13) rfl (ok_aload_n (j := ⟨0, by decide⟩) (pc := 20) rfl rfl (by decide +kernel)) ?_
  refine ok_c (j := 14) rfl (ok_aload_n (j := ⟨1, by decide⟩) (pc := 21) rfl rfl (by decide +kernel)) ?_
  refine ok_c (j := 15) rfl (ok_aload_n (j := ⟨0, by decide⟩) (pc := 22) rfl rfl (by decide +kernel)) ?_
  refine ok_c (j := 16) rfl (ok_virtual (y := yX4_first) (n := 1) (d' := 4) (t := 12) (T := TX4) (N := 5) (ix := 41) is_ci (pc := 23) rfl rfl (by decide +kernel) (by decide) (ct_X4_first l) rfl (fun _ => rfl) ce_fI_rec wd_498 wd_499 wd_500 wd_74) ?_
  refine ok_c (j := 17) rfl (ok_putI (ci := 5) (C := RX5) (T := TX5) (N := 8) (ty := tyX5) (ix := 21) (pc := 26) rfl rfl (by decide +kernel) rfl (fun _ => rfl) rfl cw_X5 tyX5_ok nmX5 (by decide) rfl rfl rfl wd_189) ?_
  refine ok_c (j := 18) rfl (ok_vret (pc := 29) rfl (by decide +kernel) rfl) ?_
  exact trivial
noncomputable def F_X5_begin := ce_fV tb_X5_begin 2 (some 11)
theorem ct_X5_begin (l : Launch) : ce_callee l yX5_begin 1 5 0 0 (ce_wV F_X5_begin) := ⟨_, _, _, ce_ctr_of (pcs := pc_X5_begin) (by decide +kernel) rfl (ok_X5_begin l ) ce_fV_run, ce_tw_at wd_497 rfl, by decide, by decide +kernel, by decide +kernel, by decide +kernel⟩
def pc_X5_hear : List Nat := [0, 1, 2, 5, 6, 7, 10, 11, 12, 13, 16, 17, 18, 21, 23, 24, 25, 28, 31, 33, 34, 37, 38, 41, 42, 43, 46, 47, 50, 51, 54, 57, 58, 60, 61, 64, 65, 68, 70, 71, 72, 73, 76, 77, 79, 81, 82, 85, 86, 89, 92, 94, 95, 98, 99, 100, 103, 104, 107, 108, 110, 113, 116, 117, 118, 121, 124, 125, 128, 129, 132, 133, 136, 139, 142, 143, 144, 147, 150, 151, 153, 156]
noncomputable def tb_X5_hear : List ce_Op := [o_aload 0, o_dup, o_getI 11 5, o_int 1, o_bin q_add, o_putI 11 5, o_aload 2, o_aload 0, o_iload 1, o_ci 3 F_X4_least 0 0 0 0, o_istore 3, o_aload 0, o_getI 11 4, o_istore 4, o_iload 1, o_aload 0, o_getI 11 4, o_cmpge 33, o_iload 4, o_aload 0, o_getM 11 0 10, o_aload 0, o_getI 11 4, o_iload 1, o_aload 0, o_getI 11 5, o_aload 0, o_getI 11 3, o_aload 2, o_getI 12 1, o_ci 6 F_kind_steps 0 0 0 0, o_bin q_sub, o_istore 4, o_aload 0, o_getI 11 5, o_int 1, o_cmpne 44, o_iload 4, o_aload 2, o_aload 0, o_iload 1, o_ci 3 F_X4_pull 0 0 0 0, o_bin q_add, o_istore 4, o_iload 4, o_iload 3, o_mmax, o_aload 0, o_getI 11 4, o_mmin, o_istore 4, o_aload 0, o_getM 11 0 10, o_iload 1, o_aload 0, o_getI 11 5, o_aload 0, o_getI 11 4, o_iload 3, o_iload 4, o_ci 6 F_kind_takes 0 0 0 0, o_ifeq 66, o_aload 0, o_iload 1, o_cv 2 F_X5_sellAt 0 0 0 0, o_goto 81, o_aload 0, o_getI 11 5, o_aload 0, o_getM 11 0 10, o_aload 0, o_getI 11 3, o_ci 2 F_kind_stays 0 0 0 0, o_cmplt 78, o_aload 0, o_int 2, o_putI 11 6, o_goto 81, o_aload 0, o_iload 4, o_putI 11 4, o_vret]
theorem tl_X5_hear : ce_TL tb_X5_hear := by
  unfold tb_X5_hear
  refine tl_c ta_aload ?_
  refine tl_c ta_dup ?_
  refine tl_c ta_getI ?_
  refine tl_c ta_int ?_
  refine tl_c ta_bin ?_
  refine tl_c ta_putI ?_
  refine tl_c ta_aload ?_
  refine tl_c ta_aload ?_
  refine tl_c ta_iload ?_
  refine tl_c ta_ci ?_
  refine tl_c ta_istore ?_
  refine tl_c ta_aload ?_
  refine tl_c ta_getI ?_
  refine tl_c ta_istore ?_
  refine tl_c ta_iload ?_
  refine tl_c ta_aload ?_
  refine tl_c ta_getI ?_
  refine tl_c ta_cmpge ?_
  refine tl_c ta_iload ?_
  refine tl_c ta_aload ?_
  refine tl_c ta_getM ?_
  refine tl_c ta_aload ?_
  refine tl_c ta_getI ?_
  refine tl_c ta_iload ?_
  refine tl_c ta_aload ?_
  refine tl_c ta_getI ?_
  refine tl_c ta_aload ?_
  refine tl_c ta_getI ?_
  refine tl_c ta_aload ?_
  refine tl_c ta_getI ?_
  refine tl_c ta_ci ?_
  refine tl_c ta_bin ?_
  refine tl_c ta_istore ?_
  refine tl_c ta_aload ?_
  refine tl_c ta_getI ?_
  refine tl_c ta_int ?_
  refine tl_c ta_cmpne ?_
  refine tl_c ta_iload ?_
  refine tl_c ta_aload ?_
  refine tl_c ta_aload ?_
  refine tl_c ta_iload ?_
  refine tl_c ta_ci ?_
  refine tl_c ta_bin ?_
  refine tl_c ta_istore ?_
  refine tl_c ta_iload ?_
  refine tl_c ta_iload ?_
  refine tl_c ta_mmax ?_
  refine tl_c ta_aload ?_
  refine tl_c ta_getI ?_
  refine tl_c ta_mmin ?_
  refine tl_c ta_istore ?_
  refine tl_c ta_aload ?_
  refine tl_c ta_getM ?_
  refine tl_c ta_iload ?_
  refine tl_c ta_aload ?_
  refine tl_c ta_getI ?_
  refine tl_c ta_aload ?_
  refine tl_c ta_getI ?_
  refine tl_c ta_iload ?_
  refine tl_c ta_iload ?_
  refine tl_c ta_ci ?_
  refine tl_c ta_ifeq ?_
  refine tl_c ta_aload ?_
  refine tl_c ta_iload ?_
  refine tl_c ta_cv ?_
  refine tl_c ta_goto ?_
  refine tl_c ta_aload ?_
  refine tl_c ta_getI ?_
  refine tl_c ta_aload ?_
  refine tl_c ta_getM ?_
  refine tl_c ta_aload ?_
  refine tl_c ta_getI ?_
  refine tl_c ta_ci ?_
  refine tl_c ta_cmplt ?_
  refine tl_c ta_aload ?_
  refine tl_c ta_int ?_
  refine tl_c ta_putI ?_
  refine tl_c ta_goto ?_
  refine tl_c ta_aload ?_
  refine tl_c ta_iload ?_
  refine tl_c ta_putI ?_
  refine tl_c ta_vret ?_
  exact trivial
set_option maxRecDepth 20000 in
theorem ok_X5_hear (l : Launch) : ce_OkL l cX5_hear RX5 5 none 4 0 0 pc_X5_hear 0 tb_X5_hear := by
  unfold tb_X5_hear
  refine ok_c (j := 1) rfl (ok_aload_n (j := ⟨0, by decide⟩) (pc := 0) rfl rfl (by decide +kernel)) ?_
  refine ok_c (j := 2) rfl (ok_dup (pc := 1) rfl rfl (by decide +kernel)) ?_
  refine ok_c (j := 3) rfl (ok_getI (ci := 5) (C := RX5) (T := TX5) (N := 8) (ix := 24) (pc := 2) rfl rfl (by decide +kernel) rfl (fun _ => rfl) rfl cw_X5 (by decide) rfl wd_192) ?_
  refine ok_c (j := 4) rfl (ok_iconst (n := 1) (pc := 5) rfl rfl (by decide +kernel) (by decide)) ?_
  refine ok_c (j := 5) rfl (ok_iadd (pc := 6) rfl rfl (by decide +kernel)) ?_
  refine ok_c (j := 6) rfl (ok_putI (ci := 5) (C := RX5) (T := TX5) (N := 8) (ty := tyX5) (ix := 24) (pc := 7) rfl rfl (by decide +kernel) rfl (fun _ => rfl) rfl cw_X5 tyX5_ok nmX5 (by decide) rfl rfl rfl wd_192) ?_
  refine ok_c (j := 7) rfl (ok_aload_n (j := ⟨2, by decide⟩) (pc := 10) rfl rfl (by decide +kernel)) ?_
  refine ok_c (j := 8) rfl (ok_aload_n (j := ⟨0, by decide⟩) (pc := 11) rfl rfl (by decide +kernel)) ?_
  refine ok_c (j := 9) rfl (ok_iload_n (j := ⟨1, by decide⟩) (pc := 12) rfl rfl (by decide +kernel)) ?_
  refine ok_c (j := 10) rfl (ok_virtual (y := yX4_least) (n := 2) (d' := 3) (t := 12) (T := TX4) (N := 5) (ix := 47) is_ci (pc := 13) rfl rfl (by decide +kernel) (by decide) (ct_X4_least l) rfl (fun _ => rfl) ce_fI_rec wd_587 wd_514 wd_515 wd_74) ?_
  refine ok_c (j := 11) rfl (ok_istore_n (j := ⟨3, by decide⟩) (pc := 16) rfl rfl (by decide +kernel) (by decide)) ?_
  refine ok_c (j := 12) rfl (ok_aload_n (j := ⟨0, by decide⟩) (pc := 17) rfl rfl (by decide +kernel)) ?_
  refine ok_c (j := 13) rfl (ok_getI (ci := 5) (C := RX5) (T := TX5) (N := 8) (ix := 21) (pc := 18) rfl rfl (by decide +kernel) rfl (fun _ => rfl) rfl cw_X5 (by decide) rfl wd_189) ?_
  refine ok_c (j := 14) rfl (ok_istore (j := 4) (pc := 21) rfl rfl (by decide +kernel) (by decide)) ?_
  refine ok_c (j := 15) rfl (ok_iload_n (j := ⟨1, by decide⟩) (pc := 23) rfl rfl (by decide +kernel)) ?_
  refine ok_c (j := 16) rfl (ok_aload_n (j := ⟨0, by decide⟩) (pc := 24) rfl rfl (by decide +kernel)) ?_
  refine ok_c (j := 17) rfl (ok_getI (ci := 5) (C := RX5) (T := TX5) (N := 8) (ix := 21) (pc := 25) rfl rfl (by decide +kernel) rfl (fun _ => rfl) rfl cw_X5 (by decide) rfl wd_189) ?_
  refine ok_c (j := 18) rfl (ok_cmpge (off := 32) (tg := 60) (pc := 28) rfl rfl (by decide +kernel) rfl (by decide)) ?_
  refine ok_c (j := 19) rfl (ok_iload (j := 4) (pc := 31) rfl rfl (by decide +kernel)) ?_
  refine ok_c (j := 20) rfl (ok_aload_n (j := ⟨0, by decide⟩) (pc := 33) rfl rfl (by decide +kernel)) ?_
  refine ok_c (j := 21) rfl (ok_getM (ci := 5) (C := RX5) (T := TX5) (N := 8) (ix := 33) (pc := 34) rfl rfl (by decide +kernel) rfl (fun _ => rfl) rfl cw_X5 (by decide) rfl wd_180) ?_
  refine ok_c (j := 22) rfl (ok_aload_n (j := ⟨0, by decide⟩) (pc := 37) rfl rfl (by decide +kernel)) ?_
  refine ok_c (j := 23) rfl (ok_getI (ci := 5) (C := RX5) (T := TX5) (N := 8) (ix := 21) (pc := 38) rfl rfl (by decide +kernel) rfl (fun _ => rfl) rfl cw_X5 (by decide) rfl wd_189) ?_
  refine ok_c (j := 24) rfl (ok_iload_n (j := ⟨1, by decide⟩) (pc := 41) rfl rfl (by decide +kernel)) ?_
  refine ok_c (j := 25) rfl (ok_aload_n (j := ⟨0, by decide⟩) (pc := 42) rfl rfl (by decide +kernel)) ?_
  refine ok_c (j := 26) rfl (ok_getI (ci := 5) (C := RX5) (T := TX5) (N := 8) (ix := 24) (pc := 43) rfl rfl (by decide +kernel) rfl (fun _ => rfl) rfl cw_X5 (by decide) rfl wd_192) ?_
  refine ok_c (j := 27) rfl (ok_aload_n (j := ⟨0, by decide⟩) (pc := 46) rfl rfl (by decide +kernel)) ?_
  refine ok_c (j := 28) rfl (ok_getI (ci := 5) (C := RX5) (T := TX5) (N := 8) (ix := 18) (pc := 47) rfl rfl (by decide +kernel) rfl (fun _ => rfl) rfl cw_X5 (by decide) rfl wd_187) ?_
  refine ok_c (j := 29) rfl (ok_aload_n (j := ⟨2, by decide⟩) (pc := 50) rfl rfl (by decide +kernel)) ?_
  refine ok_c (j := 30) rfl (ok_getI (ci := 4) (C := RX4) (T := TX4) (N := 5) (ix := 51) (pc := 51) rfl rfl (by decide +kernel) rfl (fun _ => rfl) rfl cw_X4 (by decide) rfl wd_424) ?_
  refine ok_c (j := 31) rfl (ok_kind (x := yX3_steps) (n := 5) (ix := 54) is_ci (pc := 54) rfl rfl (by decide +kernel) (by decide) kd_steps_rec rfl (by decide +kernel) (kd_steps l) wd_588 wd_591 wd_589 wd_612) ?_
  refine ok_c (j := 32) rfl (ok_isub (pc := 57) rfl rfl (by decide +kernel)) ?_
  refine ok_c (j := 33) rfl (ok_istore (j := 4) (pc := 58) rfl rfl (by decide +kernel) (by decide)) ?_
  refine ok_c (j := 34) rfl (ok_aload_n (j := ⟨0, by decide⟩) (pc := 60) rfl rfl (by decide +kernel)) ?_
  refine ok_c (j := 35) rfl (ok_getI (ci := 5) (C := RX5) (T := TX5) (N := 8) (ix := 24) (pc := 61) rfl rfl (by decide +kernel) rfl (fun _ => rfl) rfl cw_X5 (by decide) rfl wd_192) ?_
  refine ok_c (j := 36) rfl (ok_iconst (n := 1) (pc := 64) rfl rfl (by decide +kernel) (by decide)) ?_
  refine ok_c (j := 37) rfl (ok_cmpne (off := 14) (tg := 79) (pc := 65) rfl rfl (by decide +kernel) rfl (by decide)) ?_
  refine ok_c (j := 38) rfl (ok_iload (j := 4) (pc := 68) rfl rfl (by decide +kernel)) ?_
  refine ok_c (j := 39) rfl (ok_aload_n (j := ⟨2, by decide⟩) (pc := 70) rfl rfl (by decide +kernel)) ?_
  refine ok_c (j := 40) rfl (ok_aload_n (j := ⟨0, by decide⟩) (pc := 71) rfl rfl (by decide +kernel)) ?_
  refine ok_c (j := 41) rfl (ok_iload_n (j := ⟨1, by decide⟩) (pc := 72) rfl rfl (by decide +kernel)) ?_
  refine ok_c (j := 42) rfl (ok_virtual (y := yX4_pull) (n := 2) (d' := 3) (t := 12) (T := TX4) (N := 5) (ix := 60) is_ci (pc := 73) rfl rfl (by decide +kernel) (by decide) (ct_X4_pull l) rfl (fun _ => rfl) ce_fI_rec wd_613 wd_614 wd_615 wd_74) ?_
  refine ok_c (j := 43) rfl (ok_iadd (pc := 76) rfl rfl (by decide +kernel)) ?_
  refine ok_c (j := 44) rfl (ok_istore (j := 4) (pc := 77) rfl rfl (by decide +kernel) (by decide)) ?_
  refine ok_c (j := 45) rfl (ok_iload (j := 4) (pc := 79) rfl rfl (by decide +kernel)) ?_
  refine ok_c (j := 46) rfl (ok_iload_n (j := ⟨3, by decide⟩) (pc := 81) rfl rfl (by decide +kernel)) ?_
  refine ok_c (j := 47) rfl (ok_mmax (ix := 63) (pc := 82) rfl rfl (by decide +kernel) (by decide) wd_617 wd_390 wd_72 wd_391) ?_
  refine ok_c (j := 48) rfl (ok_aload_n (j := ⟨0, by decide⟩) (pc := 85) rfl rfl (by decide +kernel)) ?_
  refine ok_c (j := 49) rfl (ok_getI (ci := 5) (C := RX5) (T := TX5) (N := 8) (ix := 21) (pc := 86) rfl rfl (by decide +kernel) rfl (fun _ => rfl) rfl cw_X5 (by decide) rfl wd_189) ?_
  refine ok_c (j := 50) rfl (ok_mmin (ix := 69) (pc := 89) rfl rfl (by decide +kernel) (by decide) wd_618 wd_387 wd_72 wd_388) ?_
  refine ok_c (j := 51) rfl (ok_istore (j := 4) (pc := 92) rfl rfl (by decide +kernel) (by decide)) ?_
  refine ok_c (j := 52) rfl (ok_aload_n (j := ⟨0, by decide⟩) (pc := 94) rfl rfl (by decide +kernel)) ?_
  refine ok_c (j := 53) rfl (ok_getM (ci := 5) (C := RX5) (T := TX5) (N := 8) (ix := 33) (pc := 95) rfl rfl (by decide +kernel) rfl (fun _ => rfl) rfl cw_X5 (by decide) rfl wd_180) ?_
  refine ok_c (j := 54) rfl (ok_iload_n (j := ⟨1, by decide⟩) (pc := 98) rfl rfl (by decide +kernel)) ?_
  refine ok_c (j := 55) rfl (ok_aload_n (j := ⟨0, by decide⟩) (pc := 99) rfl rfl (by decide +kernel)) ?_
  refine ok_c (j := 56) rfl (ok_getI (ci := 5) (C := RX5) (T := TX5) (N := 8) (ix := 24) (pc := 100) rfl rfl (by decide +kernel) rfl (fun _ => rfl) rfl cw_X5 (by decide) rfl wd_192) ?_
  refine ok_c (j := 57) rfl (ok_aload_n (j := ⟨0, by decide⟩) (pc := 103) rfl rfl (by decide +kernel)) ?_
  refine ok_c (j := 58) rfl (ok_getI (ci := 5) (C := RX5) (T := TX5) (N := 8) (ix := 21) (pc := 104) rfl rfl (by decide +kernel) rfl (fun _ => rfl) rfl cw_X5 (by decide) rfl wd_189) ?_
  refine ok_c (j := 59) rfl (ok_iload_n (j := ⟨3, by decide⟩) (pc := 107) rfl rfl (by decide +kernel)) ?_
  refine ok_c (j := 60) rfl (ok_iload (j := 4) (pc := 108) rfl rfl (by decide +kernel)) ?_
  refine ok_c (j := 61) rfl (ok_kind (x := yX3_takes) (n := 5) (ix := 72) is_ci (pc := 110) rfl rfl (by decide +kernel) (by decide) kd_takes_rec rfl (by decide +kernel) (kd_takes l) wd_619 wd_622 wd_620 wd_637) ?_
  refine ok_c (j := 62) rfl (ok_ifeq (off := 11) (tg := 124) (pc := 113) rfl rfl (by decide +kernel) rfl (by decide)) ?_
  refine ok_c (j := 63) rfl (ok_aload_n (j := ⟨0, by decide⟩) (pc := 116) rfl rfl (by decide +kernel)) ?_
  refine ok_c (j := 64) rfl (ok_iload_n (j := ⟨1, by decide⟩) (pc := 117) rfl rfl (by decide +kernel)) ?_
  refine ok_c (j := 65) rfl (ok_virtual (y := yX5_sellAt) (n := 1) (d' := 1) (t := 11) (T := TX5) (N := 8) (ix := 76) is_cv (pc := 118) rfl rfl (by decide +kernel) (by decide) (ct_X5_sellAt l) rfl (fun _ => rfl) ce_fV_rec wd_638 wd_639 wd_640 wd_65) ?_
  refine ok_c (j := 66) rfl (ok_goto (off := 35) (tg := 156) (pc := 121) rfl (by decide +kernel) rfl (by decide)) ?_
  refine ok_c (j := 67) rfl (ok_aload_n (j := ⟨0, by decide⟩) (pc := 124) rfl rfl (by decide +kernel)) ?_
  refine ok_c (j := 68) rfl (ok_getI (ci := 5) (C := RX5) (T := TX5) (N := 8) (ix := 24) (pc := 125) rfl rfl (by decide +kernel) rfl (fun _ => rfl) rfl cw_X5 (by decide) rfl wd_192) ?_
  refine ok_c (j := 69) rfl (ok_aload_n (j := ⟨0, by decide⟩) (pc := 128) rfl rfl (by decide +kernel)) ?_
  refine ok_c (j := 70) rfl (ok_getM (ci := 5) (C := RX5) (T := TX5) (N := 8) (ix := 33) (pc := 129) rfl rfl (by decide +kernel) rfl (fun _ => rfl) rfl cw_X5 (by decide) rfl wd_180) ?_
  refine ok_c (j := 71) rfl (ok_aload_n (j := ⟨0, by decide⟩) (pc := 132) rfl rfl (by decide +kernel)) ?_
  refine ok_c (j := 72) rfl (ok_getI (ci := 5) (C := RX5) (T := TX5) (N := 8) (ix := 18) (pc := 133) rfl rfl (by decide +kernel) rfl (fun _ => rfl) rfl cw_X5 (by decide) rfl wd_187) ?_
  refine ok_c (j := 73) rfl (ok_kind (x := yX3_stays) (n := 1) (ix := 80) is_ci (pc := 136) rfl rfl (by decide +kernel) (by decide) kd_stays_rec rfl (by decide +kernel) (kd_stays l) wd_642 wd_545 wd_543 wd_563) ?_
  refine ok_c (j := 74) rfl (ok_cmplt (off := 11) (tg := 150) (pc := 139) rfl rfl (by decide +kernel) rfl (by decide)) ?_
  refine ok_c (j := 75) rfl (ok_aload_n (j := ⟨0, by decide⟩) (pc := 142) rfl rfl (by decide +kernel)) ?_
  refine ok_c (j := 76) rfl (ok_iconst (n := 2) (pc := 143) rfl rfl (by decide +kernel) (by decide)) ?_
  refine ok_c (j := 77) rfl (ok_putI (ci := 5) (C := RX5) (T := TX5) (N := 8) (ty := tyX5) (ix := 27) (pc := 144) rfl rfl (by decide +kernel) rfl (fun _ => rfl) rfl cw_X5 tyX5_ok nmX5 (by decide) rfl rfl rfl wd_195) ?_
  refine ok_c (j := 78) rfl (ok_goto (off := 9) (tg := 156) (pc := 147) rfl (by decide +kernel) rfl (by decide)) ?_
  refine ok_c (j := 79) rfl (ok_aload_n (j := ⟨0, by decide⟩) (pc := 150) rfl rfl (by decide +kernel)) ?_
  refine ok_c (j := 80) rfl (ok_iload (j := 4) (pc := 151) rfl rfl (by decide +kernel)) ?_
  refine ok_c (j := 81) rfl (ok_putI (ci := 5) (C := RX5) (T := TX5) (N := 8) (ty := tyX5) (ix := 21) (pc := 153) rfl rfl (by decide +kernel) rfl (fun _ => rfl) rfl cw_X5 tyX5_ok nmX5 (by decide) rfl rfl rfl wd_189) ?_
  refine ok_c (j := 82) rfl (ok_vret (pc := 156) rfl (by decide +kernel) rfl) ?_
  exact trivial
noncomputable def F_X5_hear := ce_fV tb_X5_hear 5 (some 11)
theorem ct_X5_hear (l : Launch) : ce_callee l yX5_hear 2 4 0 0 (ce_wV F_X5_hear) := ⟨_, _, _, ce_ctr_of (pcs := pc_X5_hear) (by decide +kernel) rfl (ok_X5_hear l ) ce_fV_run, ce_tw_at wd_586 rfl, by decide, by decide +kernel, by decide +kernel, by decide +kernel⟩
def pc_X5_goByRule : List Nat := [0, 1, 2, 5, 8, 10, 11, 13, 15, 17, 20, 21, 24, 27, 29, 32, 33, 36, 38, 41, 43, 44, 45, 48, 50, 51, 52, 54, 55, 56, 57, 60, 63, 65, 67, 68, 71, 74, 75, 76, 79, 82, 85, 86, 88, 89, 92, 95, 98]
noncomputable def tb_X5_goByRule : List ce_Op := [o_iload 1, o_aload 3, o_getI 12 2, o_mmin, o_istore 4, o_int 0, o_istore 5, o_iload 5, o_int 30, o_cmpge 48, o_aload 0, o_getI 11 6, o_ifne 48, o_iload 5, o_ifle 33, o_aload 0, o_getI 11 4, o_iload 4, o_cmple 33, o_iload 4, o_iload 2, o_aload 0, o_getI 11 4, o_iload 4, o_bin q_sub, o_bin q_mul, o_int 10, o_div, o_bin q_add, o_aload 3, o_getI 12 2, o_mmin, o_istore 4, o_iload 4, o_aload 0, o_getI 11 4, o_cmplt 42, o_aload 0, o_aload 0, o_getI 11 4, o_cv 2 F_X5_sellAt 0 0 0 0, o_goto 46, o_aload 0, o_iload 4, o_aload 3, o_cv 3 F_X5_hear 0 0 0 0, o_iinc 5 1, o_goto 7, o_vret]
theorem tl_X5_goByRule : ce_TL tb_X5_goByRule := by
  unfold tb_X5_goByRule
  refine tl_c ta_iload ?_
  refine tl_c ta_aload ?_
  refine tl_c ta_getI ?_
  refine tl_c ta_mmin ?_
  refine tl_c ta_istore ?_
  refine tl_c ta_int ?_
  refine tl_c ta_istore ?_
  refine tl_c ta_iload ?_
  refine tl_c ta_int ?_
  refine tl_c ta_cmpge ?_
  refine tl_c ta_aload ?_
  refine tl_c ta_getI ?_
  refine tl_c ta_ifne ?_
  refine tl_c ta_iload ?_
  refine tl_c ta_ifle ?_
  refine tl_c ta_aload ?_
  refine tl_c ta_getI ?_
  refine tl_c ta_iload ?_
  refine tl_c ta_cmple ?_
  refine tl_c ta_iload ?_
  refine tl_c ta_iload ?_
  refine tl_c ta_aload ?_
  refine tl_c ta_getI ?_
  refine tl_c ta_iload ?_
  refine tl_c ta_bin ?_
  refine tl_c ta_bin ?_
  refine tl_c ta_int ?_
  refine tl_c ta_div ?_
  refine tl_c ta_bin ?_
  refine tl_c ta_aload ?_
  refine tl_c ta_getI ?_
  refine tl_c ta_mmin ?_
  refine tl_c ta_istore ?_
  refine tl_c ta_iload ?_
  refine tl_c ta_aload ?_
  refine tl_c ta_getI ?_
  refine tl_c ta_cmplt ?_
  refine tl_c ta_aload ?_
  refine tl_c ta_aload ?_
  refine tl_c ta_getI ?_
  refine tl_c ta_cv ?_
  refine tl_c ta_goto ?_
  refine tl_c ta_aload ?_
  refine tl_c ta_iload ?_
  refine tl_c ta_aload ?_
  refine tl_c ta_cv ?_
  refine tl_c ta_iinc ?_
  refine tl_c ta_goto ?_
  refine tl_c ta_vret ?_
  exact trivial
set_option maxRecDepth 20000 in
theorem ok_X5_goByRule (l : Launch) : ce_OkL l cX5_goByRule RX5 6 none 5 0 0 pc_X5_goByRule 0 tb_X5_goByRule := by
  unfold tb_X5_goByRule
  refine ok_c (j := 1) rfl (ok_iload_n (j := ⟨1, by decide⟩) (pc := 0) rfl rfl (by decide +kernel)) ?_
  refine ok_c (j := 2) rfl (ok_aload_n (j := ⟨3, by decide⟩) (pc := 1) rfl rfl (by decide +kernel)) ?_
  refine ok_c (j := 3) rfl (ok_getI (ci := 4) (C := RX4) (T := TX4) (N := 5) (ix := 84) (pc := 2) rfl rfl (by decide +kernel) rfl (fun _ => rfl) rfl cw_X4 (by decide) rfl wd_427) ?_
  refine ok_c (j := 4) rfl (ok_mmin (ix := 69) (pc := 5) rfl rfl (by decide +kernel) (by decide) wd_618 wd_387 wd_72 wd_388) ?_
  refine ok_c (j := 5) rfl (ok_istore (j := 4) (pc := 8) rfl rfl (by decide +kernel) (by decide)) ?_
  refine ok_c (j := 6) rfl (ok_iconst (n := 0) (pc := 10) rfl rfl (by decide +kernel) (by decide)) ?_
  refine ok_c (j := 7) rfl (ok_istore (j := 5) (pc := 11) rfl rfl (by decide +kernel) (by decide)) ?_
  refine ok_c (j := 8) rfl (ok_iload (j := 5) (pc := 13) rfl rfl (by decide +kernel)) ?_
  refine ok_c (j := 9) rfl (ok_bipush (n := 30) (pc := 15) rfl rfl (by decide +kernel) (by decide)) ?_
  refine ok_c (j := 10) rfl (ok_cmpge (off := 81) (tg := 98) (pc := 17) rfl rfl (by decide +kernel) rfl (by decide)) ?_
  refine ok_c (j := 11) rfl (ok_aload_n (j := ⟨0, by decide⟩) (pc := 20) rfl rfl (by decide +kernel)) ?_
  refine ok_c (j := 12) rfl (ok_getI (ci := 5) (C := RX5) (T := TX5) (N := 8) (ix := 27) (pc := 21) rfl rfl (by decide +kernel) rfl (fun _ => rfl) rfl cw_X5 (by decide) rfl wd_195) ?_
  refine ok_c (j := 13) rfl (ok_ifne (off := 74) (tg := 98) (pc := 24) rfl rfl (by decide +kernel) rfl (by decide)) ?_
  refine ok_c (j := 14) rfl (ok_iload (j := 5) (pc := 27) rfl rfl (by decide +kernel)) ?_
  refine ok_c (j := 15) rfl (ok_ifle (off := 36) (tg := 65) (pc := 29) rfl rfl (by decide +kernel) rfl (by decide)) ?_
  refine ok_c (j := 16) rfl (ok_aload_n (j := ⟨0, by decide⟩) (pc := 32) rfl rfl (by decide +kernel)) ?_
  refine ok_c (j := 17) rfl (ok_getI (ci := 5) (C := RX5) (T := TX5) (N := 8) (ix := 21) (pc := 33) rfl rfl (by decide +kernel) rfl (fun _ => rfl) rfl cw_X5 (by decide) rfl wd_189) ?_
  refine ok_c (j := 18) rfl (ok_iload (j := 4) (pc := 36) rfl rfl (by decide +kernel)) ?_
  refine ok_c (j := 19) rfl (ok_cmple (off := 27) (tg := 65) (pc := 38) rfl rfl (by decide +kernel) rfl (by decide)) ?_
  refine ok_c (j := 20) rfl (ok_iload (j := 4) (pc := 41) rfl rfl (by decide +kernel)) ?_
  refine ok_c (j := 21) rfl (ok_iload_n (j := ⟨2, by decide⟩) (pc := 43) rfl rfl (by decide +kernel)) ?_
  refine ok_c (j := 22) rfl (ok_aload_n (j := ⟨0, by decide⟩) (pc := 44) rfl rfl (by decide +kernel)) ?_
  refine ok_c (j := 23) rfl (ok_getI (ci := 5) (C := RX5) (T := TX5) (N := 8) (ix := 21) (pc := 45) rfl rfl (by decide +kernel) rfl (fun _ => rfl) rfl cw_X5 (by decide) rfl wd_189) ?_
  refine ok_c (j := 24) rfl (ok_iload (j := 4) (pc := 48) rfl rfl (by decide +kernel)) ?_
  refine ok_c (j := 25) rfl (ok_isub (pc := 50) rfl rfl (by decide +kernel)) ?_
  refine ok_c (j := 26) rfl (ok_imul (pc := 51) rfl rfl (by decide +kernel)) ?_
  refine ok_c (j := 27) rfl (ok_bipush (n := 10) (pc := 52) rfl rfl (by decide +kernel) (by decide)) ?_
  refine ok_c (j := 28) rfl (ok_idiv (pc := 54) rfl rfl (by decide +kernel)) ?_
  refine ok_c (j := 29) rfl (ok_iadd (pc := 55) rfl rfl (by decide +kernel)) ?_
  refine ok_c (j := 30) rfl (ok_aload_n (j := ⟨3, by decide⟩) (pc := 56) rfl rfl (by decide +kernel)) ?_
  refine ok_c (j := 31) rfl (ok_getI (ci := 4) (C := RX4) (T := TX4) (N := 5) (ix := 84) (pc := 57) rfl rfl (by decide +kernel) rfl (fun _ => rfl) rfl cw_X4 (by decide) rfl wd_427) ?_
  refine ok_c (j := 32) rfl (ok_mmin (ix := 69) (pc := 60) rfl rfl (by decide +kernel) (by decide) wd_618 wd_387 wd_72 wd_388) ?_
  refine ok_c (j := 33) rfl (ok_istore (j := 4) (pc := 63) rfl rfl (by decide +kernel) (by decide)) ?_
  refine ok_c (j := 34) rfl (ok_iload (j := 4) (pc := 65) rfl rfl (by decide +kernel)) ?_
  refine ok_c (j := 35) rfl (ok_aload_n (j := ⟨0, by decide⟩) (pc := 67) rfl rfl (by decide +kernel)) ?_
  refine ok_c (j := 36) rfl (ok_getI (ci := 5) (C := RX5) (T := TX5) (N := 8) (ix := 21) (pc := 68) rfl rfl (by decide +kernel) rfl (fun _ => rfl) rfl cw_X5 (by decide) rfl wd_189) ?_
  refine ok_c (j := 37) rfl (ok_cmplt (off := 14) (tg := 85) (pc := 71) rfl rfl (by decide +kernel) rfl (by decide)) ?_
  refine ok_c (j := 38) rfl (ok_aload_n (j := ⟨0, by decide⟩) (pc := 74) rfl rfl (by decide +kernel)) ?_
  refine ok_c (j := 39) rfl (ok_aload_n (j := ⟨0, by decide⟩) (pc := 75) rfl rfl (by decide +kernel)) ?_
  refine ok_c (j := 40) rfl (ok_getI (ci := 5) (C := RX5) (T := TX5) (N := 8) (ix := 21) (pc := 76) rfl rfl (by decide +kernel) rfl (fun _ => rfl) rfl cw_X5 (by decide) rfl wd_189) ?_
  refine ok_c (j := 41) rfl (ok_virtual (y := yX5_sellAt) (n := 1) (d' := 1) (t := 11) (T := TX5) (N := 8) (ix := 76) is_cv (pc := 79) rfl rfl (by decide +kernel) (by decide) (ct_X5_sellAt l) rfl (fun _ => rfl) ce_fV_rec wd_638 wd_639 wd_640 wd_65) ?_
  refine ok_c (j := 42) rfl (ok_goto (off := 10) (tg := 92) (pc := 82) rfl (by decide +kernel) rfl (by decide)) ?_
  refine ok_c (j := 43) rfl (ok_aload_n (j := ⟨0, by decide⟩) (pc := 85) rfl rfl (by decide +kernel)) ?_
  refine ok_c (j := 44) rfl (ok_iload (j := 4) (pc := 86) rfl rfl (by decide +kernel)) ?_
  refine ok_c (j := 45) rfl (ok_aload_n (j := ⟨3, by decide⟩) (pc := 88) rfl rfl (by decide +kernel)) ?_
  refine ok_c (j := 46) rfl (ok_virtual (y := yX5_hear) (n := 2) (d' := 4) (t := 11) (T := TX5) (N := 8) (ix := 87) is_cv (pc := 89) rfl rfl (by decide +kernel) (by decide) (ct_X5_hear l) rfl (fun _ => rfl) ce_fV_rec wd_671 wd_584 wd_585 wd_65) ?_
  refine ok_c (j := 47) rfl (ok_iinc (n := 1) (pc := 92) rfl rfl (by decide +kernel) (by decide) (by decide)) ?_
  refine ok_c (j := 48) rfl (ok_goto (off := (-82)) (tg := 13) (pc := 95) rfl (by decide +kernel) rfl (by decide)) ?_
  refine ok_c (j := 49) rfl (ok_vret (pc := 98) rfl (by decide +kernel) rfl) ?_
  exact trivial
noncomputable def F_X5_goByRule := ce_fV tb_X5_goByRule 6 (some 11)
theorem ct_X5_goByRule (l : Launch) : ce_callee l yX5_goByRule 3 5 0 0 (ce_wV F_X5_goByRule) := ⟨_, _, _, ce_ctr_of (pcs := pc_X5_goByRule) (by decide +kernel) rfl (ok_X5_goByRule l ) ce_fV_run, ce_tw_at wd_670 rfl, by decide, by decide +kernel, by decide +kernel, by decide +kernel⟩
