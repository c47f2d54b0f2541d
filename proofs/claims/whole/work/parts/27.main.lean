def pc_X11_isSeller : List Nat := [0, 1, 4, 5, 6, 9, 12, 13, 15, 18, 19, 22, 23]
noncomputable def tb_X11_isSeller : List ce_Op := [o_iload 1, o_iflt 11, o_iload 1, o_aload 0, o_getI 0 6, o_cmpge 11, o_iload 1, o_int 6, o_cmpge 11, o_int 1, o_goto 12, o_int 0, o_zret]
theorem tl_X11_isSeller : ce_TL tb_X11_isSeller := by
  unfold tb_X11_isSeller
  refine tl_c ta_iload ?_
  refine tl_c ta_iflt ?_
  refine tl_c ta_iload ?_
  refine tl_c ta_aload ?_
  refine tl_c ta_getI ?_
  refine tl_c ta_cmpge ?_
  refine tl_c ta_iload ?_
  refine tl_c ta_int ?_
  refine tl_c ta_cmpge ?_
  refine tl_c ta_int ?_
  refine tl_c ta_goto ?_
  refine tl_c ta_int ?_
  refine tl_c ta_zret ?_
  exact trivial
set_option maxRecDepth 20000 in
theorem ok_X11_isSeller (l : Launch) : ce_OkL l cX11_isSeller RX11 2 (some .boolean) 1 0 0 pc_X11_isSeller 0 tb_X11_isSeller := by
  unfold tb_X11_isSeller
  refine ok_c (j := 1) rfl (ok_iload_n (j := ⟨1, by decide⟩) (pc := 0) rfl rfl (by decide +kernel)) ?_
  refine ok_c (j := 2) rfl (ok_iflt (off := 21) (tg := 22) (pc := 1) rfl rfl (by decide +kernel) rfl (by decide)) ?_
  refine ok_c (j := 3) rfl (ok_iload_n (j := ⟨1, by decide⟩) (pc := 4) rfl rfl (by decide +kernel)) ?_
  refine ok_c (j := 4) rfl (ok_aload_n (j := ⟨0, by decide⟩) (pc := 5) rfl rfl (by decide +kernel)) ?_
  refine ok_c (j := 5) rfl (ok_getI (ci := 11) (C := RX11) (T := TX11) (N := 14) (ix := 40) (pc := 6) rfl rfl (by decide +kernel) rfl (fun _ => rfl) rfl cw_X11 (by decide) rfl wd_449) ?_
  refine ok_c (j := 6) rfl (ok_cmpge (off := 13) (tg := 22) (pc := 9) rfl rfl (by decide +kernel) rfl (by decide)) ?_
  refine ok_c (j := 7) rfl (ok_iload_n (j := ⟨1, by decide⟩) (pc := 12) rfl rfl (by decide +kernel)) ?_
  refine ok_c (j := 8) rfl (ok_bipush (n := 6) (pc := 13) rfl rfl (by decide +kernel) (by decide)) ?_
  refine ok_c (j := 9) rfl (ok_cmpge (off := 7) (tg := 22) (pc := 15) rfl rfl (by decide +kernel) rfl (by decide)) ?_
  refine ok_c (j := 10) rfl (ok_iconst (n := 1) (pc := 18) rfl rfl (by decide +kernel) (by decide)) ?_
  refine ok_c (j := 11) rfl (ok_goto (off := 4) (tg := 23) (pc := 19) rfl (by decide +kernel) rfl (by decide)) ?_
  refine ok_c (j := 12) rfl (ok_iconst (n := 0) (pc := 22) rfl rfl (by decide +kernel) (by decide)) ?_
  refine ok_c (j := 13) rfl (ok_zret (pc := 23) rfl (by decide +kernel) rfl) ?_
  exact trivial
noncomputable def F_X11_isSeller := ce_fI tb_X11_isSeller 2 (some 0)
theorem ct_X11_isSeller (l : Launch) : ce_callee l yX11_isSeller 1 1 0 0 (ce_wI F_X11_isSeller) := ⟨_, _, _, ce_ctr_of (pcs := pc_X11_isSeller) (by decide +kernel) rfl (ok_X11_isSeller l ) ce_fI_run, ce_tw_at wd_529 rfl, by decide, by decide +kernel, by decide +kernel, by decide +kernel⟩
def pc_X11_comes : List Nat := [0, 1, 4, 5, 7, 10, 11, 14, 15, 18, 21, 23, 24, 25, 28, 30, 33, 35, 36, 37, 40, 41, 44, 45, 46, 47, 48, 51, 52, 53, 56, 57, 58, 61, 62, 63, 65, 66, 69, 70, 71, 73, 74, 77, 78, 79, 82, 85, 86, 87, 90, 91, 92, 95, 96, 99, 100, 101]
noncomputable def tb_X11_comes : List ce_Op := [o_iload 1, o_iflt 10, o_iload 1, o_int 6, o_cmpge 10, o_iload 2, o_iflt 10, o_iload 2, o_int 9999, o_cmple 12, o_int (-2), o_iret, o_aload 0, o_getI 0 6, o_int 6, o_cmplt 18, o_int (-4), o_iret, o_aload 0, o_getS 0 2 (fun _ => 0), o_aload 0, o_getI 0 6, o_ald 2 11 ce_k3, o_astore 3, o_aload 3, o_aload 0, o_getS 0 1 (fun _ => 0), o_iload 1, o_ald 1 10 ce_k0, o_putM 11 0 10, o_aload 3, o_iload 1, o_putI 11 1, o_aload 3, o_iload 2, o_int 10, o_div, o_putI 11 2, o_aload 3, o_iload 2, o_int 10, o_rem, o_putI 11 3, o_aload 3, o_aload 0, o_getS 0 12 (fun _ => 0), o_cv 2 F_X5_begin 0 0 0 0, o_aload 0, o_dup, o_getI 0 6, o_int 1, o_bin q_add, o_putI 0 6, o_aload 0, o_getI 0 6, o_int 1, o_bin q_sub, o_iret]
theorem tl_X11_comes : ce_TL tb_X11_comes := by
  unfold tb_X11_comes
  refine tl_c ta_iload ?_
  refine tl_c ta_iflt ?_
  refine tl_c ta_iload ?_
  refine tl_c ta_int ?_
  refine tl_c ta_cmpge ?_
  refine tl_c ta_iload ?_
  refine tl_c ta_iflt ?_
  refine tl_c ta_iload ?_
  refine tl_c ta_int ?_
  refine tl_c ta_cmple ?_
  refine tl_c ta_int ?_
  refine tl_c ta_iret ?_
  refine tl_c ta_aload ?_
  refine tl_c ta_getI ?_
  refine tl_c ta_int ?_
  refine tl_c ta_cmplt ?_
  refine tl_c ta_int ?_
  refine tl_c ta_iret ?_
  refine tl_c ta_aload ?_
  refine tl_c ta_getS ?_
  refine tl_c ta_aload ?_
  refine tl_c ta_getI ?_
  refine tl_c ta_ald ?_
  refine tl_c ta_astore ?_
  refine tl_c ta_aload ?_
  refine tl_c ta_aload ?_
  refine tl_c ta_getS ?_
  refine tl_c ta_iload ?_
  refine tl_c ta_ald ?_
  refine tl_c ta_putM ?_
  refine tl_c ta_aload ?_
  refine tl_c ta_iload ?_
  refine tl_c ta_putI ?_
  refine tl_c ta_aload ?_
  refine tl_c ta_iload ?_
  refine tl_c ta_int ?_
  refine tl_c ta_div ?_
  refine tl_c ta_putI ?_
  refine tl_c ta_aload ?_
  refine tl_c ta_iload ?_
  refine tl_c ta_int ?_
  refine tl_c ta_rem ?_
  refine tl_c ta_putI ?_
  refine tl_c ta_aload ?_
  refine tl_c ta_aload ?_
  refine tl_c ta_getS ?_
  refine tl_c ta_cv ?_
  refine tl_c ta_aload ?_
  refine tl_c ta_dup ?_
  refine tl_c ta_getI ?_
  refine tl_c ta_int ?_
  refine tl_c ta_bin ?_
  refine tl_c ta_putI ?_
  refine tl_c ta_aload ?_
  refine tl_c ta_getI ?_
  refine tl_c ta_int ?_
  refine tl_c ta_bin ?_
  refine tl_c ta_iret ?_
  exact trivial
set_option maxRecDepth 20000 in
theorem ok_X11_comes (l : Launch) : ce_OkL l cX11_comes RX11 4 (some .int) 6 0 0 pc_X11_comes 0 tb_X11_comes := by
  unfold tb_X11_comes
  refine ok_c (j := 1) rfl (ok_iload_n (j := ⟨1, by decide⟩) (pc := 0) rfl rfl (by decide +kernel)) ?_
  refine ok_c (j := 2) rfl (ok_iflt (off := 20) (tg := 21) (pc := 1) rfl rfl (by decide +kernel) rfl (by decide)) ?_
  refine ok_c (j := 3) rfl (ok_iload_n (j := ⟨1, by decide⟩) (pc := 4) rfl rfl (by decide +kernel)) ?_
  refine ok_c (j := 4) rfl (ok_bipush (n := 6) (pc := 5) rfl rfl (by decide +kernel) (by decide)) ?_
  refine ok_c (j := 5) rfl (ok_cmpge (off := 14) (tg := 21) (pc := 7) rfl rfl (by decide +kernel) rfl (by decide)) ?_
  refine ok_c (j := 6) rfl (ok_iload_n (j := ⟨2, by decide⟩) (pc := 10) rfl rfl (by decide +kernel)) ?_
  refine ok_c (j := 7) rfl (ok_iflt (off := 10) (tg := 21) (pc := 11) rfl rfl (by decide +kernel) rfl (by decide)) ?_
  refine ok_c (j := 8) rfl (ok_iload_n (j := ⟨2, by decide⟩) (pc := 14) rfl rfl (by decide +kernel)) ?_
  refine ok_c (j := 9) rfl (ok_sipush (n := 9999) (pc := 15) rfl rfl (by decide +kernel) (by decide)) ?_
  refine ok_c (j := 10) rfl (ok_cmple (off := 6) (tg := 24) (pc := 18) rfl rfl (by decide +kernel) rfl (by decide)) ?_
  refine ok_c (j := 11) rfl (ok_bipush (n := (-2)) (pc := 21) rfl rfl (by decide +kernel) (by decide)) ?_
  refine ok_c (j := 12) rfl (ok_iret (pc := 23) rfl (by decide +kernel) rfl) ?_
  refine ok_c (j := 13) rfl (ok_aload_n (j := ⟨0, by decide⟩) (pc := 24) rfl rfl (by decide +kernel)) ?_
  refine ok_c (j := 14) rfl (ok_getI (ci := 11) (C := RX11) (T := TX11) (N := 14) (ix := 40) (pc := 25) rfl rfl (by decide +kernel) rfl (fun _ => rfl) rfl cw_X11 (by decide) rfl wd_449) ?_
  refine ok_c (j := 15) rfl (ok_bipush (n := 6) (pc := 28) rfl rfl (by decide +kernel) (by decide)) ?_
  refine ok_c (j := 16) rfl (ok_cmplt (off := 6) (tg := 36) (pc := 30) rfl rfl (by decide +kernel) rfl (by decide)) ?_
  refine ok_c (j := 17) rfl (ok_bipush (n := (-4)) (pc := 33) rfl rfl (by decide +kernel) (by decide)) ?_
  refine ok_c (j := 18) rfl (ok_iret (pc := 35) rfl (by decide +kernel) rfl) ?_
  refine ok_c (j := 19) rfl (ok_aload_n (j := ⟨0, by decide⟩) (pc := 36) rfl rfl (by decide +kernel)) ?_
  refine ok_c (j := 20) rfl (ok_getS (f := 1) (ci := 11) (C := RX11) (T := TX11) (N := 14) (ix := 17) (pc := 37) rfl rfl (by decide +kernel) rfl (fun _ => rfl) rfl cw_X11 (by decide) rfl wd_444) ?_
  refine ok_c (j := 21) rfl (ok_aload_n (j := ⟨0, by decide⟩) (pc := 40) rfl rfl (by decide +kernel)) ?_
  refine ok_c (j := 22) rfl (ok_getI (ci := 11) (C := RX11) (T := TX11) (N := 14) (ix := 40) (pc := 41) rfl rfl (by decide +kernel) rfl (fun _ => rfl) rfl cw_X11 (by decide) rfl wd_449) ?_
  refine ok_c (j := 23) rfl (ok_ald (ty := .object RX5) (pc := 44) rfl rfl (by decide +kernel) rfl rfl rfl (fun _ => rfl) rfl) ?_
  refine ok_c (j := 24) rfl (ok_astore_n (j := ⟨3, by decide⟩) (pc := 45) rfl rfl (by decide +kernel) (by decide)) ?_
  refine ok_c (j := 25) rfl (ok_aload_n (j := ⟨3, by decide⟩) (pc := 46) rfl rfl (by decide +kernel)) ?_
  refine ok_c (j := 26) rfl (ok_aload_n (j := ⟨0, by decide⟩) (pc := 47) rfl rfl (by decide +kernel)) ?_
  refine ok_c (j := 27) rfl (ok_getS (f := 0) (ci := 11) (C := RX11) (T := TX11) (N := 14) (ix := 11) (pc := 48) rfl rfl (by decide +kernel) rfl (fun _ => rfl) rfl cw_X11 (by decide) rfl wd_443) ?_
  refine ok_c (j := 28) rfl (ok_iload_n (j := ⟨1, by decide⟩) (pc := 51) rfl rfl (by decide +kernel)) ?_
  refine ok_c (j := 29) rfl (ok_ald (ty := .object RX3) (pc := 52) rfl rfl (by decide +kernel) rfl rfl rfl (fun _ => rfl) rfl) ?_
  refine ok_c (j := 30) rfl (ok_putM (ci := 5) (C := RX5) (T := TX5) (N := 8) (ty := tyX5) (ix := 171) (pc := 53) rfl rfl (by decide +kernel) rfl (fun _ => rfl) rfl cw_X5 tyX5_ok nmX5 (by decide) rfl rfl rfl wd_181) ?_
  refine ok_c (j := 31) rfl (ok_aload_n (j := ⟨3, by decide⟩) (pc := 56) rfl rfl (by decide +kernel)) ?_
  refine ok_c (j := 32) rfl (ok_iload_n (j := ⟨1, by decide⟩) (pc := 57) rfl rfl (by decide +kernel)) ?_
  refine ok_c (j := 33) rfl (ok_putI (ci := 5) (C := RX5) (T := TX5) (N := 8) (ty := tyX5) (ix := 149) (pc := 58) rfl rfl (by decide +kernel) rfl (fun _ => rfl) rfl cw_X5 tyX5_ok nmX5 (by decide) rfl rfl rfl wd_183) ?_
  refine ok_c (j := 34) rfl (ok_aload_n (j := ⟨3, by decide⟩) (pc := 61) rfl rfl (by decide +kernel)) ?_
  refine ok_c (j := 35) rfl (ok_iload_n (j := ⟨2, by decide⟩) (pc := 62) rfl rfl (by decide +kernel)) ?_
  refine ok_c (j := 36) rfl (ok_bipush (n := 10) (pc := 63) rfl rfl (by decide +kernel) (by decide)) ?_
  refine ok_c (j := 37) rfl (ok_idiv (pc := 65) rfl rfl (by decide +kernel)) ?_
  refine ok_c (j := 38) rfl (ok_putI (ci := 5) (C := RX5) (T := TX5) (N := 8) (ty := tyX5) (ix := 152) (pc := 66) rfl rfl (by decide +kernel) rfl (fun _ => rfl) rfl cw_X5 tyX5_ok nmX5 (by decide) rfl rfl rfl wd_186) ?_
  refine ok_c (j := 39) rfl (ok_aload_n (j := ⟨3, by decide⟩) (pc := 69) rfl rfl (by decide +kernel)) ?_
  refine ok_c (j := 40) rfl (ok_iload_n (j := ⟨2, by decide⟩) (pc := 70) rfl rfl (by decide +kernel)) ?_
  refine ok_c (j := 41) rfl (ok_bipush (n := 10) (pc := 71) rfl rfl (by decide +kernel) (by decide)) ?_
  refine ok_c (j := 42) rfl (ok_irem (pc := 73) rfl rfl (by decide +kernel)) ?_
  refine ok_c (j := 43) rfl (ok_putI (ci := 5) (C := RX5) (T := TX5) (N := 8) (ty := tyX5) (ix := 155) (pc := 74) rfl rfl (by decide +kernel) rfl (fun _ => rfl) rfl cw_X5 tyX5_ok nmX5 (by decide) rfl rfl rfl wd_188) ?_
  refine ok_c (j := 44) rfl (ok_aload_n (j := ⟨3, by decide⟩) (pc := 77) rfl rfl (by decide +kernel)) ?_
  refine ok_c (j := 45) rfl (ok_aload_n (j := ⟨0, by decide⟩) (pc := 78) rfl rfl (by decide +kernel)) ?_
  refine ok_c (j := 46) rfl (ok_getS (f := 2) (ci := 11) (C := RX11) (T := TX11) (N := 14) (ix := 108) (pc := 79) rfl rfl (by decide +kernel) rfl (fun _ => rfl) rfl cw_X11 (by decide) rfl wd_445) ?_
  refine ok_c (j := 47) rfl (ok_virtual (y := yX5_begin) (n := 1) (d' := 5) (t := 11) (T := TX5) (N := 8) (ix := 142) is_cv (pc := 82) rfl rfl (by decide +kernel) (by decide) (ct_X5_begin l) rfl (fun _ => rfl) ce_fV_rec wd_494 wd_495 wd_496 wd_65) ?_
  refine ok_c (j := 48) rfl (ok_aload_n (j := ⟨0, by decide⟩) (pc := 85) rfl rfl (by decide +kernel)) ?_
  refine ok_c (j := 49) rfl (ok_dup (pc := 86) rfl rfl (by decide +kernel)) ?_
  refine ok_c (j := 50) rfl (ok_getI (ci := 11) (C := RX11) (T := TX11) (N := 14) (ix := 40) (pc := 87) rfl rfl (by decide +kernel) rfl (fun _ => rfl) rfl cw_X11 (by decide) rfl wd_449) ?_
  refine ok_c (j := 51) rfl (ok_iconst (n := 1) (pc := 90) rfl rfl (by decide +kernel) (by decide)) ?_
  refine ok_c (j := 52) rfl (ok_iadd (pc := 91) rfl rfl (by decide +kernel)) ?_
  refine ok_c (j := 53) rfl (ok_putI (ci := 11) (C := RX11) (T := TX11) (N := 14) (ty := tyX11) (ix := 40) (pc := 92) rfl rfl (by decide +kernel) rfl (fun _ => rfl) rfl cw_X11 tyX11_ok nmX11 (by decide) rfl rfl rfl wd_449) ?_
  refine ok_c (j := 54) rfl (ok_aload_n (j := ⟨0, by decide⟩) (pc := 95) rfl rfl (by decide +kernel)) ?_
  refine ok_c (j := 55) rfl (ok_getI (ci := 11) (C := RX11) (T := TX11) (N := 14) (ix := 40) (pc := 96) rfl rfl (by decide +kernel) rfl (fun _ => rfl) rfl cw_X11 (by decide) rfl wd_449) ?_
  refine ok_c (j := 56) rfl (ok_iconst (n := 1) (pc := 99) rfl rfl (by decide +kernel) (by decide)) ?_
  refine ok_c (j := 57) rfl (ok_isub (pc := 100) rfl rfl (by decide +kernel)) ?_
  refine ok_c (j := 58) rfl (ok_iret (pc := 101) rfl (by decide +kernel) rfl) ?_
  exact trivial
noncomputable def F_X11_comes := ce_fI tb_X11_comes 4 (some 0)
theorem ct_X11_comes (l : Launch) : ce_callee l yX11_comes 2 6 0 0 (ce_wI F_X11_comes) := ⟨_, _, _, ce_ctr_of (pcs := pc_X11_comes) (by decide +kernel) rfl (ok_X11_comes l ) ce_fI_run, ce_tw_at wd_493 rfl, by decide, by decide +kernel, by decide +kernel, by decide +kernel⟩
def pc_X11_seller : List Nat := [0, 1, 2, 3, 6]
noncomputable def tb_X11_seller : List ce_Op := [o_aload 0, o_iload 1, o_iload 2, o_ci 3 F_X11_comes 0 0 0 0, o_iret]
theorem tl_X11_seller : ce_TL tb_X11_seller := by
  unfold tb_X11_seller
  refine tl_c ta_aload ?_
  refine tl_c ta_iload ?_
  refine tl_c ta_iload ?_
  refine tl_c ta_ci ?_
  refine tl_c ta_iret ?_
  exact trivial
set_option maxRecDepth 20000 in
theorem ok_X11_seller (l : Launch) : ce_OkL l cX11_seller RX11 3 (some .int) 7 0 0 pc_X11_seller 0 tb_X11_seller := by
  unfold tb_X11_seller
  refine ok_c (j := 1) rfl (ok_aload_n (j := ⟨0, by decide⟩) (pc := 0) rfl rfl (by decide +kernel)) ?_
  refine ok_c (j := 2) rfl (ok_iload_n (j := ⟨1, by decide⟩) (pc := 1) rfl rfl (by decide +kernel)) ?_
  refine ok_c (j := 3) rfl (ok_iload_n (j := ⟨2, by decide⟩) (pc := 2) rfl rfl (by decide +kernel)) ?_
  refine ok_c (j := 4) rfl (ok_virtual (y := yX11_comes) (n := 2) (d' := 6) (t := 0) (T := TX11) (N := 14) (ix := 118) is_ci (pc := 3) rfl rfl (by decide +kernel) (by decide) (ct_X11_comes l) rfl (fun _ => rfl) ce_fI_rec wd_490 wd_492 wd_14 wd_57) ?_
  refine ok_c (j := 5) rfl (ok_iret (pc := 6) rfl (by decide +kernel) rfl) ?_
  exact trivial
noncomputable def F_X11_seller := ce_fI tb_X11_seller 3 (some 0)
theorem ct_X11_seller (l : Launch) : ce_callee l yX11_seller 2 7 0 0 (ce_wI F_X11_seller) := ⟨_, _, _, ce_ctr_of (pcs := pc_X11_seller) (by decide +kernel) rfl (ok_X11_seller l ) ce_fI_run, ce_tw_at wd_489 rfl, by decide, by decide +kernel, by decide +kernel, by decide +kernel⟩
def pc_X11_setCost : List Nat := [0, 1, 2, 5, 8, 9, 12, 13, 16, 19, 21, 22, 23, 26, 27, 28, 31, 32, 33, 36, 37, 38, 39, 42, 43, 46, 47, 48, 49, 52, 55, 56]
noncomputable def tb_X11_setCost : List ce_Op := [o_aload 0, o_iload 1, o_ci 2 F_X11_isSeller 0 0 0 0, o_ifeq 9, o_iload 2, o_iflt 9, o_iload 2, o_int 999, o_cmple 11, o_int (-2), o_iret, o_aload 0, o_getS 0 2 (fun _ => 0), o_iload 1, o_ald 2 11 ce_k3, o_getI 11 2, o_istore 3, o_aload 0, o_getS 0 2 (fun _ => 0), o_iload 1, o_ald 2 11 ce_k3, o_iload 2, o_putI 11 2, o_aload 0, o_getS 0 2 (fun _ => 0), o_iload 1, o_ald 2 11 ce_k3, o_aload 0, o_getS 0 12 (fun _ => 0), o_cv 2 F_X5_begin 0 0 0 0, o_iload 3, o_iret]
theorem tl_X11_setCost : ce_TL tb_X11_setCost := by
  unfold tb_X11_setCost
  refine tl_c ta_aload ?_
  refine tl_c ta_iload ?_
  refine tl_c ta_ci ?_
  refine tl_c ta_ifeq ?_
  refine tl_c ta_iload ?_
  refine tl_c ta_iflt ?_
  refine tl_c ta_iload ?_
  refine tl_c ta_int ?_
  refine tl_c ta_cmple ?_
  refine tl_c ta_int ?_
  refine tl_c ta_iret ?_
  refine tl_c ta_aload ?_
  refine tl_c ta_getS ?_
  refine tl_c ta_iload ?_
  refine tl_c ta_ald ?_
  refine tl_c ta_getI ?_
  refine tl_c ta_istore ?_
  refine tl_c ta_aload ?_
  refine tl_c ta_getS ?_
  refine tl_c ta_iload ?_
  refine tl_c ta_ald ?_
  refine tl_c ta_iload ?_
  refine tl_c ta_putI ?_
  refine tl_c ta_aload ?_
  refine tl_c ta_getS ?_
  refine tl_c ta_iload ?_
  refine tl_c ta_ald ?_
  refine tl_c ta_aload ?_
  refine tl_c ta_getS ?_
  refine tl_c ta_cv ?_
  refine tl_c ta_iload ?_
  refine tl_c ta_iret ?_
  exact trivial
set_option maxRecDepth 20000 in
theorem ok_X11_setCost (l : Launch) : ce_OkL l cX11_setCost RX11 4 (some .int) 6 0 0 pc_X11_setCost 0 tb_X11_setCost := by
  unfold tb_X11_setCost
  refine ok_c (j := 1) rfl (ok_aload_n (j := ⟨0, by decide⟩) (pc := 0) rfl rfl (by decide +kernel)) ?_
  refine ok_c (j := 2) rfl (ok_iload_n (j := ⟨1, by decide⟩) (pc := 1) rfl rfl (by decide +kernel)) ?_
  refine ok_c (j := 3) rfl (ok_virtual (y := yX11_isSeller) (n := 1) (d' := 1) (t := 0) (T := TX11) (N := 14) (ix := 138) is_ci (pc := 2) rfl rfl (by decide +kernel) (by decide) (ct_X11_isSeller l) rfl (fun _ => rfl) ce_fI_rec wd_526 wd_528 wd_16 wd_57) ?_
  refine ok_c (j := 4) rfl (ok_ifeq (off := 14) (tg := 19) (pc := 5) rfl rfl (by decide +kernel) rfl (by decide)) ?_
  refine ok_c (j := 5) rfl (ok_iload_n (j := ⟨2, by decide⟩) (pc := 8) rfl rfl (by decide +kernel)) ?_
  refine ok_c (j := 6) rfl (ok_iflt (off := 10) (tg := 19) (pc := 9) rfl rfl (by decide +kernel) rfl (by decide)) ?_
  refine ok_c (j := 7) rfl (ok_iload_n (j := ⟨2, by decide⟩) (pc := 12) rfl rfl (by decide +kernel)) ?_
  refine ok_c (j := 8) rfl (ok_sipush (n := 999) (pc := 13) rfl rfl (by decide +kernel) (by decide)) ?_
  refine ok_c (j := 9) rfl (ok_cmple (off := 6) (tg := 22) (pc := 16) rfl rfl (by decide +kernel) rfl (by decide)) ?_
  refine ok_c (j := 10) rfl (ok_bipush (n := (-2)) (pc := 19) rfl rfl (by decide +kernel) (by decide)) ?_
  refine ok_c (j := 11) rfl (ok_iret (pc := 21) rfl (by decide +kernel) rfl) ?_
  refine ok_c (j := 12) rfl (ok_aload_n (j := ⟨0, by decide⟩) (pc := 22) rfl rfl (by decide +kernel)) ?_
  refine ok_c (j := 13) rfl (ok_getS (f := 1) (ci := 11) (C := RX11) (T := TX11) (N := 14) (ix := 17) (pc := 23) rfl rfl (by decide +kernel) rfl (fun _ => rfl) rfl cw_X11 (by decide) rfl wd_444) ?_
  refine ok_c (j := 14) rfl (ok_iload_n (j := ⟨1, by decide⟩) (pc := 26) rfl rfl (by decide +kernel)) ?_
  refine ok_c (j := 15) rfl (ok_ald (ty := .object RX5) (pc := 27) rfl rfl (by decide +kernel) rfl rfl rfl (fun _ => rfl) rfl) ?_
  refine ok_c (j := 16) rfl (ok_getI (ci := 5) (C := RX5) (T := TX5) (N := 8) (ix := 152) (pc := 28) rfl rfl (by decide +kernel) rfl (fun _ => rfl) rfl cw_X5 (by decide) rfl wd_186) ?_
  refine ok_c (j := 17) rfl (ok_istore_n (j := ⟨3, by decide⟩) (pc := 31) rfl rfl (by decide +kernel) (by decide)) ?_
  refine ok_c (j := 18) rfl (ok_aload_n (j := ⟨0, by decide⟩) (pc := 32) rfl rfl (by decide +kernel)) ?_
  refine ok_c (j := 19) rfl (ok_getS (f := 1) (ci := 11) (C := RX11) (T := TX11) (N := 14) (ix := 17) (pc := 33) rfl rfl (by decide +kernel) rfl (fun _ => rfl) rfl cw_X11 (by decide) rfl wd_444) ?_
  refine ok_c (j := 20) rfl (ok_iload_n (j := ⟨1, by decide⟩) (pc := 36) rfl rfl (by decide +kernel)) ?_
  refine ok_c (j := 21) rfl (ok_ald (ty := .object RX5) (pc := 37) rfl rfl (by decide +kernel) rfl rfl rfl (fun _ => rfl) rfl) ?_
  refine ok_c (j := 22) rfl (ok_iload_n (j := ⟨2, by decide⟩) (pc := 38) rfl rfl (by decide +kernel)) ?_
  refine ok_c (j := 23) rfl (ok_putI (ci := 5) (C := RX5) (T := TX5) (N := 8) (ty := tyX5) (ix := 152) (pc := 39) rfl rfl (by decide +kernel) rfl (fun _ => rfl) rfl cw_X5 tyX5_ok nmX5 (by decide) rfl rfl rfl wd_186) ?_
  refine ok_c (j := 24) rfl (ok_aload_n (j := ⟨0, by decide⟩) (pc := 42) rfl rfl (by decide +kernel)) ?_
  refine ok_c (j := 25) rfl (ok_getS (f := 1) (ci := 11) (C := RX11) (T := TX11) (N := 14) (ix := 17) (pc := 43) rfl rfl (by decide +kernel) rfl (fun _ => rfl) rfl cw_X11 (by decide) rfl wd_444) ?_
  refine ok_c (j := 26) rfl (ok_iload_n (j := ⟨1, by decide⟩) (pc := 46) rfl rfl (by decide +kernel)) ?_
  refine ok_c (j := 27) rfl (ok_ald (ty := .object RX5) (pc := 47) rfl rfl (by decide +kernel) rfl rfl rfl (fun _ => rfl) rfl) ?_
  refine ok_c (j := 28) rfl (ok_aload_n (j := ⟨0, by decide⟩) (pc := 48) rfl rfl (by decide +kernel)) ?_
  refine ok_c (j := 29) rfl (ok_getS (f := 2) (ci := 11) (C := RX11) (T := TX11) (N := 14) (ix := 108) (pc := 49) rfl rfl (by decide +kernel) rfl (fun _ => rfl) rfl cw_X11 (by decide) rfl wd_445) ?_
  refine ok_c (j := 30) rfl (ok_virtual (y := yX5_begin) (n := 1) (d' := 5) (t := 11) (T := TX5) (N := 8) (ix := 142) is_cv (pc := 52) rfl rfl (by decide +kernel) (by decide) (ct_X5_begin l) rfl (fun _ => rfl) ce_fV_rec wd_494 wd_495 wd_496 wd_65) ?_
  refine ok_c (j := 31) rfl (ok_iload_n (j := ⟨3, by decide⟩) (pc := 55) rfl rfl (by decide +kernel)) ?_
  refine ok_c (j := 32) rfl (ok_iret (pc := 56) rfl (by decide +kernel) rfl) ?_
  exact trivial
noncomputable def F_X11_setCost := ce_fI tb_X11_setCost 4 (some 0)
theorem ct_X11_setCost (l : Launch) : ce_callee l yX11_setCost 2 6 0 0 (ce_wI F_X11_setCost) := ⟨_, _, _, ce_ctr_of (pcs := pc_X11_setCost) (by decide +kernel) rfl (ok_X11_setCost l ) ce_fI_run, ce_tw_at wd_525 rfl, by decide, by decide +kernel, by decide +kernel, by decide +kernel⟩
def pc_X11_set : List Nat := [0, 1, 2, 5, 6, 7, 8, 11, 12, 13, 16, 17, 18, 21, 22, 25, 26, 27, 30, 33, 35, 36, 37, 40, 41, 44, 47, 49, 50, 53, 54, 57, 60, 61, 62, 65, 66, 69, 72, 74, 75, 78, 79, 82, 85, 86, 89, 92, 94, 95, 98, 99, 102, 104]
noncomputable def tb_X11_set : List ce_Op := [o_iload 1, o_int 3, o_cmpne 8, o_aload 0, o_iload 2, o_iload 3, o_ci 3 F_X11_setCost 0 0 0 0, o_iret, o_iload 1, o_iflt 19, o_iload 1, o_int 3, o_cmpgt 19, o_iload 3, o_iflt 19, o_iload 3, o_iload 1, o_ci 1 F_X11_topOf 0 0 0 0, o_cmple 21, o_int (-2), o_iret, o_iload 1, o_ifne 32, o_aload 0, o_getS 0 12 (fun _ => 0), o_getI 12 0, o_istore 4, o_aload 0, o_getS 0 12 (fun _ => 0), o_iload 3, o_putI 12 0, o_goto 52, o_iload 1, o_int 1, o_cmpne 44, o_aload 0, o_getS 0 12 (fun _ => 0), o_getI 12 1, o_istore 4, o_aload 0, o_getS 0 12 (fun _ => 0), o_iload 3, o_putI 12 1, o_goto 52, o_aload 0, o_getS 0 12 (fun _ => 0), o_getI 12 2, o_istore 4, o_aload 0, o_getS 0 12 (fun _ => 0), o_iload 3, o_putI 12 2, o_iload 4, o_iret]
theorem tl_X11_set : ce_TL tb_X11_set := by
  unfold tb_X11_set
  refine tl_c ta_iload ?_
  refine tl_c ta_int ?_
  refine tl_c ta_cmpne ?_
  refine tl_c ta_aload ?_
  refine tl_c ta_iload ?_
  refine tl_c ta_iload ?_
  refine tl_c ta_ci ?_
  refine tl_c ta_iret ?_
  refine tl_c ta_iload ?_
  refine tl_c ta_iflt ?_
  refine tl_c ta_iload ?_
  refine tl_c ta_int ?_
  refine tl_c ta_cmpgt ?_
  refine tl_c ta_iload ?_
  refine tl_c ta_iflt ?_
  refine tl_c ta_iload ?_
  refine tl_c ta_iload ?_
  refine tl_c ta_ci ?_
  refine tl_c ta_cmple ?_
  refine tl_c ta_int ?_
  refine tl_c ta_iret ?_
  refine tl_c ta_iload ?_
  refine tl_c ta_ifne ?_
  refine tl_c ta_aload ?_
  refine tl_c ta_getS ?_
  refine tl_c ta_getI ?_
  refine tl_c ta_istore ?_
  refine tl_c ta_aload ?_
  refine tl_c ta_getS ?_
  refine tl_c ta_iload ?_
  refine tl_c ta_putI ?_
  refine tl_c ta_goto ?_
  refine tl_c ta_iload ?_
  refine tl_c ta_int ?_
  refine tl_c ta_cmpne ?_
  refine tl_c ta_aload ?_
  refine tl_c ta_getS ?_
  refine tl_c ta_getI ?_
  refine tl_c ta_istore ?_
  refine tl_c ta_aload ?_
  refine tl_c ta_getS ?_
  refine tl_c ta_iload ?_
  refine tl_c ta_putI ?_
  refine tl_c ta_goto ?_
  refine tl_c ta_aload ?_
  refine tl_c ta_getS ?_
  refine tl_c ta_getI ?_
  refine tl_c ta_istore ?_
  refine tl_c ta_aload ?_
  refine tl_c ta_getS ?_
  refine tl_c ta_iload ?_
  refine tl_c ta_putI ?_
  refine tl_c ta_iload ?_
  refine tl_c ta_iret ?_
  exact trivial
set_option maxRecDepth 20000 in
theorem ok_X11_set (l : Launch) : ce_OkL l cX11_set RX11 5 (some .int) 7 0 0 pc_X11_set 0 tb_X11_set := by
  unfold tb_X11_set
  refine ok_c (j := 1) rfl (ok_iload_n (j := ⟨1, by decide⟩) (pc := 0) rfl rfl (by decide +kernel)) ?_
  refine ok_c (j := 2) rfl (ok_iconst (n := 3) (pc := 1) rfl rfl (by decide +kernel) (by decide)) ?_
  refine ok_c (j := 3) rfl (ok_cmpne (off := 10) (tg := 12) (pc := 2) rfl rfl (by decide +kernel) rfl (by decide)) ?_
  refine ok_c (j := 4) rfl (ok_aload_n (j := ⟨0, by decide⟩) (pc := 5) rfl rfl (by decide +kernel)) ?_
  refine ok_c (j := 5) rfl (ok_iload_n (j := ⟨2, by decide⟩) (pc := 6) rfl rfl (by decide +kernel)) ?_
  refine ok_c (j := 6) rfl (ok_iload_n (j := ⟨3, by decide⟩) (pc := 7) rfl rfl (by decide +kernel)) ?_
  refine ok_c (j := 7) rfl (ok_virtual (y := yX11_setCost) (n := 2) (d' := 6) (t := 0) (T := TX11) (N := 14) (ix := 122) is_ci (pc := 8) rfl rfl (by decide +kernel) (by decide) (ct_X11_setCost l) rfl (fun _ => rfl) ce_fI_rec wd_522 wd_524 wd_15 wd_57) ?_
  refine ok_c (j := 8) rfl (ok_iret (pc := 11) rfl (by decide +kernel) rfl) ?_
  refine ok_c (j := 9) rfl (ok_iload_n (j := ⟨1, by decide⟩) (pc := 12) rfl rfl (by decide +kernel)) ?_
  refine ok_c (j := 10) rfl (ok_iflt (off := 20) (tg := 33) (pc := 13) rfl rfl (by decide +kernel) rfl (by decide)) ?_
  refine ok_c (j := 11) rfl (ok_iload_n (j := ⟨1, by decide⟩) (pc := 16) rfl rfl (by decide +kernel)) ?_
  refine ok_c (j := 12) rfl (ok_iconst (n := 3) (pc := 17) rfl rfl (by decide +kernel) (by decide)) ?_
  refine ok_c (j := 13) rfl (ok_cmpgt (off := 15) (tg := 33) (pc := 18) rfl rfl (by decide +kernel) rfl (by decide)) ?_
  refine ok_c (j := 14) rfl (ok_iload_n (j := ⟨3, by decide⟩) (pc := 21) rfl rfl (by decide +kernel)) ?_
  refine ok_c (j := 15) rfl (ok_iflt (off := 11) (tg := 33) (pc := 22) rfl rfl (by decide +kernel) rfl (by decide)) ?_
  refine ok_c (j := 16) rfl (ok_iload_n (j := ⟨3, by decide⟩) (pc := 25) rfl rfl (by decide +kernel)) ?_
  refine ok_c (j := 17) rfl (ok_iload_n (j := ⟨1, by decide⟩) (pc := 26) rfl rfl (by decide +kernel)) ?_
  refine ok_c (j := 18) rfl (ok_static (y := yX11_topOf) (n := 1) (d' := 1) (ix := 125) is_ci (pc := 27) rfl rfl (by decide +kernel) (by decide) rfl (ct_X11_topOf l) wd_530 wd_531 wd_57) ?_
  refine ok_c (j := 19) rfl (ok_cmple (off := 6) (tg := 36) (pc := 30) rfl rfl (by decide +kernel) rfl (by decide)) ?_
  refine ok_c (j := 20) rfl (ok_bipush (n := (-2)) (pc := 33) rfl rfl (by decide +kernel) (by decide)) ?_
  refine ok_c (j := 21) rfl (ok_iret (pc := 35) rfl (by decide +kernel) rfl) ?_
  refine ok_c (j := 22) rfl (ok_iload_n (j := ⟨1, by decide⟩) (pc := 36) rfl rfl (by decide +kernel)) ?_
  refine ok_c (j := 23) rfl (ok_ifne (off := 23) (tg := 60) (pc := 37) rfl rfl (by decide +kernel) rfl (by decide)) ?_
  refine ok_c (j := 24) rfl (ok_aload_n (j := ⟨0, by decide⟩) (pc := 40) rfl rfl (by decide +kernel)) ?_
  refine ok_c (j := 25) rfl (ok_getS (f := 2) (ci := 11) (C := RX11) (T := TX11) (N := 14) (ix := 108) (pc := 41) rfl rfl (by decide +kernel) rfl (fun _ => rfl) rfl cw_X11 (by decide) rfl wd_445) ?_
  refine ok_c (j := 26) rfl (ok_getI (ci := 4) (C := RX4) (T := TX4) (N := 5) (ix := 129) (pc := 44) rfl rfl (by decide +kernel) rfl (fun _ => rfl) rfl cw_X4 (by decide) rfl wd_420) ?_
  refine ok_c (j := 27) rfl (ok_istore (j := 4) (pc := 47) rfl rfl (by decide +kernel) (by decide)) ?_
  refine ok_c (j := 28) rfl (ok_aload_n (j := ⟨0, by decide⟩) (pc := 49) rfl rfl (by decide +kernel)) ?_
  refine ok_c (j := 29) rfl (ok_getS (f := 2) (ci := 11) (C := RX11) (T := TX11) (N := 14) (ix := 108) (pc := 50) rfl rfl (by decide +kernel) rfl (fun _ => rfl) rfl cw_X11 (by decide) rfl wd_445) ?_
  refine ok_c (j := 30) rfl (ok_iload_n (j := ⟨3, by decide⟩) (pc := 53) rfl rfl (by decide +kernel)) ?_
  refine ok_c (j := 31) rfl (ok_putI (ci := 4) (C := RX4) (T := TX4) (N := 5) (ty := tyX4) (ix := 129) (pc := 54) rfl rfl (by decide +kernel) rfl (fun _ => rfl) rfl cw_X4 tyX4_ok nmX4 (by decide) rfl rfl rfl wd_420) ?_
  refine ok_c (j := 32) rfl (ok_goto (off := 45) (tg := 102) (pc := 57) rfl (by decide +kernel) rfl (by decide)) ?_
  refine ok_c (j := 33) rfl (ok_iload_n (j := ⟨1, by decide⟩) (pc := 60) rfl rfl (by decide +kernel)) ?_
  refine ok_c (j := 34) rfl (ok_iconst (n := 1) (pc := 61) rfl rfl (by decide +kernel) (by decide)) ?_
  refine ok_c (j := 35) rfl (ok_cmpne (off := 23) (tg := 85) (pc := 62) rfl rfl (by decide +kernel) rfl (by decide)) ?_
  refine ok_c (j := 36) rfl (ok_aload_n (j := ⟨0, by decide⟩) (pc := 65) rfl rfl (by decide +kernel)) ?_
  refine ok_c (j := 37) rfl (ok_getS (f := 2) (ci := 11) (C := RX11) (T := TX11) (N := 14) (ix := 108) (pc := 66) rfl rfl (by decide +kernel) rfl (fun _ => rfl) rfl cw_X11 (by decide) rfl wd_445) ?_
  refine ok_c (j := 38) rfl (ok_getI (ci := 4) (C := RX4) (T := TX4) (N := 5) (ix := 132) (pc := 69) rfl rfl (by decide +kernel) rfl (fun _ => rfl) rfl cw_X4 (by decide) rfl wd_423) ?_
  refine ok_c (j := 39) rfl (ok_istore (j := 4) (pc := 72) rfl rfl (by decide +kernel) (by decide)) ?_
  refine ok_c (j := 40) rfl (ok_aload_n (j := ⟨0, by decide⟩) (pc := 74) rfl rfl (by decide +kernel)) ?_
  refine ok_c (j := 41) rfl (ok_getS (f := 2) (ci := 11) (C := RX11) (T := TX11) (N := 14) (ix := 108) (pc := 75) rfl rfl (by decide +kernel) rfl (fun _ => rfl) rfl cw_X11 (by decide) rfl wd_445) ?_
  refine ok_c (j := 42) rfl (ok_iload_n (j := ⟨3, by decide⟩) (pc := 78) rfl rfl (by decide +kernel)) ?_
  refine ok_c (j := 43) rfl (ok_putI (ci := 4) (C := RX4) (T := TX4) (N := 5) (ty := tyX4) (ix := 132) (pc := 79) rfl rfl (by decide +kernel) rfl (fun _ => rfl) rfl cw_X4 tyX4_ok nmX4 (by decide) rfl rfl rfl wd_423) ?_
  refine ok_c (j := 44) rfl (ok_goto (off := 20) (tg := 102) (pc := 82) rfl (by decide +kernel) rfl (by decide)) ?_
  refine ok_c (j := 45) rfl (ok_aload_n (j := ⟨0, by decide⟩) (pc := 85) rfl rfl (by decide +kernel)) ?_
  refine ok_c (j := 46) rfl (ok_getS (f := 2) (ci := 11) (C := RX11) (T := TX11) (N := 14) (ix := 108) (pc := 86) rfl rfl (by decide +kernel) rfl (fun _ => rfl) rfl cw_X11 (by decide) rfl wd_445) ?_
  refine ok_c (j := 47) rfl (ok_getI (ci := 4) (C := RX4) (T := TX4) (N := 5) (ix := 135) (pc := 89) rfl rfl (by decide +kernel) rfl (fun _ => rfl) rfl cw_X4 (by decide) rfl wd_426) ?_
  refine ok_c (j := 48) rfl (ok_istore (j := 4) (pc := 92) rfl rfl (by decide +kernel) (by decide)) ?_
  refine ok_c (j := 49) rfl (ok_aload_n (j := ⟨0, by decide⟩) (pc := 94) rfl rfl (by decide +kernel)) ?_
  refine ok_c (j := 50) rfl (ok_getS (f := 2) (ci := 11) (C := RX11) (T := TX11) (N := 14) (ix := 108) (pc := 95) rfl rfl (by decide +kernel) rfl (fun _ => rfl) rfl cw_X11 (by decide) rfl wd_445) ?_
  refine ok_c (j := 51) rfl (ok_iload_n (j := ⟨3, by decide⟩) (pc := 98) rfl rfl (by decide +kernel)) ?_
  refine ok_c (j := 52) rfl (ok_putI (ci := 4) (C := RX4) (T := TX4) (N := 5) (ty := tyX4) (ix := 135) (pc := 99) rfl rfl (by decide +kernel) rfl (fun _ => rfl) rfl cw_X4 tyX4_ok nmX4 (by decide) rfl rfl rfl wd_426) ?_
  refine ok_c (j := 53) rfl (ok_iload (j := 4) (pc := 102) rfl rfl (by decide +kernel)) ?_
  refine ok_c (j := 54) rfl (ok_iret (pc := 104) rfl (by decide +kernel) rfl) ?_
  exact trivial
noncomputable def F_X11_set := ce_fI tb_X11_set 5 (some 0)
theorem ct_X11_set (l : Launch) : ce_callee l yX11_set 3 7 0 0 (ce_wI F_X11_set) := ⟨_, _, _, ce_ctr_of (pcs := pc_X11_set) (by decide +kernel) rfl (ok_X11_set l ) ce_fI_run, ce_tw_at wd_521 rfl, by decide, by decide +kernel, by decide +kernel, by decide +kernel⟩
def pc_X11_anew : List Nat := [0, 1, 2, 5, 8, 10, 11, 12, 15, 16, 17, 18, 21, 24, 25, 28, 29, 30, 33]
noncomputable def tb_X11_anew : List ce_Op := [o_aload 0, o_iload 1, o_ci 2 F_X11_isSeller 0 0 0 0, o_ifne 6, o_int (-2), o_iret, o_aload 0, o_getS 0 2 (fun _ => 0), o_iload 1, o_ald 2 11 ce_k3, o_aload 0, o_getS 0 12 (fun _ => 0), o_cv 2 F_X5_begin 0 0 0 0, o_aload 0, o_getS 0 2 (fun _ => 0), o_iload 1, o_ald 2 11 ce_k3, o_getI 11 4, o_iret]
theorem tl_X11_anew : ce_TL tb_X11_anew := by
  unfold tb_X11_anew
  refine tl_c ta_aload ?_
  refine tl_c ta_iload ?_
  refine tl_c ta_ci ?_
  refine tl_c ta_ifne ?_
  refine tl_c ta_int ?_
  refine tl_c ta_iret ?_
  refine tl_c ta_aload ?_
  refine tl_c ta_getS ?_
  refine tl_c ta_iload ?_
  refine tl_c ta_ald ?_
  refine tl_c ta_aload ?_
  refine tl_c ta_getS ?_
  refine tl_c ta_cv ?_
  refine tl_c ta_aload ?_
  refine tl_c ta_getS ?_
  refine tl_c ta_iload ?_
  refine tl_c ta_ald ?_
  refine tl_c ta_getI ?_
  refine tl_c ta_iret ?_
  exact trivial
set_option maxRecDepth 20000 in
theorem ok_X11_anew (l : Launch) : ce_OkL l cX11_anew RX11 2 (some .int) 6 0 0 pc_X11_anew 0 tb_X11_anew := by
  unfold tb_X11_anew
  refine ok_c (j := 1) rfl (ok_aload_n (j := ⟨0, by decide⟩) (pc := 0) rfl rfl (by decide +kernel)) ?_
  refine ok_c (j := 2) rfl (ok_iload_n (j := ⟨1, by decide⟩) (pc := 1) rfl rfl (by decide +kernel)) ?_
  refine ok_c (j := 3) rfl (ok_virtual (y := yX11_isSeller) (n := 1) (d' := 1) (t := 0) (T := TX11) (N := 14) (ix := 138) is_ci (pc := 2) rfl rfl (by decide +kernel) (by decide) (ct_X11_isSeller l) rfl (fun _ => rfl) ce_fI_rec wd_526 wd_528 wd_16 wd_57) ?_
  refine ok_c (j := 4) rfl (ok_ifne (off := 6) (tg := 11) (pc := 5) rfl rfl (by decide +kernel) rfl (by decide)) ?_
  refine ok_c (j := 5) rfl (ok_bipush (n := (-2)) (pc := 8) rfl rfl (by decide +kernel) (by decide)) ?_
  refine ok_c (j := 6) rfl (ok_iret (pc := 10) rfl (by decide +kernel) rfl) ?_
  refine ok_c (j := 7) rfl (ok_aload_n (j := ⟨0, by decide⟩) (pc := 11) rfl rfl (by decide +kernel)) ?_
  refine ok_c (j := 8) rfl (ok_getS (f := 1) (ci := 11) (C := RX11) (T := TX11) (N := 14) (ix := 17) (pc := 12) rfl rfl (by decide +kernel) rfl (fun _ => rfl) rfl cw_X11 (by decide) rfl wd_444) ?_
  refine ok_c (j := 9) rfl (ok_iload_n (j := ⟨1, by decide⟩) (pc := 15) rfl rfl (by decide +kernel)) ?_
  refine ok_c (j := 10) rfl (ok_ald (ty := .object RX5) (pc := 16) rfl rfl (by decide +kernel) rfl rfl rfl (fun _ => rfl) rfl) ?_
  refine ok_c (j := 11) rfl (ok_aload_n (j := ⟨0, by decide⟩) (pc := 17) rfl rfl (by decide +kernel)) ?_
  refine ok_c (j := 12) rfl (ok_getS (f := 2) (ci := 11) (C := RX11) (T := TX11) (N := 14) (ix := 108) (pc := 18) rfl rfl (by decide +kernel) rfl (fun _ => rfl) rfl cw_X11 (by decide) rfl wd_445) ?_
  refine ok_c (j := 13) rfl (ok_virtual (y := yX5_begin) (n := 1) (d' := 5) (t := 11) (T := TX5) (N := 8) (ix := 142) is_cv (pc := 21) rfl rfl (by decide +kernel) (by decide) (ct_X5_begin l) rfl (fun _ => rfl) ce_fV_rec wd_494 wd_495 wd_496 wd_65) ?_
  refine ok_c (j := 14) rfl (ok_aload_n (j := ⟨0, by decide⟩) (pc := 24) rfl rfl (by decide +kernel)) ?_
  refine ok_c (j := 15) rfl (ok_getS (f := 1) (ci := 11) (C := RX11) (T := TX11) (N := 14) (ix := 17) (pc := 25) rfl rfl (by decide +kernel) rfl (fun _ => rfl) rfl cw_X11 (by decide) rfl wd_444) ?_
  refine ok_c (j := 16) rfl (ok_iload_n (j := ⟨1, by decide⟩) (pc := 28) rfl rfl (by decide +kernel)) ?_
  refine ok_c (j := 17) rfl (ok_ald (ty := .object RX5) (pc := 29) rfl rfl (by decide +kernel) rfl rfl rfl (fun _ => rfl) rfl) ?_
  refine ok_c (j := 18) rfl (ok_getI (ci := 5) (C := RX5) (T := TX5) (N := 8) (ix := 146) (pc := 30) rfl rfl (by decide +kernel) rfl (fun _ => rfl) rfl cw_X5 (by decide) rfl wd_191) ?_
  refine ok_c (j := 19) rfl (ok_iret (pc := 33) rfl (by decide +kernel) rfl) ?_
  exact trivial
noncomputable def F_X11_anew := ce_fI tb_X11_anew 2 (some 0)
theorem ct_X11_anew (l : Launch) : ce_callee l yX11_anew 1 6 0 0 (ce_wI F_X11_anew) := ⟨_, _, _, ce_ctr_of (pcs := pc_X11_anew) (by decide +kernel) rfl (ok_X11_anew l ) ce_fI_run, ce_tw_at wd_536 rfl, by decide, by decide +kernel, by decide +kernel, by decide +kernel⟩
def pc_X11_told : List Nat := [0, 1, 2, 5, 8, 10, 11, 12, 15, 16, 17, 18, 19, 68, 69, 72, 73, 74, 77, 78, 79, 82, 83, 84, 87, 88, 89, 92, 93, 94, 97, 98, 99, 102, 103, 104, 107, 108, 109, 112, 113, 114, 117, 118, 121, 124, 125, 127]
noncomputable def tb_X11_told : List ce_Op := [o_aload 0, o_iload 1, o_ci 2 F_X11_isSeller 0 0 0 0, o_ifne 6, o_int (-2), o_iret, o_aload 0, o_getS 0 2 (fun _ => 0), o_iload 1, o_ald 2 11 ce_k3, o_astore 3, o_iload 2, o_sw [(0, 13), (1, 16), (2, 19), (3, 22), (4, 25), (5, 28), (6, 31), (7, 34), (8, 40)] 46, o_aload 3, o_getI 11 1, o_iret, o_aload 3, o_getI 11 2, o_iret, o_aload 3, o_getI 11 3, o_iret, o_aload 3, o_getI 11 4, o_iret, o_aload 3, o_getI 11 5, o_iret, o_aload 3, o_getI 11 6, o_iret, o_aload 3, o_getI 11 7, o_iret, o_aload 0, o_getS 0 12 (fun _ => 0), o_aload 3, o_int 0, o_ci 3 F_X4_least 0 0 0 0, o_iret, o_aload 3, o_getM 11 0 10, o_aload 3, o_getI 11 3, o_ci 2 F_kind_stays 0 0 0 0, o_iret, o_int (-2), o_iret]
theorem tl_X11_told : ce_TL tb_X11_told := by
  unfold tb_X11_told
  refine tl_c ta_aload ?_
  refine tl_c ta_iload ?_
  refine tl_c ta_ci ?_
  refine tl_c ta_ifne ?_
  refine tl_c ta_int ?_
  refine tl_c ta_iret ?_
  refine tl_c ta_aload ?_
  refine tl_c ta_getS ?_
  refine tl_c ta_iload ?_
  refine tl_c ta_ald ?_
  refine tl_c ta_astore ?_
  refine tl_c ta_iload ?_
  refine tl_c ta_sw ?_
  refine tl_c ta_aload ?_
  refine tl_c ta_getI ?_
  refine tl_c ta_iret ?_
  refine tl_c ta_aload ?_
  refine tl_c ta_getI ?_
  refine tl_c ta_iret ?_
  refine tl_c ta_aload ?_
  refine tl_c ta_getI ?_
  refine tl_c ta_iret ?_
  refine tl_c ta_aload ?_
  refine tl_c ta_getI ?_
  refine tl_c ta_iret ?_
  refine tl_c ta_aload ?_
  refine tl_c ta_getI ?_
  refine tl_c ta_iret ?_
  refine tl_c ta_aload ?_
  refine tl_c ta_getI ?_
  refine tl_c ta_iret ?_
  refine tl_c ta_aload ?_
  refine tl_c ta_getI ?_
  refine tl_c ta_iret ?_
  refine tl_c ta_aload ?_
  refine tl_c ta_getS ?_
  refine tl_c ta_aload ?_
  refine tl_c ta_int ?_
  refine tl_c ta_ci ?_
  refine tl_c ta_iret ?_
  refine tl_c ta_aload ?_
  refine tl_c ta_getM ?_
  refine tl_c ta_aload ?_
  refine tl_c ta_getI ?_
  refine tl_c ta_ci ?_
  refine tl_c ta_iret ?_
  refine tl_c ta_int ?_
  refine tl_c ta_iret ?_
  exact trivial
set_option maxRecDepth 20000 in
theorem ok_X11_told (l : Launch) : ce_OkL l cX11_told RX11 4 (some .int) 4 0 0 pc_X11_told 0 tb_X11_told := by
  unfold tb_X11_told
  refine ok_c (j := 1) rfl (ok_aload_n (j := ⟨0, by decide⟩) (pc := 0) rfl rfl (by decide +kernel)) ?_
  refine ok_c (j := 2) rfl (ok_iload_n (j := ⟨1, by decide⟩) (pc := 1) rfl rfl (by decide +kernel)) ?_
  refine ok_c (j := 3) rfl (ok_virtual (y := yX11_isSeller) (n := 1) (d' := 1) (t := 0) (T := TX11) (N := 14) (ix := 138) is_ci (pc := 2) rfl rfl (by decide +kernel) (by decide) (ct_X11_isSeller l) rfl (fun _ => rfl) ce_fI_rec wd_526 wd_528 wd_16 wd_57) ?_
  refine ok_c (j := 4) rfl (ok_ifne (off := 6) (tg := 11) (pc := 5) rfl rfl (by decide +kernel) rfl (by decide)) ?_
  refine ok_c (j := 5) rfl (ok_bipush (n := (-2)) (pc := 8) rfl rfl (by decide +kernel) (by decide)) ?_
  refine ok_c (j := 6) rfl (ok_iret (pc := 10) rfl (by decide +kernel) rfl) ?_
  refine ok_c (j := 7) rfl (ok_aload_n (j := ⟨0, by decide⟩) (pc := 11) rfl rfl (by decide +kernel)) ?_
  refine ok_c (j := 8) rfl (ok_getS (f := 1) (ci := 11) (C := RX11) (T := TX11) (N := 14) (ix := 17) (pc := 12) rfl rfl (by decide +kernel) rfl (fun _ => rfl) rfl cw_X11 (by decide) rfl wd_444) ?_
  refine ok_c (j := 9) rfl (ok_iload_n (j := ⟨1, by decide⟩) (pc := 15) rfl rfl (by decide +kernel)) ?_
  refine ok_c (j := 10) rfl (ok_ald (ty := .object RX5) (pc := 16) rfl rfl (by decide +kernel) rfl rfl rfl (fun _ => rfl) rfl) ?_
  refine ok_c (j := 11) rfl (ok_astore_n (j := ⟨3, by decide⟩) (pc := 17) rfl rfl (by decide +kernel) (by decide)) ?_
  refine ok_c (j := 12) rfl (ok_iload_n (j := ⟨2, by decide⟩) (pc := 18) rfl rfl (by decide +kernel)) ?_
  refine ok_c (j := 13) rfl (ok_sw (lo := 0) (hi := 8) (dflt := 106) (offs := #[49, 54, 59, 64, 69, 74, 79, 84, 94]) (len := 49) (pc := 19) rfl (by decide +kernel) (by decide +kernel) (by decide) (by decide)) ?_
  refine ok_c (j := 14) rfl (ok_aload_n (j := ⟨3, by decide⟩) (pc := 68) rfl rfl (by decide +kernel)) ?_
  refine ok_c (j := 15) rfl (ok_getI (ci := 5) (C := RX5) (T := TX5) (N := 8) (ix := 149) (pc := 69) rfl rfl (by decide +kernel) rfl (fun _ => rfl) rfl cw_X5 (by decide) rfl wd_183) ?_
  refine ok_c (j := 16) rfl (ok_iret (pc := 72) rfl (by decide +kernel) rfl) ?_
  refine ok_c (j := 17) rfl (ok_aload_n (j := ⟨3, by decide⟩) (pc := 73) rfl rfl (by decide +kernel)) ?_
  refine ok_c (j := 18) rfl (ok_getI (ci := 5) (C := RX5) (T := TX5) (N := 8) (ix := 152) (pc := 74) rfl rfl (by decide +kernel) rfl (fun _ => rfl) rfl cw_X5 (by decide) rfl wd_186) ?_
  refine ok_c (j := 19) rfl (ok_iret (pc := 77) rfl (by decide +kernel) rfl) ?_
  refine ok_c (j := 20) rfl (ok_aload_n (j := ⟨3, by decide⟩) (pc := 78) rfl rfl (by decide +kernel)) ?_
  refine ok_c (j := 21) rfl (ok_getI (ci := 5) (C := RX5) (T := TX5) (N := 8) (ix := 155) (pc := 79) rfl rfl (by decide +kernel) rfl (fun _ => rfl) rfl cw_X5 (by decide) rfl wd_188) ?_
  refine ok_c (j := 22) rfl (ok_iret (pc := 82) rfl (by decide +kernel) rfl) ?_
  refine ok_c (j := 23) rfl (ok_aload_n (j := ⟨3, by decide⟩) (pc := 83) rfl rfl (by decide +kernel)) ?_
  refine ok_c (j := 24) rfl (ok_getI (ci := 5) (C := RX5) (T := TX5) (N := 8) (ix := 146) (pc := 84) rfl rfl (by decide +kernel) rfl (fun _ => rfl) rfl cw_X5 (by decide) rfl wd_191) ?_
  refine ok_c (j := 25) rfl (ok_iret (pc := 87) rfl (by decide +kernel) rfl) ?_
  refine ok_c (j := 26) rfl (ok_aload_n (j := ⟨3, by decide⟩) (pc := 88) rfl rfl (by decide +kernel)) ?_
  refine ok_c (j := 27) rfl (ok_getI (ci := 5) (C := RX5) (T := TX5) (N := 8) (ix := 158) (pc := 89) rfl rfl (by decide +kernel) rfl (fun _ => rfl) rfl cw_X5 (by decide) rfl wd_194) ?_
  refine ok_c (j := 28) rfl (ok_iret (pc := 92) rfl (by decide +kernel) rfl) ?_
  refine ok_c (j := 29) rfl (ok_aload_n (j := ⟨3, by decide⟩) (pc := 93) rfl rfl (by decide +kernel)) ?_
  refine ok_c (j := 30) rfl (ok_getI (ci := 5) (C := RX5) (T := TX5) (N := 8) (ix := 161) (pc := 94) rfl rfl (by decide +kernel) rfl (fun _ => rfl) rfl cw_X5 (by decide) rfl wd_196) ?_
  refine ok_c (j := 31) rfl (ok_iret (pc := 97) rfl (by decide +kernel) rfl) ?_
  refine ok_c (j := 32) rfl (ok_aload_n (j := ⟨3, by decide⟩) (pc := 98) rfl rfl (by decide +kernel)) ?_
  refine ok_c (j := 33) rfl (ok_getI (ci := 5) (C := RX5) (T := TX5) (N := 8) (ix := 164) (pc := 99) rfl rfl (by decide +kernel) rfl (fun _ => rfl) rfl cw_X5 (by decide) rfl wd_198) ?_
  refine ok_c (j := 34) rfl (ok_iret (pc := 102) rfl (by decide +kernel) rfl) ?_
  refine ok_c (j := 35) rfl (ok_aload_n (j := ⟨0, by decide⟩) (pc := 103) rfl rfl (by decide +kernel)) ?_
  refine ok_c (j := 36) rfl (ok_getS (f := 2) (ci := 11) (C := RX11) (T := TX11) (N := 14) (ix := 108) (pc := 104) rfl rfl (by decide +kernel) rfl (fun _ => rfl) rfl cw_X11 (by decide) rfl wd_445) ?_
  refine ok_c (j := 37) rfl (ok_aload_n (j := ⟨3, by decide⟩) (pc := 107) rfl rfl (by decide +kernel)) ?_
  refine ok_c (j := 38) rfl (ok_iconst (n := 0) (pc := 108) rfl rfl (by decide +kernel) (by decide)) ?_
  refine ok_c (j := 39) rfl (ok_virtual (y := yX4_least) (n := 2) (d' := 3) (t := 12) (T := TX4) (N := 5) (ix := 167) is_ci (pc := 109) rfl rfl (by decide +kernel) (by decide) (ct_X4_least l) rfl (fun _ => rfl) ce_fI_rec wd_541 wd_514 wd_515 wd_74) ?_
  refine ok_c (j := 40) rfl (ok_iret (pc := 112) rfl (by decide +kernel) rfl) ?_
  refine ok_c (j := 41) rfl (ok_aload_n (j := ⟨3, by decide⟩) (pc := 113) rfl rfl (by decide +kernel)) ?_
  refine ok_c (j := 42) rfl (ok_getM (ci := 5) (C := RX5) (T := TX5) (N := 8) (ix := 171) (pc := 114) rfl rfl (by decide +kernel) rfl (fun _ => rfl) rfl cw_X5 (by decide) rfl wd_181) ?_
  refine ok_c (j := 43) rfl (ok_aload_n (j := ⟨3, by decide⟩) (pc := 117) rfl rfl (by decide +kernel)) ?_
  refine ok_c (j := 44) rfl (ok_getI (ci := 5) (C := RX5) (T := TX5) (N := 8) (ix := 155) (pc := 118) rfl rfl (by decide +kernel) rfl (fun _ => rfl) rfl cw_X5 (by decide) rfl wd_188) ?_
  refine ok_c (j := 45) rfl (ok_kind (x := yX3_stays) (n := 1) (ix := 175) is_ci (pc := 121) rfl rfl (by decide +kernel) (by decide) kd_stays_rec rfl (by decide +kernel) (kd_stays l) wd_542 wd_545 wd_543 wd_563) ?_
  refine ok_c (j := 46) rfl (ok_iret (pc := 124) rfl (by decide +kernel) rfl) ?_
  refine ok_c (j := 47) rfl (ok_bipush (n := (-2)) (pc := 125) rfl rfl (by decide +kernel) (by decide)) ?_
  refine ok_c (j := 48) rfl (ok_iret (pc := 127) rfl (by decide +kernel) rfl) ?_
  exact trivial
noncomputable def F_X11_told := ce_fI tb_X11_told 4 (some 0)
theorem ct_X11_told (l : Launch) : ce_callee l yX11_told 2 4 0 0 (ce_wI F_X11_told) := ⟨_, _, _, ce_ctr_of (pcs := pc_X11_told) (by decide +kernel) rfl (ok_X11_told l ) ce_fI_run, ce_tw_at wd_540 rfl, by decide, by decide +kernel, by decide +kernel, by decide +kernel⟩
def pc_X11_feed : List Nat := [0, 1, 4, 5, 8, 11, 13, 14, 15, 18, 21, 24, 27, 29, 30, 31, 34, 35, 38, 39, 42, 45]
noncomputable def tb_X11_feed : List ce_Op := [o_iload 1, o_iflt 5, o_iload 1, o_int 255, o_cmple 7, o_int (-2), o_iret, o_aload 0, o_getS 0 7 (fun _ => 0), o_getI 7 0, o_int 160, o_cmplt 14, o_int (-4), o_iret, o_aload 0, o_getS 0 7 (fun _ => 0), o_iload 1, o_cv 2 F_X9_add 0 0 0 0, o_aload 0, o_getS 0 7 (fun _ => 0), o_getI 7 0, o_iret]
theorem tl_X11_feed : ce_TL tb_X11_feed := by
  unfold tb_X11_feed
  refine tl_c ta_iload ?_
  refine tl_c ta_iflt ?_
  refine tl_c ta_iload ?_
  refine tl_c ta_int ?_
  refine tl_c ta_cmple ?_
  refine tl_c ta_int ?_
  refine tl_c ta_iret ?_
  refine tl_c ta_aload ?_
  refine tl_c ta_getS ?_
  refine tl_c ta_getI ?_
  refine tl_c ta_int ?_
  refine tl_c ta_cmplt ?_
  refine tl_c ta_int ?_
  refine tl_c ta_iret ?_
  refine tl_c ta_aload ?_
  refine tl_c ta_getS ?_
  refine tl_c ta_iload ?_
  refine tl_c ta_cv ?_
  refine tl_c ta_aload ?_
  refine tl_c ta_getS ?_
  refine tl_c ta_getI ?_
  refine tl_c ta_iret ?_
  exact trivial
set_option maxRecDepth 20000 in
theorem ok_X11_feed (l : Launch) : ce_OkL l cX11_feed RX11 2 (some .int) 2 0 0 pc_X11_feed 0 tb_X11_feed := by
  unfold tb_X11_feed
  refine ok_c (j := 1) rfl (ok_iload_n (j := ⟨1, by decide⟩) (pc := 0) rfl rfl (by decide +kernel)) ?_
  refine ok_c (j := 2) rfl (ok_iflt (off := 10) (tg := 11) (pc := 1) rfl rfl (by decide +kernel) rfl (by decide)) ?_
  refine ok_c (j := 3) rfl (ok_iload_n (j := ⟨1, by decide⟩) (pc := 4) rfl rfl (by decide +kernel)) ?_
  refine ok_c (j := 4) rfl (ok_sipush (n := 255) (pc := 5) rfl rfl (by decide +kernel) (by decide)) ?_
  refine ok_c (j := 5) rfl (ok_cmple (off := 6) (tg := 14) (pc := 8) rfl rfl (by decide +kernel) rfl (by decide)) ?_
  refine ok_c (j := 6) rfl (ok_bipush (n := (-2)) (pc := 11) rfl rfl (by decide +kernel) (by decide)) ?_
  refine ok_c (j := 7) rfl (ok_iret (pc := 13) rfl (by decide +kernel) rfl) ?_
  refine ok_c (j := 8) rfl (ok_aload_n (j := ⟨0, by decide⟩) (pc := 14) rfl rfl (by decide +kernel)) ?_
  refine ok_c (j := 9) rfl (ok_getS (f := 4) (ci := 11) (C := RX11) (T := TX11) (N := 14) (ix := 30) (pc := 15) rfl rfl (by decide +kernel) rfl (fun _ => rfl) rfl cw_X11 (by decide) rfl wd_447) ?_
  refine ok_c (j := 10) rfl (ok_getI (ci := 9) (C := RX9) (T := TX9) (N := 11) (ix := 178) (pc := 18) rfl rfl (by decide +kernel) rfl (fun _ => rfl) rfl cw_X9 (by decide) rfl wd_97) ?_
  refine ok_c (j := 11) rfl (ok_sipush (n := 160) (pc := 21) rfl rfl (by decide +kernel) (by decide)) ?_
  refine ok_c (j := 12) rfl (ok_cmplt (off := 6) (tg := 30) (pc := 24) rfl rfl (by decide +kernel) rfl (by decide)) ?_
  refine ok_c (j := 13) rfl (ok_bipush (n := (-4)) (pc := 27) rfl rfl (by decide +kernel) (by decide)) ?_
  refine ok_c (j := 14) rfl (ok_iret (pc := 29) rfl (by decide +kernel) rfl) ?_
  refine ok_c (j := 15) rfl (ok_aload_n (j := ⟨0, by decide⟩) (pc := 30) rfl rfl (by decide +kernel)) ?_
  refine ok_c (j := 16) rfl (ok_getS (f := 4) (ci := 11) (C := RX11) (T := TX11) (N := 14) (ix := 30) (pc := 31) rfl rfl (by decide +kernel) rfl (fun _ => rfl) rfl cw_X11 (by decide) rfl wd_447) ?_
  refine ok_c (j := 17) rfl (ok_iload_n (j := ⟨1, by decide⟩) (pc := 34) rfl rfl (by decide +kernel)) ?_
  refine ok_c (j := 18) rfl (ok_virtual (y := yX9_add) (n := 1) (d' := 1) (t := 7) (T := TX9) (N := 11) (ix := 92) is_cv (pc := 35) rfl rfl (by decide +kernel) (by decide) (ct_X9_add l) rfl (fun _ => rfl) ce_fV_rec wd_283 wd_284 wd_285 wd_58) ?_
  refine ok_c (j := 19) rfl (ok_aload_n (j := ⟨0, by decide⟩) (pc := 38) rfl rfl (by decide +kernel)) ?_
  refine ok_c (j := 20) rfl (ok_getS (f := 4) (ci := 11) (C := RX11) (T := TX11) (N := 14) (ix := 30) (pc := 39) rfl rfl (by decide +kernel) rfl (fun _ => rfl) rfl cw_X11 (by decide) rfl wd_447) ?_
  refine ok_c (j := 21) rfl (ok_getI (ci := 9) (C := RX9) (T := TX9) (N := 11) (ix := 178) (pc := 42) rfl rfl (by decide +kernel) rfl (fun _ => rfl) rfl cw_X9 (by decide) rfl wd_97) ?_
  refine ok_c (j := 22) rfl (ok_iret (pc := 45) rfl (by decide +kernel) rfl) ?_
  exact trivial
noncomputable def F_X11_feed := ce_fI tb_X11_feed 2 (some 0)
theorem ct_X11_feed (l : Launch) : ce_callee l yX11_feed 1 2 0 0 (ce_wI F_X11_feed) := ⟨_, _, _, ce_ctr_of (pcs := pc_X11_feed) (by decide +kernel) rfl (ok_X11_feed l ) ce_fI_run, ce_tw_at wd_567 rfl, by decide, by decide +kernel, by decide +kernel, by decide +kernel⟩
def pc_X11_force : List Nat := [0, 1, 4, 5, 6, 9, 12, 14, 15, 16, 19, 22, 23, 24, 27, 28, 31, 32, 35, 36, 39, 40, 41, 44, 45]
noncomputable def tb_X11_force : List ce_Op := [o_iload 1, o_iflt 6, o_iload 1, o_aload 0, o_getI 0 7, o_cmplt 8, o_int (-2), o_iret, o_aload 0, o_getS 0 12 (fun _ => 0), o_getI 12 3, o_istore 2, o_aload 0, o_getS 0 12 (fun _ => 0), o_iload 1, o_putI 12 3, o_aload 0, o_getS 0 12 (fun _ => 0), o_aload 0, o_getS 0 5 (fun _ => 0), o_iload 1, o_aldQ, o_putM 12 4 13, o_iload 2, o_iret]
theorem tl_X11_force : ce_TL tb_X11_force := by
  unfold tb_X11_force
  refine tl_c ta_iload ?_
  refine tl_c ta_iflt ?_
  refine tl_c ta_iload ?_
  refine tl_c ta_aload ?_
  refine tl_c ta_getI ?_
  refine tl_c ta_cmplt ?_
  refine tl_c ta_int ?_
  refine tl_c ta_iret ?_
  refine tl_c ta_aload ?_
  refine tl_c ta_getS ?_
  refine tl_c ta_getI ?_
  refine tl_c ta_istore ?_
  refine tl_c ta_aload ?_
  refine tl_c ta_getS ?_
  refine tl_c ta_iload ?_
  refine tl_c ta_putI ?_
  refine tl_c ta_aload ?_
  refine tl_c ta_getS ?_
  refine tl_c ta_aload ?_
  refine tl_c ta_getS ?_
  refine tl_c ta_iload ?_
  refine tl_c ta_aldQ ?_
  refine tl_c ta_putM ?_
  refine tl_c ta_iload ?_
  refine tl_c ta_iret ?_
  exact trivial
set_option maxRecDepth 20000 in
theorem ok_X11_force (l : Launch) : ce_OkL l cX11_force RX11 3 (some .int) 1 0 0 pc_X11_force 0 tb_X11_force := by
  unfold tb_X11_force
  refine ok_c (j := 1) rfl (ok_iload_n (j := ⟨1, by decide⟩) (pc := 0) rfl rfl (by decide +kernel)) ?_
  refine ok_c (j := 2) rfl (ok_iflt (off := 11) (tg := 12) (pc := 1) rfl rfl (by decide +kernel) rfl (by decide)) ?_
  refine ok_c (j := 3) rfl (ok_iload_n (j := ⟨1, by decide⟩) (pc := 4) rfl rfl (by decide +kernel)) ?_
  refine ok_c (j := 4) rfl (ok_aload_n (j := ⟨0, by decide⟩) (pc := 5) rfl rfl (by decide +kernel)) ?_
  refine ok_c (j := 5) rfl (ok_getI (ci := 11) (C := RX11) (T := TX11) (N := 14) (ix := 44) (pc := 6) rfl rfl (by decide +kernel) rfl (fun _ => rfl) rfl cw_X11 (by decide) rfl wd_450) ?_
  refine ok_c (j := 6) rfl (ok_cmplt (off := 6) (tg := 15) (pc := 9) rfl rfl (by decide +kernel) rfl (by decide)) ?_
  refine ok_c (j := 7) rfl (ok_bipush (n := (-2)) (pc := 12) rfl rfl (by decide +kernel) (by decide)) ?_
  refine ok_c (j := 8) rfl (ok_iret (pc := 14) rfl (by decide +kernel) rfl) ?_
  refine ok_c (j := 9) rfl (ok_aload_n (j := ⟨0, by decide⟩) (pc := 15) rfl rfl (by decide +kernel)) ?_
  refine ok_c (j := 10) rfl (ok_getS (f := 2) (ci := 11) (C := RX11) (T := TX11) (N := 14) (ix := 108) (pc := 16) rfl rfl (by decide +kernel) rfl (fun _ => rfl) rfl cw_X11 (by decide) rfl wd_445) ?_
  refine ok_c (j := 11) rfl (ok_getI (ci := 4) (C := RX4) (T := TX4) (N := 5) (ix := 181) (pc := 19) rfl rfl (by decide +kernel) rfl (fun _ => rfl) rfl cw_X4 (by decide) rfl wd_429) ?_
  refine ok_c (j := 12) rfl (ok_istore_n (j := ⟨2, by decide⟩) (pc := 22) rfl rfl (by decide +kernel) (by decide)) ?_
  refine ok_c (j := 13) rfl (ok_aload_n (j := ⟨0, by decide⟩) (pc := 23) rfl rfl (by decide +kernel)) ?_
  refine ok_c (j := 14) rfl (ok_getS (f := 2) (ci := 11) (C := RX11) (T := TX11) (N := 14) (ix := 108) (pc := 24) rfl rfl (by decide +kernel) rfl (fun _ => rfl) rfl cw_X11 (by decide) rfl wd_445) ?_
  refine ok_c (j := 15) rfl (ok_iload_n (j := ⟨1, by decide⟩) (pc := 27) rfl rfl (by decide +kernel)) ?_
  refine ok_c (j := 16) rfl (ok_putI (ci := 4) (C := RX4) (T := TX4) (N := 5) (ty := tyX4) (ix := 181) (pc := 28) rfl rfl (by decide +kernel) rfl (fun _ => rfl) rfl cw_X4 tyX4_ok nmX4 (by decide) rfl rfl rfl wd_429) ?_
  refine ok_c (j := 17) rfl (ok_aload_n (j := ⟨0, by decide⟩) (pc := 31) rfl rfl (by decide +kernel)) ?_
  refine ok_c (j := 18) rfl (ok_getS (f := 2) (ci := 11) (C := RX11) (T := TX11) (N := 14) (ix := 108) (pc := 32) rfl rfl (by decide +kernel) rfl (fun _ => rfl) rfl cw_X11 (by decide) rfl wd_445) ?_
  refine ok_c (j := 19) rfl (ok_aload_n (j := ⟨0, by decide⟩) (pc := 35) rfl rfl (by decide +kernel)) ?_
  refine ok_c (j := 20) rfl (ok_getS (f := 3) (ci := 11) (C := RX11) (T := TX11) (N := 14) (ix := 23) (pc := 36) rfl rfl (by decide +kernel) rfl (fun _ => rfl) rfl cw_X11 (by decide) rfl wd_446) ?_
  refine ok_c (j := 21) rfl (ok_iload_n (j := ⟨1, by decide⟩) (pc := 39) rfl rfl (by decide +kernel)) ?_
  refine ok_c (j := 22) rfl (ok_aldQ (pc := 40) rfl rfl (by decide +kernel)) ?_
  refine ok_c (j := 23) rfl (ok_putM (ci := 4) (C := RX4) (T := TX4) (N := 5) (ty := tyX4) (ix := 184) (pc := 41) rfl rfl (by decide +kernel) rfl (fun _ => rfl) rfl cw_X4 tyX4_ok nmX4 (by decide) rfl rfl rfl wd_431) ?_
  refine ok_c (j := 24) rfl (ok_iload_n (j := ⟨2, by decide⟩) (pc := 44) rfl rfl (by decide +kernel)) ?_
  refine ok_c (j := 25) rfl (ok_iret (pc := 45) rfl (by decide +kernel) rfl) ?_
  exact trivial
noncomputable def F_X11_force := ce_fI tb_X11_force 3 (some 0)
theorem ct_X11_force (l : Launch) : ce_callee l yX11_force 1 1 0 0 (ce_wI F_X11_force) := ⟨_, _, _, ce_ctr_of (pcs := pc_X11_force) (by decide +kernel) rfl (ok_X11_force l ) ce_fI_run, ce_tw_at wd_575 rfl, by decide, by decide +kernel, by decide +kernel, by decide +kernel⟩
def pc_X11_word : List Nat := [0, 1, 2, 5, 8, 9, 12, 15, 17, 18, 19, 22, 23, 24, 27, 30, 32, 33, 34, 37, 38, 39, 40, 41, 44, 47, 48, 51, 52, 53, 56]
noncomputable def tb_X11_word : List ce_Op := [o_aload 0, o_iload 1, o_ci 2 F_X11_isSeller 0 0 0 0, o_ifeq 7, o_iload 2, o_ci 1 F_X11_isBid 0 0 0 0, o_ifne 9, o_int (-2), o_iret, o_aload 0, o_getS 0 2 (fun _ => 0), o_iload 1, o_ald 2 11 ce_k3, o_getI 11 6, o_ifeq 17, o_int (-3), o_iret, o_aload 0, o_getS 0 2 (fun _ => 0), o_iload 1, o_ald 2 11 ce_k3, o_iload 2, o_aload 0, o_getS 0 12 (fun _ => 0), o_cv 3 F_X5_hear 0 0 0 0, o_aload 0, o_getS 0 2 (fun _ => 0), o_iload 1, o_ald 2 11 ce_k3, o_getI 11 6, o_iret]
theorem tl_X11_word : ce_TL tb_X11_word := by
  unfold tb_X11_word
  refine tl_c ta_aload ?_
  refine tl_c ta_iload ?_
  refine tl_c ta_ci ?_
  refine tl_c ta_ifeq ?_
  refine tl_c ta_iload ?_
  refine tl_c ta_ci ?_
  refine tl_c ta_ifne ?_
  refine tl_c ta_int ?_
  refine tl_c ta_iret ?_
  refine tl_c ta_aload ?_
  refine tl_c ta_getS ?_
  refine tl_c ta_iload ?_
  refine tl_c ta_ald ?_
  refine tl_c ta_getI ?_
  refine tl_c ta_ifeq ?_
  refine tl_c ta_int ?_
  refine tl_c ta_iret ?_
  refine tl_c ta_aload ?_
  refine tl_c ta_getS ?_
  refine tl_c ta_iload ?_
  refine tl_c ta_ald ?_
  refine tl_c ta_iload ?_
  refine tl_c ta_aload ?_
  refine tl_c ta_getS ?_
  refine tl_c ta_cv ?_
  refine tl_c ta_aload ?_
  refine tl_c ta_getS ?_
  refine tl_c ta_iload ?_
  refine tl_c ta_ald ?_
  refine tl_c ta_getI ?_
  refine tl_c ta_iret ?_
  exact trivial
set_option maxRecDepth 20000 in
theorem ok_X11_word (l : Launch) : ce_OkL l cX11_word RX11 3 (some .int) 5 0 0 pc_X11_word 0 tb_X11_word := by
  unfold tb_X11_word
  refine ok_c (j := 1) rfl (ok_aload_n (j := ⟨0, by decide⟩) (pc := 0) rfl rfl (by decide +kernel)) ?_
  refine ok_c (j := 2) rfl (ok_iload_n (j := ⟨1, by decide⟩) (pc := 1) rfl rfl (by decide +kernel)) ?_
  refine ok_c (j := 3) rfl (ok_virtual (y := yX11_isSeller) (n := 1) (d' := 1) (t := 0) (T := TX11) (N := 14) (ix := 138) is_ci (pc := 2) rfl rfl (by decide +kernel) (by decide) (ct_X11_isSeller l) rfl (fun _ => rfl) ce_fI_rec wd_526 wd_528 wd_16 wd_57) ?_
  refine ok_c (j := 4) rfl (ok_ifeq (off := 10) (tg := 15) (pc := 5) rfl rfl (by decide +kernel) rfl (by decide)) ?_
  refine ok_c (j := 5) rfl (ok_iload_n (j := ⟨2, by decide⟩) (pc := 8) rfl rfl (by decide +kernel)) ?_
  refine ok_c (j := 6) rfl (ok_static (y := yX11_isBid) (n := 1) (d' := 1) (ix := 188) is_ci (pc := 9) rfl rfl (by decide +kernel) (by decide) rfl (ct_X11_isBid l) wd_580 wd_581 wd_57) ?_
  refine ok_c (j := 7) rfl (ok_ifne (off := 6) (tg := 18) (pc := 12) rfl rfl (by decide +kernel) rfl (by decide)) ?_
  refine ok_c (j := 8) rfl (ok_bipush (n := (-2)) (pc := 15) rfl rfl (by decide +kernel) (by decide)) ?_
  refine ok_c (j := 9) rfl (ok_iret (pc := 17) rfl (by decide +kernel) rfl) ?_
  refine ok_c (j := 10) rfl (ok_aload_n (j := ⟨0, by decide⟩) (pc := 18) rfl rfl (by decide +kernel)) ?_
  refine ok_c (j := 11) rfl (ok_getS (f := 1) (ci := 11) (C := RX11) (T := TX11) (N := 14) (ix := 17) (pc := 19) rfl rfl (by decide +kernel) rfl (fun _ => rfl) rfl cw_X11 (by decide) rfl wd_444) ?_
  refine ok_c (j := 12) rfl (ok_iload_n (j := ⟨1, by decide⟩) (pc := 22) rfl rfl (by decide +kernel)) ?_
  refine ok_c (j := 13) rfl (ok_ald (ty := .object RX5) (pc := 23) rfl rfl (by decide +kernel) rfl rfl rfl (fun _ => rfl) rfl) ?_
  refine ok_c (j := 14) rfl (ok_getI (ci := 5) (C := RX5) (T := TX5) (N := 8) (ix := 161) (pc := 24) rfl rfl (by decide +kernel) rfl (fun _ => rfl) rfl cw_X5 (by decide) rfl wd_196) ?_
  refine ok_c (j := 15) rfl (ok_ifeq (off := 6) (tg := 33) (pc := 27) rfl rfl (by decide +kernel) rfl (by decide)) ?_
  refine ok_c (j := 16) rfl (ok_bipush (n := (-3)) (pc := 30) rfl rfl (by decide +kernel) (by decide)) ?_
  refine ok_c (j := 17) rfl (ok_iret (pc := 32) rfl (by decide +kernel) rfl) ?_
  refine ok_c (j := 18) rfl (ok_aload_n (j := ⟨0, by decide⟩) (pc := 33) rfl rfl (by decide +kernel)) ?_
  refine ok_c (j := 19) rfl (ok_getS (f := 1) (ci := 11) (C := RX11) (T := TX11) (N := 14) (ix := 17) (pc := 34) rfl rfl (by decide +kernel) rfl (fun _ => rfl) rfl cw_X11 (by decide) rfl wd_444) ?_
  refine ok_c (j := 20) rfl (ok_iload_n (j := ⟨1, by decide⟩) (pc := 37) rfl rfl (by decide +kernel)) ?_
  refine ok_c (j := 21) rfl (ok_ald (ty := .object RX5) (pc := 38) rfl rfl (by decide +kernel) rfl rfl rfl (fun _ => rfl) rfl) ?_
  refine ok_c (j := 22) rfl (ok_iload_n (j := ⟨2, by decide⟩) (pc := 39) rfl rfl (by decide +kernel)) ?_
  refine ok_c (j := 23) rfl (ok_aload_n (j := ⟨0, by decide⟩) (pc := 40) rfl rfl (by decide +kernel)) ?_
  refine ok_c (j := 24) rfl (ok_getS (f := 2) (ci := 11) (C := RX11) (T := TX11) (N := 14) (ix := 108) (pc := 41) rfl rfl (by decide +kernel) rfl (fun _ => rfl) rfl cw_X11 (by decide) rfl wd_445) ?_
  refine ok_c (j := 25) rfl (ok_virtual (y := yX5_hear) (n := 2) (d' := 4) (t := 11) (T := TX5) (N := 8) (ix := 191) is_cv (pc := 44) rfl rfl (by decide +kernel) (by decide) (ct_X5_hear l) rfl (fun _ => rfl) ce_fV_rec wd_583 wd_584 wd_585 wd_65) ?_
  refine ok_c (j := 26) rfl (ok_aload_n (j := ⟨0, by decide⟩) (pc := 47) rfl rfl (by decide +kernel)) ?_
  refine ok_c (j := 27) rfl (ok_getS (f := 1) (ci := 11) (C := RX11) (T := TX11) (N := 14) (ix := 17) (pc := 48) rfl rfl (by decide +kernel) rfl (fun _ => rfl) rfl cw_X11 (by decide) rfl wd_444) ?_
  refine ok_c (j := 28) rfl (ok_iload_n (j := ⟨1, by decide⟩) (pc := 51) rfl rfl (by decide +kernel)) ?_
  refine ok_c (j := 29) rfl (ok_ald (ty := .object RX5) (pc := 52) rfl rfl (by decide +kernel) rfl rfl rfl (fun _ => rfl) rfl) ?_
  refine ok_c (j := 30) rfl (ok_getI (ci := 5) (C := RX5) (T := TX5) (N := 8) (ix := 161) (pc := 53) rfl rfl (by decide +kernel) rfl (fun _ => rfl) rfl cw_X5 (by decide) rfl wd_196) ?_
  refine ok_c (j := 31) rfl (ok_iret (pc := 56) rfl (by decide +kernel) rfl) ?_
  exact trivial
noncomputable def F_X11_word := ce_fI tb_X11_word 3 (some 0)
theorem ct_X11_word (l : Launch) : ce_callee l yX11_word 2 5 0 0 (ce_wI F_X11_word) := ⟨_, _, _, ce_ctr_of (pcs := pc_X11_word) (by decide +kernel) rfl (ok_X11_word l ) ce_fI_run, ce_tw_at wd_579 rfl, by decide, by decide +kernel, by decide +kernel, by decide +kernel⟩
def pc_X11_agree : List Nat := [0, 1, 2, 5, 8, 10, 11, 12, 15, 16, 17, 20, 23, 25, 26, 27, 30, 31, 32, 33, 36, 37, 38, 41, 44, 45, 48, 49, 50, 53]
noncomputable def tb_X11_agree : List ce_Op := [o_aload 0, o_iload 1, o_ci 2 F_X11_isSeller 0 0 0 0, o_ifne 6, o_int (-2), o_iret, o_aload 0, o_getS 0 2 (fun _ => 0), o_iload 1, o_ald 2 11 ce_k3, o_getI 11 6, o_ifeq 14, o_int (-3), o_iret, o_aload 0, o_getS 0 2 (fun _ => 0), o_iload 1, o_ald 2 11 ce_k3, o_aload 0, o_getS 0 2 (fun _ => 0), o_iload 1, o_ald 2 11 ce_k3, o_getI 11 4, o_cv 2 F_X5_sellAt 0 0 0 0, o_aload 0, o_getS 0 2 (fun _ => 0), o_iload 1, o_ald 2 11 ce_k3, o_getI 11 7, o_iret]
theorem tl_X11_agree : ce_TL tb_X11_agree := by
  unfold tb_X11_agree
  refine tl_c ta_aload ?_
  refine tl_c ta_iload ?_
  refine tl_c ta_ci ?_
  refine tl_c ta_ifne ?_
  refine tl_c ta_int ?_
  refine tl_c ta_iret ?_
  refine tl_c ta_aload ?_
  refine tl_c ta_getS ?_
  refine tl_c ta_iload ?_
  refine tl_c ta_ald ?_
  refine tl_c ta_getI ?_
  refine tl_c ta_ifeq ?_
  refine tl_c ta_int ?_
  refine tl_c ta_iret ?_
  refine tl_c ta_aload ?_
  refine tl_c ta_getS ?_
  refine tl_c ta_iload ?_
  refine tl_c ta_ald ?_
  refine tl_c ta_aload ?_
  refine tl_c ta_getS ?_
  refine tl_c ta_iload ?_
  refine tl_c ta_ald ?_
  refine tl_c ta_getI ?_
  refine tl_c ta_cv ?_
  refine tl_c ta_aload ?_
  refine tl_c ta_getS ?_
  refine tl_c ta_iload ?_
  refine tl_c ta_ald ?_
  refine tl_c ta_getI ?_
  refine tl_c ta_iret ?_
  exact trivial
set_option maxRecDepth 20000 in
theorem ok_X11_agree (l : Launch) : ce_OkL l cX11_agree RX11 2 (some .int) 2 0 0 pc_X11_agree 0 tb_X11_agree := by
  unfold tb_X11_agree
  refine ok_c (j := 1) rfl (ok_aload_n (j := ⟨0, by decide⟩) (pc := 0) rfl rfl (by decide +kernel)) ?_
  refine ok_c (j := 2) rfl (ok_iload_n (j := ⟨1, by decide⟩) (pc := 1) rfl rfl (by decide +kernel)) ?_
  refine ok_c (j := 3) rfl (ok_virtual (y := yX11_isSeller) (n := 1) (d' := 1) (t := 0) (T := TX11) (N := 14) (ix := 138) is_ci (pc := 2) rfl rfl (by decide +kernel) (by decide) (ct_X11_isSeller l) rfl (fun _ => rfl) ce_fI_rec wd_526 wd_528 wd_16 wd_57) ?_
  refine ok_c (j := 4) rfl (ok_ifne (off := 6) (tg := 11) (pc := 5) rfl rfl (by decide +kernel) rfl (by decide)) ?_
  refine ok_c (j := 5) rfl (ok_bipush (n := (-2)) (pc := 8) rfl rfl (by decide +kernel) (by decide)) ?_
  refine ok_c (j := 6) rfl (ok_iret (pc := 10) rfl (by decide +kernel) rfl) ?_
  refine ok_c (j := 7) rfl (ok_aload_n (j := ⟨0, by decide⟩) (pc := 11) rfl rfl (by decide +kernel)) ?_
  refine ok_c (j := 8) rfl (ok_getS (f := 1) (ci := 11) (C := RX11) (T := TX11) (N := 14) (ix := 17) (pc := 12) rfl rfl (by decide +kernel) rfl (fun _ => rfl) rfl cw_X11 (by decide) rfl wd_444) ?_
  refine ok_c (j := 9) rfl (ok_iload_n (j := ⟨1, by decide⟩) (pc := 15) rfl rfl (by decide +kernel)) ?_
  refine ok_c (j := 10) rfl (ok_ald (ty := .object RX5) (pc := 16) rfl rfl (by decide +kernel) rfl rfl rfl (fun _ => rfl) rfl) ?_
  refine ok_c (j := 11) rfl (ok_getI (ci := 5) (C := RX5) (T := TX5) (N := 8) (ix := 161) (pc := 17) rfl rfl (by decide +kernel) rfl (fun _ => rfl) rfl cw_X5 (by decide) rfl wd_196) ?_
  refine ok_c (j := 12) rfl (ok_ifeq (off := 6) (tg := 26) (pc := 20) rfl rfl (by decide +kernel) rfl (by decide)) ?_
  refine ok_c (j := 13) rfl (ok_bipush (n := (-3)) (pc := 23) rfl rfl (by decide +kernel) (by decide)) ?_
  refine ok_c (j := 14) rfl (ok_iret (pc := 25) rfl (by decide +kernel) rfl) ?_
  refine ok_c (j := 15) rfl (ok_aload_n (j := ⟨0, by decide⟩) (pc := 26) rfl rfl (by decide +kernel)) ?_
  refine ok_c (j := 16) rfl (ok_getS (f := 1) (ci := 11) (C := RX11) (T := TX11) (N := 14) (ix := 17) (pc := 27) rfl rfl (by decide +kernel) rfl (fun _ => rfl) rfl cw_X11 (by decide) rfl wd_444) ?_
  refine ok_c (j := 17) rfl (ok_iload_n (j := ⟨1, by decide⟩) (pc := 30) rfl rfl (by decide +kernel)) ?_
  refine ok_c (j := 18) rfl (ok_ald (ty := .object RX5) (pc := 31) rfl rfl (by decide +kernel) rfl rfl rfl (fun _ => rfl) rfl) ?_
  refine ok_c (j := 19) rfl (ok_aload_n (j := ⟨0, by decide⟩) (pc := 32) rfl rfl (by decide +kernel)) ?_
  refine ok_c (j := 20) rfl (ok_getS (f := 1) (ci := 11) (C := RX11) (T := TX11) (N := 14) (ix := 17) (pc := 33) rfl rfl (by decide +kernel) rfl (fun _ => rfl) rfl cw_X11 (by decide) rfl wd_444) ?_
  refine ok_c (j := 21) rfl (ok_iload_n (j := ⟨1, by decide⟩) (pc := 36) rfl rfl (by decide +kernel)) ?_
  refine ok_c (j := 22) rfl (ok_ald (ty := .object RX5) (pc := 37) rfl rfl (by decide +kernel) rfl rfl rfl (fun _ => rfl) rfl) ?_
  refine ok_c (j := 23) rfl (ok_getI (ci := 5) (C := RX5) (T := TX5) (N := 8) (ix := 146) (pc := 38) rfl rfl (by decide +kernel) rfl (fun _ => rfl) rfl cw_X5 (by decide) rfl wd_191) ?_
  refine ok_c (j := 24) rfl (ok_virtual (y := yX5_sellAt) (n := 1) (d' := 1) (t := 11) (T := TX5) (N := 8) (ix := 195) is_cv (pc := 41) rfl rfl (by decide +kernel) (by decide) (ct_X5_sellAt l) rfl (fun _ => rfl) ce_fV_rec wd_647 wd_639 wd_640 wd_65) ?_
  refine ok_c (j := 25) rfl (ok_aload_n (j := ⟨0, by decide⟩) (pc := 44) rfl rfl (by decide +kernel)) ?_
  refine ok_c (j := 26) rfl (ok_getS (f := 1) (ci := 11) (C := RX11) (T := TX11) (N := 14) (ix := 17) (pc := 45) rfl rfl (by decide +kernel) rfl (fun _ => rfl) rfl cw_X11 (by decide) rfl wd_444) ?_
  refine ok_c (j := 27) rfl (ok_iload_n (j := ⟨1, by decide⟩) (pc := 48) rfl rfl (by decide +kernel)) ?_
  refine ok_c (j := 28) rfl (ok_ald (ty := .object RX5) (pc := 49) rfl rfl (by decide +kernel) rfl rfl rfl (fun _ => rfl) rfl) ?_
  refine ok_c (j := 29) rfl (ok_getI (ci := 5) (C := RX5) (T := TX5) (N := 8) (ix := 164) (pc := 50) rfl rfl (by decide +kernel) rfl (fun _ => rfl) rfl cw_X5 (by decide) rfl wd_198) ?_
  refine ok_c (j := 30) rfl (ok_iret (pc := 53) rfl (by decide +kernel) rfl) ?_
  exact trivial
noncomputable def F_X11_agree := ce_fI tb_X11_agree 2 (some 0)
theorem ct_X11_agree (l : Launch) : ce_callee l yX11_agree 1 2 0 0 (ce_wI F_X11_agree) := ⟨_, _, _, ce_ctr_of (pcs := pc_X11_agree) (by decide +kernel) rfl (ok_X11_agree l ) ce_fI_run, ce_tw_at wd_646 rfl, by decide, by decide +kernel, by decide +kernel, by decide +kernel⟩
def pc_X11_endByRule : List Nat := [0, 1, 4, 5, 8, 9, 10, 13, 14, 17, 18, 19, 20, 23, 26, 27, 30]
noncomputable def tb_X11_endByRule : List ce_Op := [o_aload 0, o_getS 0 11 (fun _ => 18), o_aload 0, o_getS 0 2 (fun _ => 0), o_iload 1, o_ald 2 11 ce_k3, o_cv 2 F_X5_take 0 0 0 0, o_aload 0, o_getS 0 11 (fun _ => 18), o_iload 2, o_iload 3, o_aload 0, o_getS 0 12 (fun _ => 0), o_cv 4 F_X5_goByRule 0 0 0 0, o_aload 0, o_getS 0 11 (fun _ => 18), o_aret]
theorem tl_X11_endByRule : ce_TL tb_X11_endByRule := by
  unfold tb_X11_endByRule
  refine tl_c ta_aload ?_
  refine tl_c ta_getS ?_
  refine tl_c ta_aload ?_
  refine tl_c ta_getS ?_
  refine tl_c ta_iload ?_
  refine tl_c ta_ald ?_
  refine tl_c ta_cv ?_
  refine tl_c ta_aload ?_
  refine tl_c ta_getS ?_
  refine tl_c ta_iload ?_
  refine tl_c ta_iload ?_
  refine tl_c ta_aload ?_
  refine tl_c ta_getS ?_
  refine tl_c ta_cv ?_
  refine tl_c ta_aload ?_
  refine tl_c ta_getS ?_
  refine tl_c ta_aret ?_
  exact trivial
set_option maxRecDepth 20000 in
theorem ok_X11_endByRule (l : Launch) : ce_OkL l cX11_endByRule RX11 4 (some (.object RX5)) 6 0 0 pc_X11_endByRule 0 tb_X11_endByRule := by
  unfold tb_X11_endByRule
  refine ok_c (j := 1) rfl (ok_aload_n (j := ⟨0, by decide⟩) (pc := 0) rfl rfl (by decide +kernel)) ?_
  refine ok_c (j := 2) rfl (ok_getS (f := 8) (ci := 11) (C := RX11) (T := TX11) (N := 14) (ix := 75) (pc := 1) rfl rfl (by decide +kernel) rfl (fun _ => rfl) rfl cw_X11 (by decide) rfl wd_451) ?_
  refine ok_c (j := 3) rfl (ok_aload_n (j := ⟨0, by decide⟩) (pc := 4) rfl rfl (by decide +kernel)) ?_
  refine ok_c (j := 4) rfl (ok_getS (f := 1) (ci := 11) (C := RX11) (T := TX11) (N := 14) (ix := 17) (pc := 5) rfl rfl (by decide +kernel) rfl (fun _ => rfl) rfl cw_X11 (by decide) rfl wd_444) ?_
  refine ok_c (j := 5) rfl (ok_iload_n (j := ⟨1, by decide⟩) (pc := 8) rfl rfl (by decide +kernel)) ?_
  refine ok_c (j := 6) rfl (ok_ald (ty := .object RX5) (pc := 9) rfl rfl (by decide +kernel) rfl rfl rfl (fun _ => rfl) rfl) ?_
  refine ok_c (j := 7) rfl (ok_virtual (y := yX5_take) (n := 1) (d' := 2) (t := 11) (T := TX5) (N := 8) (ix := 209) is_cv (pc := 10) rfl rfl (by decide +kernel) (by decide) (ct_X5_take l) rfl (fun _ => rfl) ce_fV_rec wd_659 wd_660 wd_661 wd_65) ?_
  refine ok_c (j := 8) rfl (ok_aload_n (j := ⟨0, by decide⟩) (pc := 13) rfl rfl (by decide +kernel)) ?_
  refine ok_c (j := 9) rfl (ok_getS (f := 8) (ci := 11) (C := RX11) (T := TX11) (N := 14) (ix := 75) (pc := 14) rfl rfl (by decide +kernel) rfl (fun _ => rfl) rfl cw_X11 (by decide) rfl wd_451) ?_
  refine ok_c (j := 10) rfl (ok_iload_n (j := ⟨2, by decide⟩) (pc := 17) rfl rfl (by decide +kernel)) ?_
  refine ok_c (j := 11) rfl (ok_iload_n (j := ⟨3, by decide⟩) (pc := 18) rfl rfl (by decide +kernel)) ?_
  refine ok_c (j := 12) rfl (ok_aload_n (j := ⟨0, by decide⟩) (pc := 19) rfl rfl (by decide +kernel)) ?_
  refine ok_c (j := 13) rfl (ok_getS (f := 2) (ci := 11) (C := RX11) (T := TX11) (N := 14) (ix := 108) (pc := 20) rfl rfl (by decide +kernel) rfl (fun _ => rfl) rfl cw_X11 (by decide) rfl wd_445) ?_
  refine ok_c (j := 14) rfl (ok_virtual (y := yX5_goByRule) (n := 3) (d' := 5) (t := 11) (T := TX5) (N := 8) (ix := 212) is_cv (pc := 23) rfl rfl (by decide +kernel) (by decide) (ct_X5_goByRule l) rfl (fun _ => rfl) ce_fV_rec wd_667 wd_668 wd_669 wd_65) ?_
  refine ok_c (j := 15) rfl (ok_aload_n (j := ⟨0, by decide⟩) (pc := 26) rfl rfl (by decide +kernel)) ?_
  refine ok_c (j := 16) rfl (ok_getS (f := 8) (ci := 11) (C := RX11) (T := TX11) (N := 14) (ix := 75) (pc := 27) rfl rfl (by decide +kernel) rfl (fun _ => rfl) rfl cw_X11 (by decide) rfl wd_451) ?_
  refine ok_c (j := 17) rfl (ok_aret (pc := 30) rfl (by decide +kernel) rfl) ?_
  exact trivial
noncomputable def F_X11_endByRule := ce_fR tb_X11_endByRule 4 (some 0) 11
theorem ct_X11_endByRule (l : Launch) : ce_callee l yX11_endByRule 3 6 0 0 (ce_wR 11 F_X11_endByRule) := ⟨_, _, _, ce_ctr_of (pcs := pc_X11_endByRule) (by decide +kernel) rfl (ok_X11_endByRule l ) ce_fR_run, ce_tw_at wd_658 rfl, by decide, by decide +kernel, by decide +kernel, by decide +kernel⟩
def pc_X11_rule : List Nat := [0, 1, 2, 5, 8, 9, 10, 13, 16, 18, 21, 23, 24, 27, 29, 30, 31, 32, 33, 34, 37, 39, 41, 44, 46, 49, 52, 54, 55, 58, 60, 63, 66, 68, 71]
noncomputable def tb_X11_rule : List ce_Op := [o_aload 0, o_iload 1, o_ci 2 F_X11_isSeller 0 0 0 0, o_ifeq 13, o_iload 2, o_iload 3, o_ci 2 F_X11_isRule 0 0 0 0, o_ifeq 13, o_iload 4, o_iflt 13, o_iload 4, o_int 2, o_cmple 15, o_int (-2), o_iret, o_aload 0, o_iload 1, o_iload 2, o_iload 3, o_cr 4 11 F_X11_endByRule 0 0 0 0, o_astore 5, o_iload 4, o_ifne 26, o_aload 5, o_getI 11 6, o_goto 34, o_iload 4, o_int 1, o_cmpne 32, o_aload 5, o_getI 11 7, o_goto 34, o_aload 5, o_getI 11 5, o_iret]
theorem tl_X11_rule : ce_TL tb_X11_rule := by
  unfold tb_X11_rule
  refine tl_c ta_aload ?_
  refine tl_c ta_iload ?_
  refine tl_c ta_ci ?_
  refine tl_c ta_ifeq ?_
  refine tl_c ta_iload ?_
  refine tl_c ta_iload ?_
  refine tl_c ta_ci ?_
  refine tl_c ta_ifeq ?_
  refine tl_c ta_iload ?_
  refine tl_c ta_iflt ?_
  refine tl_c ta_iload ?_
  refine tl_c ta_int ?_
  refine tl_c ta_cmple ?_
  refine tl_c ta_int ?_
  refine tl_c ta_iret ?_
  refine tl_c ta_aload ?_
  refine tl_c ta_iload ?_
  refine tl_c ta_iload ?_
  refine tl_c ta_iload ?_
  refine tl_c ta_cr ?_
  refine tl_c ta_astore ?_
  refine tl_c ta_iload ?_
  refine tl_c ta_ifne ?_
  refine tl_c ta_aload ?_
  refine tl_c ta_getI ?_
  refine tl_c ta_goto ?_
  refine tl_c ta_iload ?_
  refine tl_c ta_int ?_
  refine tl_c ta_cmpne ?_
  refine tl_c ta_aload ?_
  refine tl_c ta_getI ?_
  refine tl_c ta_goto ?_
  refine tl_c ta_aload ?_
  refine tl_c ta_getI ?_
  refine tl_c ta_iret ?_
  exact trivial
set_option maxRecDepth 20000 in
theorem ok_X11_rule (l : Launch) : ce_OkL l cX11_rule RX11 6 (some .int) 7 0 0 pc_X11_rule 0 tb_X11_rule := by
  unfold tb_X11_rule
  refine ok_c (j := 1) rfl (ok_aload_n (j := ⟨0, by decide⟩) (pc := 0) rfl rfl (by decide +kernel)) ?_
  refine ok_c (j := 2) rfl (ok_iload_n (j := ⟨1, by decide⟩) (pc := 1) rfl rfl (by decide +kernel)) ?_
  refine ok_c (j := 3) rfl (ok_virtual (y := yX11_isSeller) (n := 1) (d' := 1) (t := 0) (T := TX11) (N := 14) (ix := 138) is_ci (pc := 2) rfl rfl (by decide +kernel) (by decide) (ct_X11_isSeller l) rfl (fun _ => rfl) ce_fI_rec wd_526 wd_528 wd_16 wd_57) ?_
  refine ok_c (j := 4) rfl (ok_ifeq (off := 22) (tg := 27) (pc := 5) rfl rfl (by decide +kernel) rfl (by decide)) ?_
  refine ok_c (j := 5) rfl (ok_iload_n (j := ⟨2, by decide⟩) (pc := 8) rfl rfl (by decide +kernel)) ?_
  refine ok_c (j := 6) rfl (ok_iload_n (j := ⟨3, by decide⟩) (pc := 9) rfl rfl (by decide +kernel)) ?_
  refine ok_c (j := 7) rfl (ok_static (y := yX11_isRule) (n := 2) (d' := 1) (ix := 198) is_ci (pc := 10) rfl rfl (by decide +kernel) (by decide) rfl (ct_X11_isRule l) wd_652 wd_653 wd_57) ?_
  refine ok_c (j := 8) rfl (ok_ifeq (off := 14) (tg := 27) (pc := 13) rfl rfl (by decide +kernel) rfl (by decide)) ?_
  refine ok_c (j := 9) rfl (ok_iload (j := 4) (pc := 16) rfl rfl (by decide +kernel)) ?_
  refine ok_c (j := 10) rfl (ok_iflt (off := 9) (tg := 27) (pc := 18) rfl rfl (by decide +kernel) rfl (by decide)) ?_
  refine ok_c (j := 11) rfl (ok_iload (j := 4) (pc := 21) rfl rfl (by decide +kernel)) ?_
  refine ok_c (j := 12) rfl (ok_iconst (n := 2) (pc := 23) rfl rfl (by decide +kernel) (by decide)) ?_
  refine ok_c (j := 13) rfl (ok_cmple (off := 6) (tg := 30) (pc := 24) rfl rfl (by decide +kernel) rfl (by decide)) ?_
  refine ok_c (j := 14) rfl (ok_bipush (n := (-2)) (pc := 27) rfl rfl (by decide +kernel) (by decide)) ?_
  refine ok_c (j := 15) rfl (ok_iret (pc := 29) rfl (by decide +kernel) rfl) ?_
  refine ok_c (j := 16) rfl (ok_aload_n (j := ⟨0, by decide⟩) (pc := 30) rfl rfl (by decide +kernel)) ?_
  refine ok_c (j := 17) rfl (ok_iload_n (j := ⟨1, by decide⟩) (pc := 31) rfl rfl (by decide +kernel)) ?_
  refine ok_c (j := 18) rfl (ok_iload_n (j := ⟨2, by decide⟩) (pc := 32) rfl rfl (by decide +kernel)) ?_
  refine ok_c (j := 19) rfl (ok_iload_n (j := ⟨3, by decide⟩) (pc := 33) rfl rfl (by decide +kernel)) ?_
  refine ok_c (j := 20) rfl (ok_virtual (y := yX11_endByRule) (n := 3) (d' := 6) (t := 0) (T := TX11) (N := 14) (ix := 202) is_cr (pc := 34) rfl rfl (by decide +kernel) (by decide) (ct_X11_endByRule l) rfl (fun _ => rfl) ce_fR_rec wd_655 wd_657 wd_17 wd_57) ?_
  refine ok_c (j := 21) rfl (ok_astore (j := 5) (pc := 37) rfl rfl (by decide +kernel) (by decide)) ?_
  refine ok_c (j := 22) rfl (ok_iload (j := 4) (pc := 39) rfl rfl (by decide +kernel)) ?_
  refine ok_c (j := 23) rfl (ok_ifne (off := 11) (tg := 52) (pc := 41) rfl rfl (by decide +kernel) rfl (by decide)) ?_
  refine ok_c (j := 24) rfl (ok_aload (j := 5) (pc := 44) rfl rfl (by decide +kernel)) ?_
  refine ok_c (j := 25) rfl (ok_getI (ci := 5) (C := RX5) (T := TX5) (N := 8) (ix := 161) (pc := 46) rfl rfl (by decide +kernel) rfl (fun _ => rfl) rfl cw_X5 (by decide) rfl wd_196) ?_
  refine ok_c (j := 26) rfl (ok_goto (off := 22) (tg := 71) (pc := 49) rfl (by decide +kernel) rfl (by decide)) ?_
  refine ok_c (j := 27) rfl (ok_iload (j := 4) (pc := 52) rfl rfl (by decide +kernel)) ?_
  refine ok_c (j := 28) rfl (ok_iconst (n := 1) (pc := 54) rfl rfl (by decide +kernel) (by decide)) ?_
  refine ok_c (j := 29) rfl (ok_cmpne (off := 11) (tg := 66) (pc := 55) rfl rfl (by decide +kernel) rfl (by decide)) ?_
  refine ok_c (j := 30) rfl (ok_aload (j := 5) (pc := 58) rfl rfl (by decide +kernel)) ?_
  refine ok_c (j := 31) rfl (ok_getI (ci := 5) (C := RX5) (T := TX5) (N := 8) (ix := 164) (pc := 60) rfl rfl (by decide +kernel) rfl (fun _ => rfl) rfl cw_X5 (by decide) rfl wd_198) ?_
  refine ok_c (j := 32) rfl (ok_goto (off := 8) (tg := 71) (pc := 63) rfl (by decide +kernel) rfl (by decide)) ?_
  refine ok_c (j := 33) rfl (ok_aload (j := 5) (pc := 66) rfl rfl (by decide +kernel)) ?_
  refine ok_c (j := 34) rfl (ok_getI (ci := 5) (C := RX5) (T := TX5) (N := 8) (ix := 158) (pc := 68) rfl rfl (by decide +kernel) rfl (fun _ => rfl) rfl cw_X5 (by decide) rfl wd_194) ?_
  refine ok_c (j := 35) rfl (ok_iret (pc := 71) rfl (by decide +kernel) rfl) ?_
  exact trivial
noncomputable def F_X11_rule := ce_fI tb_X11_rule 6 (some 0)
theorem ct_X11_rule (l : Launch) : ce_callee l yX11_rule 4 7 0 0 (ce_wI F_X11_rule) := ⟨_, _, _, ce_ctr_of (pcs := pc_X11_rule) (by decide +kernel) rfl (ok_X11_rule l ) ce_fI_run, ce_tw_at wd_651 rfl, by decide, by decide +kernel, by decide +kernel, by decide +kernel⟩
def pc_X11_bestRule : List Nat := [0, 1, 2, 5, 8, 9, 12, 13, 14, 17, 19, 20, 21, 24, 25, 26, 29, 32, 33, 34, 35, 36, 37, 39, 40, 42, 43, 45, 47, 50, 53, 54, 56, 58, 60, 63, 64, 65, 67, 69, 72, 74, 76, 79, 80, 83, 84, 85, 88, 90, 93, 95, 98, 100, 103, 105, 108, 110, 113, 115, 118, 120, 122, 123, 125, 126, 127, 129, 132, 134, 136, 139, 141, 144, 147, 150, 153, 154, 157, 158, 161, 162, 163, 166, 168, 171, 173]
noncomputable def tb_X11_bestRule : List ce_Op := [o_aload 0, o_iload 1, o_ci 2 F_X11_isSeller 0 0 0 0, o_ifeq 9, o_iload 2, o_iflt 9, o_iload 2, o_int 2, o_cmple 11, o_int (-2), o_iret, o_aload 0, o_getS 0 2 (fun _ => 0), o_iload 1, o_ald 2 11 ce_k3, o_getI 11 6, o_ifeq 19, o_int (-1), o_iret, o_int (-1), o_istore 3, o_int (-1), o_istore 4, o_int (-1), o_istore 5, o_int 0, o_istore 6, o_iload 6, o_int 400, o_cmpgt 76, o_int 0, o_istore 7, o_iload 7, o_int 10, o_cmpgt 74, o_aload 0, o_iload 1, o_iload 6, o_iload 7, o_cr 4 11 F_X11_endByRule 0 0 0 0, o_astore 8, o_aload 8, o_getI 11 6, o_int 1, o_cmpne 72, o_iload 3, o_int (-1), o_cmpeq 60, o_aload 8, o_getI 11 7, o_iload 4, o_cmplt 60, o_aload 8, o_getI 11 7, o_iload 4, o_cmpne 72, o_aload 8, o_getI 11 5, o_iload 5, o_cmpge 72, o_int 100, o_iload 6, o_bin q_mul, o_iload 7, o_bin q_add, o_istore 3, o_aload 8, o_getI 11 7, o_istore 4, o_aload 8, o_getI 11 5, o_istore 5, o_iinc 7 1, o_goto 32, o_iinc 6 20, o_goto 27, o_iload 2, o_ifne 80, o_iload 3, o_goto 86, o_iload 2, o_int 1, o_cmpne 85, o_iload 4, o_goto 86, o_iload 5, o_iret]
theorem tl_X11_bestRule : ce_TL tb_X11_bestRule := by
  unfold tb_X11_bestRule
  refine tl_c ta_aload ?_
  refine tl_c ta_iload ?_
  refine tl_c ta_ci ?_
  refine tl_c ta_ifeq ?_
  refine tl_c ta_iload ?_
  refine tl_c ta_iflt ?_
  refine tl_c ta_iload ?_
  refine tl_c ta_int ?_
  refine tl_c ta_cmple ?_
  refine tl_c ta_int ?_
  refine tl_c ta_iret ?_
  refine tl_c ta_aload ?_
  refine tl_c ta_getS ?_
  refine tl_c ta_iload ?_
  refine tl_c ta_ald ?_
  refine tl_c ta_getI ?_
  refine tl_c ta_ifeq ?_
  refine tl_c ta_int ?_
  refine tl_c ta_iret ?_
  refine tl_c ta_int ?_
  refine tl_c ta_istore ?_
  refine tl_c ta_int ?_
  refine tl_c ta_istore ?_
  refine tl_c ta_int ?_
  refine tl_c ta_istore ?_
  refine tl_c ta_int ?_
  refine tl_c ta_istore ?_
  refine tl_c ta_iload ?_
  refine tl_c ta_int ?_
  refine tl_c ta_cmpgt ?_
  refine tl_c ta_int ?_
  refine tl_c ta_istore ?_
  refine tl_c ta_iload ?_
  refine tl_c ta_int ?_
  refine tl_c ta_cmpgt ?_
  refine tl_c ta_aload ?_
  refine tl_c ta_iload ?_
  refine tl_c ta_iload ?_
  refine tl_c ta_iload ?_
  refine tl_c ta_cr ?_
  refine tl_c ta_astore ?_
  refine tl_c ta_aload ?_
  refine tl_c ta_getI ?_
  refine tl_c ta_int ?_
  refine tl_c ta_cmpne ?_
  refine tl_c ta_iload ?_
  refine tl_c ta_int ?_
  refine tl_c ta_cmpeq ?_
  refine tl_c ta_aload ?_
  refine tl_c ta_getI ?_
  refine tl_c ta_iload ?_
  refine tl_c ta_cmplt ?_
  refine tl_c ta_aload ?_
  refine tl_c ta_getI ?_
  refine tl_c ta_iload ?_
  refine tl_c ta_cmpne ?_
  refine tl_c ta_aload ?_
  refine tl_c ta_getI ?_
  refine tl_c ta_iload ?_
  refine tl_c ta_cmpge ?_
  refine tl_c ta_int ?_
  refine tl_c ta_iload ?_
  refine tl_c ta_bin ?_
  refine tl_c ta_iload ?_
  refine tl_c ta_bin ?_
  refine tl_c ta_istore ?_
  refine tl_c ta_aload ?_
  refine tl_c ta_getI ?_
  refine tl_c ta_istore ?_
  refine tl_c ta_aload ?_
  refine tl_c ta_getI ?_
  refine tl_c ta_istore ?_
  refine tl_c ta_iinc ?_
  refine tl_c ta_goto ?_
  refine tl_c ta_iinc ?_
  refine tl_c ta_goto ?_
  refine tl_c ta_iload ?_
  refine tl_c ta_ifne ?_
  refine tl_c ta_iload ?_
  refine tl_c ta_goto ?_
  refine tl_c ta_iload ?_
  refine tl_c ta_int ?_
  refine tl_c ta_cmpne ?_
  refine tl_c ta_iload ?_
  refine tl_c ta_goto ?_
  refine tl_c ta_iload ?_
  refine tl_c ta_iret ?_
  exact trivial
set_option maxRecDepth 20000 in
theorem ok_X11_bestRule (l : Launch) : ce_OkL l cX11_bestRule RX11 9 (some .int) 7 0 0 pc_X11_bestRule 0 tb_X11_bestRule := by
  unfold tb_X11_bestRule
  refine ok_c (j := 1) rfl (ok_aload_n (j := ⟨0, by decide⟩) (pc := 0) rfl rfl (by decide +kernel)) ?_
  refine ok_c (j := 2) rfl (ok_iload_n (j := ⟨1, by decide⟩) (pc := 1) rfl rfl (by decide +kernel)) ?_
  refine ok_c (j := 3) rfl (ok_virtual (y := yX11_isSeller) (n := 1) (d' := 1) (t := 0) (T := TX11) (N := 14) (ix := 138) is_ci (pc := 2) rfl rfl (by decide +kernel) (by decide) (ct_X11_isSeller l) rfl (fun _ => rfl) ce_fI_rec wd_526 wd_528 wd_16 wd_57) ?_
  refine ok_c (j := 4) rfl (ok_ifeq (off := 12) (tg := 17) (pc := 5) rfl rfl (by decide +kernel) rfl (by decide)) ?_
  refine ok_c (j := 5) rfl (ok_iload_n (j := ⟨2, by decide⟩) (pc := 8) rfl rfl (by decide +kernel)) ?_
  refine ok_c (j := 6) rfl (ok_iflt (off := 8) (tg := 17) (pc := 9) rfl rfl (by decide +kernel) rfl (by decide)) ?_
  refine ok_c (j := 7) rfl (ok_iload_n (j := ⟨2, by decide⟩) (pc := 12) rfl rfl (by decide +kernel)) ?_
  refine ok_c (j := 8) rfl (ok_iconst (n := 2) (pc := 13) rfl rfl (by decide +kernel) (by decide)) ?_
  refine ok_c (j := 9) rfl (ok_cmple (off := 6) (tg := 20) (pc := 14) rfl rfl (by decide +kernel) rfl (by decide)) ?_
  refine ok_c (j := 10) rfl (ok_bipush (n := (-2)) (pc := 17) rfl rfl (by decide +kernel) (by decide)) ?_
  refine ok_c (j := 11) rfl (ok_iret (pc := 19) rfl (by decide +kernel) rfl) ?_
  refine ok_c (j := 12) rfl (ok_aload_n (j := ⟨0, by decide⟩) (pc := 20) rfl rfl (by decide +kernel)) ?_
  refine ok_c (j := 13) rfl (ok_getS (f := 1) (ci := 11) (C := RX11) (T := TX11) (N := 14) (ix := 17) (pc := 21) rfl rfl (by decide +kernel) rfl (fun _ => rfl) rfl cw_X11 (by decide) rfl wd_444) ?_
  refine ok_c (j := 14) rfl (ok_iload_n (j := ⟨1, by decide⟩) (pc := 24) rfl rfl (by decide +kernel)) ?_
  refine ok_c (j := 15) rfl (ok_ald (ty := .object RX5) (pc := 25) rfl rfl (by decide +kernel) rfl rfl rfl (fun _ => rfl) rfl) ?_
  refine ok_c (j := 16) rfl (ok_getI (ci := 5) (C := RX5) (T := TX5) (N := 8) (ix := 161) (pc := 26) rfl rfl (by decide +kernel) rfl (fun _ => rfl) rfl cw_X5 (by decide) rfl wd_196) ?_
  refine ok_c (j := 17) rfl (ok_ifeq (off := 5) (tg := 34) (pc := 29) rfl rfl (by decide +kernel) rfl (by decide)) ?_
  refine ok_c (j := 18) rfl (ok_iconst (n := (-1)) (pc := 32) rfl rfl (by decide +kernel) (by decide)) ?_
  refine ok_c (j := 19) rfl (ok_iret (pc := 33) rfl (by decide +kernel) rfl) ?_
  refine ok_c (j := 20) rfl (ok_iconst (n := (-1)) (pc := 34) rfl rfl (by decide +kernel) (by decide)) ?_
  refine ok_c (j := 21) rfl (ok_istore_n (j := ⟨3, by decide⟩) (pc := 35) rfl rfl (by decide +kernel) (by decide)) ?_
  refine ok_c (j := 22) rfl (ok_iconst (n := (-1)) (pc := 36) rfl rfl (by decide +kernel) (by decide)) ?_
  refine ok_c (j := 23) rfl (ok_istore (j := 4) (pc := 37) rfl rfl (by decide +kernel) (by decide)) ?_
  refine ok_c (j := 24) rfl (ok_iconst (n := (-1)) (pc := 39) rfl rfl (by decide +kernel) (by decide)) ?_
  refine ok_c (j := 25) rfl (ok_istore (j := 5) (pc := 40) rfl rfl (by decide +kernel) (by decide)) ?_
  refine ok_c (j := 26) rfl (ok_iconst (n := 0) (pc := 42) rfl rfl (by decide +kernel) (by decide)) ?_
  refine ok_c (j := 27) rfl (ok_istore (j := 6) (pc := 43) rfl rfl (by decide +kernel) (by decide)) ?_
  refine ok_c (j := 28) rfl (ok_iload (j := 6) (pc := 45) rfl rfl (by decide +kernel)) ?_
  refine ok_c (j := 29) rfl (ok_sipush (n := 400) (pc := 47) rfl rfl (by decide +kernel) (by decide)) ?_
  refine ok_c (j := 30) rfl (ok_cmpgt (off := 103) (tg := 153) (pc := 50) rfl rfl (by decide +kernel) rfl (by decide)) ?_
  refine ok_c (j := 31) rfl (ok_iconst (n := 0) (pc := 53) rfl rfl (by decide +kernel) (by decide)) ?_
  refine ok_c (j := 32) rfl (ok_istore (j := 7) (pc := 54) rfl rfl (by decide +kernel) (by decide)) ?_
  refine ok_c (j := 33) rfl (ok_iload (j := 7) (pc := 56) rfl rfl (by decide +kernel)) ?_
  refine ok_c (j := 34) rfl (ok_bipush (n := 10) (pc := 58) rfl rfl (by decide +kernel) (by decide)) ?_
  refine ok_c (j := 35) rfl (ok_cmpgt (off := 87) (tg := 147) (pc := 60) rfl rfl (by decide +kernel) rfl (by decide)) ?_
  refine ok_c (j := 36) rfl (ok_aload_n (j := ⟨0, by decide⟩) (pc := 63) rfl rfl (by decide +kernel)) ?_
  refine ok_c (j := 37) rfl (ok_iload_n (j := ⟨1, by decide⟩) (pc := 64) rfl rfl (by decide +kernel)) ?_
  refine ok_c (j := 38) rfl (ok_iload (j := 6) (pc := 65) rfl rfl (by decide +kernel)) ?_
  refine ok_c (j := 39) rfl (ok_iload (j := 7) (pc := 67) rfl rfl (by decide +kernel)) ?_
  refine ok_c (j := 40) rfl (ok_virtual (y := yX11_endByRule) (n := 3) (d' := 6) (t := 0) (T := TX11) (N := 14) (ix := 202) is_cr (pc := 69) rfl rfl (by decide +kernel) (by decide) (ct_X11_endByRule l) rfl (fun _ => rfl) ce_fR_rec wd_655 wd_657 wd_17 wd_57) ?_
  refine ok_c (j := 41) rfl (ok_astore (j := 8) (pc := 72) rfl rfl (by decide +kernel) (by decide)) ?_
  refine ok_c (j := 42) rfl (ok_aload (j := 8) (pc := 74) rfl rfl (by decide +kernel)) ?_
  refine ok_c (j := 43) rfl (ok_getI (ci := 5) (C := RX5) (T := TX5) (N := 8) (ix := 161) (pc := 76) rfl rfl (by decide +kernel) rfl (fun _ => rfl) rfl cw_X5 (by decide) rfl wd_196) ?_
  refine ok_c (j := 44) rfl (ok_iconst (n := 1) (pc := 79) rfl rfl (by decide +kernel) (by decide)) ?_
  refine ok_c (j := 45) rfl (ok_cmpne (off := 61) (tg := 141) (pc := 80) rfl rfl (by decide +kernel) rfl (by decide)) ?_
  refine ok_c (j := 46) rfl (ok_iload_n (j := ⟨3, by decide⟩) (pc := 83) rfl rfl (by decide +kernel)) ?_
  refine ok_c (j := 47) rfl (ok_iconst (n := (-1)) (pc := 84) rfl rfl (by decide +kernel) (by decide)) ?_
  refine ok_c (j := 48) rfl (ok_cmpeq (off := 33) (tg := 118) (pc := 85) rfl rfl (by decide +kernel) rfl (by decide)) ?_
  refine ok_c (j := 49) rfl (ok_aload (j := 8) (pc := 88) rfl rfl (by decide +kernel)) ?_
  refine ok_c (j := 50) rfl (ok_getI (ci := 5) (C := RX5) (T := TX5) (N := 8) (ix := 164) (pc := 90) rfl rfl (by decide +kernel) rfl (fun _ => rfl) rfl cw_X5 (by decide) rfl wd_198) ?_
  refine ok_c (j := 51) rfl (ok_iload (j := 4) (pc := 93) rfl rfl (by decide +kernel)) ?_
  refine ok_c (j := 52) rfl (ok_cmplt (off := 23) (tg := 118) (pc := 95) rfl rfl (by decide +kernel) rfl (by decide)) ?_
  refine ok_c (j := 53) rfl (ok_aload (j := 8) (pc := 98) rfl rfl (by decide +kernel)) ?_
  refine ok_c (j := 54) rfl (ok_getI (ci := 5) (C := RX5) (T := TX5) (N := 8) (ix := 164) (pc := 100) rfl rfl (by decide +kernel) rfl (fun _ => rfl) rfl cw_X5 (by decide) rfl wd_198) ?_
  refine ok_c (j := 55) rfl (ok_iload (j := 4) (pc := 103) rfl rfl (by decide +kernel)) ?_
  refine ok_c (j := 56) rfl (ok_cmpne (off := 36) (tg := 141) (pc := 105) rfl rfl (by decide +kernel) rfl (by decide)) ?_
  refine ok_c (j := 57) rfl (ok_aload (j := 8) (pc := 108) rfl rfl (by decide +kernel)) ?_
  refine ok_c (j := 58) rfl (ok_getI (ci := 5) (C := RX5) (T := TX5) (N := 8) (ix := 158) (pc := 110) rfl rfl (by decide +kernel) rfl (fun _ => rfl) rfl cw_X5 (by decide) rfl wd_194) ?_
  refine ok_c (j := 59) rfl (ok_iload (j := 5) (pc := 113) rfl rfl (by decide +kernel)) ?_
  refine ok_c (j := 60) rfl (ok_cmpge (off := 26) (tg := 141) (pc := 115) rfl rfl (by decide +kernel) rfl (by decide)) ?_
  refine ok_c (j := 61) rfl (ok_bipush (n := 100) (pc := 118) rfl rfl (by decide +kernel) (by decide)) ?_
  refine ok_c (j := 62) rfl (ok_iload (j := 6) (pc := 120) rfl rfl (by decide +kernel)) ?_
  refine ok_c (j := 63) rfl (ok_imul (pc := 122) rfl rfl (by decide +kernel)) ?_
  refine ok_c (j := 64) rfl (ok_iload (j := 7) (pc := 123) rfl rfl (by decide +kernel)) ?_
  refine ok_c (j := 65) rfl (ok_iadd (pc := 125) rfl rfl (by decide +kernel)) ?_
  refine ok_c (j := 66) rfl (ok_istore_n (j := ⟨3, by decide⟩) (pc := 126) rfl rfl (by decide +kernel) (by decide)) ?_
  refine ok_c (j := 67) rfl (ok_aload (j := 8) (pc := 127) rfl rfl (by decide +kernel)) ?_
  refine ok_c (j := 68) rfl (ok_getI (ci := 5) (C := RX5) (T := TX5) (N := 8) (ix := 164) (pc := 129) rfl rfl (by decide +kernel) rfl (fun _ => rfl) rfl cw_X5 (by decide) rfl wd_198) ?_
  refine ok_c (j := 69) rfl (ok_istore (j := 4) (pc := 132) rfl rfl (by decide +kernel) (by decide)) ?_
  refine ok_c (j := 70) rfl (ok_aload (j := 8) (pc := 134) rfl rfl (by decide +kernel)) ?_
  refine ok_c (j := 71) rfl (ok_getI (ci := 5) (C := RX5) (T := TX5) (N := 8) (ix := 158) (pc := 136) rfl rfl (by decide +kernel) rfl (fun _ => rfl) rfl cw_X5 (by decide) rfl wd_194) ?_
  refine ok_c (j := 72) rfl (ok_istore (j := 5) (pc := 139) rfl rfl (by decide +kernel) (by decide)) ?_
  refine ok_c (j := 73) rfl (ok_iinc (n := 1) (pc := 141) rfl rfl (by decide +kernel) (by decide) (by decide)) ?_
  refine ok_c (j := 74) rfl (ok_goto (off := (-88)) (tg := 56) (pc := 144) rfl (by decide +kernel) rfl (by decide)) ?_
  refine ok_c (j := 75) rfl (ok_iinc (n := 20) (pc := 147) rfl rfl (by decide +kernel) (by decide) (by decide)) ?_
  refine ok_c (j := 76) rfl (ok_goto (off := (-105)) (tg := 45) (pc := 150) rfl (by decide +kernel) rfl (by decide)) ?_
  refine ok_c (j := 77) rfl (ok_iload_n (j := ⟨2, by decide⟩) (pc := 153) rfl rfl (by decide +kernel)) ?_
  refine ok_c (j := 78) rfl (ok_ifne (off := 7) (tg := 161) (pc := 154) rfl rfl (by decide +kernel) rfl (by decide)) ?_
  refine ok_c (j := 79) rfl (ok_iload_n (j := ⟨3, by decide⟩) (pc := 157) rfl rfl (by decide +kernel)) ?_
  refine ok_c (j := 80) rfl (ok_goto (off := 15) (tg := 173) (pc := 158) rfl (by decide +kernel) rfl (by decide)) ?_
  refine ok_c (j := 81) rfl (ok_iload_n (j := ⟨2, by decide⟩) (pc := 161) rfl rfl (by decide +kernel)) ?_
  refine ok_c (j := 82) rfl (ok_iconst (n := 1) (pc := 162) rfl rfl (by decide +kernel) (by decide)) ?_
  refine ok_c (j := 83) rfl (ok_cmpne (off := 8) (tg := 171) (pc := 163) rfl rfl (by decide +kernel) rfl (by decide)) ?_
  refine ok_c (j := 84) rfl (ok_iload (j := 4) (pc := 166) rfl rfl (by decide +kernel)) ?_
  refine ok_c (j := 85) rfl (ok_goto (off := 5) (tg := 173) (pc := 168) rfl (by decide +kernel) rfl (by decide)) ?_
  refine ok_c (j := 86) rfl (ok_iload (j := 5) (pc := 171) rfl rfl (by decide +kernel)) ?_
  refine ok_c (j := 87) rfl (ok_iret (pc := 173) rfl (by decide +kernel) rfl) ?_
  exact trivial
noncomputable def F_X11_bestRule := ce_fI tb_X11_bestRule 9 (some 0)
theorem ct_X11_bestRule (l : Launch) : ce_callee l yX11_bestRule 2 7 0 0 (ce_wI F_X11_bestRule) := ⟨_, _, _, ce_ctr_of (pcs := pc_X11_bestRule) (by decide +kernel) rfl (ok_X11_bestRule l ) ce_fI_run, ce_tw_at wd_675 rfl, by decide, by decide +kernel, by decide +kernel, by decide +kernel⟩
def pc_X11_bestAt : List Nat := [0, 1, 2, 5, 8, 9, 10, 13, 16, 18, 21, 23, 24, 27, 29, 30, 31, 34, 35, 38, 41, 42, 44, 45, 47, 48, 50, 52, 54, 57, 60, 62, 65, 66, 69, 71, 74, 77, 78, 81, 83, 86, 87, 90, 91, 94, 95, 96, 99, 100, 103, 104, 107, 110, 111, 114, 115, 116, 117, 120, 123, 124, 127, 130, 131, 134, 136, 137, 140, 141, 144, 147, 149, 152, 154, 156, 157, 160, 163, 165, 168, 171, 173]
noncomputable def tb_X11_bestAt : List ce_Op := [o_aload 0, o_iload 1, o_ci 2 F_X11_isSeller 0 0 0 0, o_ifeq 13, o_iload 2, o_iload 3, o_ci 2 F_X11_isRule 0 0 0 0, o_ifeq 13, o_iload 4, o_iflt 13, o_iload 4, o_int 1, o_cmple 15, o_int (-2), o_iret, o_aload 0, o_getS 0 12 (fun _ => 1), o_aload 0, o_getS 0 12 (fun _ => 0), o_cv 2 F_X4_take 0 0 0 0, o_int (-1), o_istore 5, o_int (-1), o_istore 6, o_int 0, o_istore 7, o_iload 7, o_iload 4, o_ci 1 F_X11_topOf 0 0 0 0, o_cmpgt 81, o_iload 4, o_ifne 37, o_aload 0, o_getS 0 12 (fun _ => 1), o_iload 7, o_putI 12 0, o_goto 41, o_aload 0, o_getS 0 12 (fun _ => 1), o_iload 7, o_putI 12 1, o_aload 0, o_getS 0 11 (fun _ => 18), o_aload 0, o_getS 0 2 (fun _ => 0), o_iload 1, o_ald 2 11 ce_k3, o_cv 2 F_X5_take 0 0 0 0, o_aload 0, o_getS 0 11 (fun _ => 18), o_aload 0, o_getS 0 12 (fun _ => 1), o_cv 2 F_X5_begin 0 0 0 0, o_aload 0, o_getS 0 11 (fun _ => 18), o_iload 2, o_iload 3, o_aload 0, o_getS 0 12 (fun _ => 1), o_cv 4 F_X5_goByRule 0 0 0 0, o_aload 0, o_getS 0 11 (fun _ => 18), o_getI 11 6, o_int 1, o_cmpne 79, o_iload 5, o_int (-1), o_cmpeq 73, o_aload 0, o_getS 0 11 (fun _ => 18), o_getI 11 7, o_iload 6, o_cmpge 79, o_iload 7, o_istore 5, o_aload 0, o_getS 0 11 (fun _ => 18), o_getI 11 7, o_istore 6, o_iinc 7 1, o_goto 26, o_iload 5, o_iret]
theorem tl_X11_bestAt : ce_TL tb_X11_bestAt := by
  unfold tb_X11_bestAt
  refine tl_c ta_aload ?_
  refine tl_c ta_iload ?_
  refine tl_c ta_ci ?_
  refine tl_c ta_ifeq ?_
  refine tl_c ta_iload ?_
  refine tl_c ta_iload ?_
  refine tl_c ta_ci ?_
  refine tl_c ta_ifeq ?_
  refine tl_c ta_iload ?_
  refine tl_c ta_iflt ?_
  refine tl_c ta_iload ?_
  refine tl_c ta_int ?_
  refine tl_c ta_cmple ?_
  refine tl_c ta_int ?_
  refine tl_c ta_iret ?_
  refine tl_c ta_aload ?_
  refine tl_c ta_getS ?_
  refine tl_c ta_aload ?_
  refine tl_c ta_getS ?_
  refine tl_c ta_cv ?_
  refine tl_c ta_int ?_
  refine tl_c ta_istore ?_
  refine tl_c ta_int ?_
  refine tl_c ta_istore ?_
  refine tl_c ta_int ?_
  refine tl_c ta_istore ?_
  refine tl_c ta_iload ?_
  refine tl_c ta_iload ?_
  refine tl_c ta_ci ?_
  refine tl_c ta_cmpgt ?_
  refine tl_c ta_iload ?_
  refine tl_c ta_ifne ?_
  refine tl_c ta_aload ?_
  refine tl_c ta_getS ?_
  refine tl_c ta_iload ?_
  refine tl_c ta_putI ?_
  refine tl_c ta_goto ?_
  refine tl_c ta_aload ?_
  refine tl_c ta_getS ?_
  refine tl_c ta_iload ?_
  refine tl_c ta_putI ?_
  refine tl_c ta_aload ?_
  refine tl_c ta_getS ?_
  refine tl_c ta_aload ?_
  refine tl_c ta_getS ?_
  refine tl_c ta_iload ?_
  refine tl_c ta_ald ?_
  refine tl_c ta_cv ?_
  refine tl_c ta_aload ?_
  refine tl_c ta_getS ?_
  refine tl_c ta_aload ?_
  refine tl_c ta_getS ?_
  refine tl_c ta_cv ?_
  refine tl_c ta_aload ?_
  refine tl_c ta_getS ?_
  refine tl_c ta_iload ?_
  refine tl_c ta_iload ?_
  refine tl_c ta_aload ?_
  refine tl_c ta_getS ?_
  refine tl_c ta_cv ?_
  refine tl_c ta_aload ?_
  refine tl_c ta_getS ?_
  refine tl_c ta_getI ?_
  refine tl_c ta_int ?_
  refine tl_c ta_cmpne ?_
  refine tl_c ta_iload ?_
  refine tl_c ta_int ?_
  refine tl_c ta_cmpeq ?_
  refine tl_c ta_aload ?_
  refine tl_c ta_getS ?_
  refine tl_c ta_getI ?_
  refine tl_c ta_iload ?_
  refine tl_c ta_cmpge ?_
  refine tl_c ta_iload ?_
  refine tl_c ta_istore ?_
  refine tl_c ta_aload ?_
  refine tl_c ta_getS ?_
  refine tl_c ta_getI ?_
  refine tl_c ta_istore ?_
  refine tl_c ta_iinc ?_
  refine tl_c ta_goto ?_
  refine tl_c ta_iload ?_
  refine tl_c ta_iret ?_
  exact trivial
set_option maxRecDepth 20000 in
theorem ok_X11_bestAt (l : Launch) : ce_OkL l cX11_bestAt RX11 8 (some .int) 6 0 0 pc_X11_bestAt 0 tb_X11_bestAt := by
  unfold tb_X11_bestAt
  refine ok_c (j := 1) rfl (ok_aload_n (j := ⟨0, by decide⟩) (pc := 0) rfl rfl (by decide +kernel)) ?_
  refine ok_c (j := 2) rfl (ok_iload_n (j := ⟨1, by decide⟩) (pc := 1) rfl rfl (by decide +kernel)) ?_
  refine ok_c (j := 3) rfl (ok_virtual (y := yX11_isSeller) (n := 1) (d' := 1) (t := 0) (T := TX11) (N := 14) (ix := 138) is_ci (pc := 2) rfl rfl (by decide +kernel) (by decide) (ct_X11_isSeller l) rfl (fun _ => rfl) ce_fI_rec wd_526 wd_528 wd_16 wd_57) ?_
  refine ok_c (j := 4) rfl (ok_ifeq (off := 22) (tg := 27) (pc := 5) rfl rfl (by decide +kernel) rfl (by decide)) ?_
  refine ok_c (j := 5) rfl (ok_iload_n (j := ⟨2, by decide⟩) (pc := 8) rfl rfl (by decide +kernel)) ?_
  refine ok_c (j := 6) rfl (ok_iload_n (j := ⟨3, by decide⟩) (pc := 9) rfl rfl (by decide +kernel)) ?_
  refine ok_c (j := 7) rfl (ok_static (y := yX11_isRule) (n := 2) (d' := 1) (ix := 198) is_ci (pc := 10) rfl rfl (by decide +kernel) (by decide) rfl (ct_X11_isRule l) wd_652 wd_653 wd_57) ?_
  refine ok_c (j := 8) rfl (ok_ifeq (off := 14) (tg := 27) (pc := 13) rfl rfl (by decide +kernel) rfl (by decide)) ?_
  refine ok_c (j := 9) rfl (ok_iload (j := 4) (pc := 16) rfl rfl (by decide +kernel)) ?_
  refine ok_c (j := 10) rfl (ok_iflt (off := 9) (tg := 27) (pc := 18) rfl rfl (by decide +kernel) rfl (by decide)) ?_
  refine ok_c (j := 11) rfl (ok_iload (j := 4) (pc := 21) rfl rfl (by decide +kernel)) ?_
  refine ok_c (j := 12) rfl (ok_iconst (n := 1) (pc := 23) rfl rfl (by decide +kernel) (by decide)) ?_
  refine ok_c (j := 13) rfl (ok_cmple (off := 6) (tg := 30) (pc := 24) rfl rfl (by decide +kernel) rfl (by decide)) ?_
  refine ok_c (j := 14) rfl (ok_bipush (n := (-2)) (pc := 27) rfl rfl (by decide +kernel) (by decide)) ?_
  refine ok_c (j := 15) rfl (ok_iret (pc := 29) rfl (by decide +kernel) rfl) ?_
  refine ok_c (j := 16) rfl (ok_aload_n (j := ⟨0, by decide⟩) (pc := 30) rfl rfl (by decide +kernel)) ?_
  refine ok_c (j := 17) rfl (ok_getS (f := 10) (ci := 11) (C := RX11) (T := TX11) (N := 14) (ix := 112) (pc := 31) rfl rfl (by decide +kernel) rfl (fun _ => rfl) rfl cw_X11 (by decide) rfl wd_453) ?_
  refine ok_c (j := 18) rfl (ok_aload_n (j := ⟨0, by decide⟩) (pc := 34) rfl rfl (by decide +kernel)) ?_
  refine ok_c (j := 19) rfl (ok_getS (f := 2) (ci := 11) (C := RX11) (T := TX11) (N := 14) (ix := 108) (pc := 35) rfl rfl (by decide +kernel) rfl (fun _ => rfl) rfl cw_X11 (by decide) rfl wd_445) ?_
  refine ok_c (j := 20) rfl (ok_virtual (y := yX4_take) (n := 1) (d' := 1) (t := 12) (T := TX4) (N := 5) (ix := 206) is_cv (pc := 38) rfl rfl (by decide +kernel) (by decide) (ct_X4_take l) rfl (fun _ => rfl) ce_fV_rec wd_680 wd_681 wd_682 wd_74) ?_
  refine ok_c (j := 21) rfl (ok_iconst (n := (-1)) (pc := 41) rfl rfl (by decide +kernel) (by decide)) ?_
  refine ok_c (j := 22) rfl (ok_istore (j := 5) (pc := 42) rfl rfl (by decide +kernel) (by decide)) ?_
  refine ok_c (j := 23) rfl (ok_iconst (n := (-1)) (pc := 44) rfl rfl (by decide +kernel) (by decide)) ?_
  refine ok_c (j := 24) rfl (ok_istore (j := 6) (pc := 45) rfl rfl (by decide +kernel) (by decide)) ?_
  refine ok_c (j := 25) rfl (ok_iconst (n := 0) (pc := 47) rfl rfl (by decide +kernel) (by decide)) ?_
  refine ok_c (j := 26) rfl (ok_istore (j := 7) (pc := 48) rfl rfl (by decide +kernel) (by decide)) ?_
  refine ok_c (j := 27) rfl (ok_iload (j := 7) (pc := 50) rfl rfl (by decide +kernel)) ?_
  refine ok_c (j := 28) rfl (ok_iload (j := 4) (pc := 52) rfl rfl (by decide +kernel)) ?_
  refine ok_c (j := 29) rfl (ok_static (y := yX11_topOf) (n := 1) (d' := 1) (ix := 125) is_ci (pc := 54) rfl rfl (by decide +kernel) (by decide) rfl (ct_X11_topOf l) wd_530 wd_531 wd_57) ?_
  refine ok_c (j := 30) rfl (ok_cmpgt (off := 114) (tg := 171) (pc := 57) rfl rfl (by decide +kernel) rfl (by decide)) ?_
  refine ok_c (j := 31) rfl (ok_iload (j := 4) (pc := 60) rfl rfl (by decide +kernel)) ?_
  refine ok_c (j := 32) rfl (ok_ifne (off := 15) (tg := 77) (pc := 62) rfl rfl (by decide +kernel) rfl (by decide)) ?_
  refine ok_c (j := 33) rfl (ok_aload_n (j := ⟨0, by decide⟩) (pc := 65) rfl rfl (by decide +kernel)) ?_
  refine ok_c (j := 34) rfl (ok_getS (f := 10) (ci := 11) (C := RX11) (T := TX11) (N := 14) (ix := 112) (pc := 66) rfl rfl (by decide +kernel) rfl (fun _ => rfl) rfl cw_X11 (by decide) rfl wd_453) ?_
  refine ok_c (j := 35) rfl (ok_iload (j := 7) (pc := 69) rfl rfl (by decide +kernel)) ?_
  refine ok_c (j := 36) rfl (ok_putI (ci := 4) (C := RX4) (T := TX4) (N := 5) (ty := tyX4) (ix := 129) (pc := 71) rfl rfl (by decide +kernel) rfl (fun _ => rfl) rfl cw_X4 tyX4_ok nmX4 (by decide) rfl rfl rfl wd_420) ?_
  refine ok_c (j := 37) rfl (ok_goto (off := 12) (tg := 86) (pc := 74) rfl (by decide +kernel) rfl (by decide)) ?_
  refine ok_c (j := 38) rfl (ok_aload_n (j := ⟨0, by decide⟩) (pc := 77) rfl rfl (by decide +kernel)) ?_
  refine ok_c (j := 39) rfl (ok_getS (f := 10) (ci := 11) (C := RX11) (T := TX11) (N := 14) (ix := 112) (pc := 78) rfl rfl (by decide +kernel) rfl (fun _ => rfl) rfl cw_X11 (by decide) rfl wd_453) ?_
  refine ok_c (j := 40) rfl (ok_iload (j := 7) (pc := 81) rfl rfl (by decide +kernel)) ?_
  refine ok_c (j := 41) rfl (ok_putI (ci := 4) (C := RX4) (T := TX4) (N := 5) (ty := tyX4) (ix := 132) (pc := 83) rfl rfl (by decide +kernel) rfl (fun _ => rfl) rfl cw_X4 tyX4_ok nmX4 (by decide) rfl rfl rfl wd_423) ?_
  refine ok_c (j := 42) rfl (ok_aload_n (j := ⟨0, by decide⟩) (pc := 86) rfl rfl (by decide +kernel)) ?_
  refine ok_c (j := 43) rfl (ok_getS (f := 8) (ci := 11) (C := RX11) (T := TX11) (N := 14) (ix := 75) (pc := 87) rfl rfl (by decide +kernel) rfl (fun _ => rfl) rfl cw_X11 (by decide) rfl wd_451) ?_
  refine ok_c (j := 44) rfl (ok_aload_n (j := ⟨0, by decide⟩) (pc := 90) rfl rfl (by decide +kernel)) ?_
  refine ok_c (j := 45) rfl (ok_getS (f := 1) (ci := 11) (C := RX11) (T := TX11) (N := 14) (ix := 17) (pc := 91) rfl rfl (by decide +kernel) rfl (fun _ => rfl) rfl cw_X11 (by decide) rfl wd_444) ?_
  refine ok_c (j := 46) rfl (ok_iload_n (j := ⟨1, by decide⟩) (pc := 94) rfl rfl (by decide +kernel)) ?_
  refine ok_c (j := 47) rfl (ok_ald (ty := .object RX5) (pc := 95) rfl rfl (by decide +kernel) rfl rfl rfl (fun _ => rfl) rfl) ?_
  refine ok_c (j := 48) rfl (ok_virtual (y := yX5_take) (n := 1) (d' := 2) (t := 11) (T := TX5) (N := 8) (ix := 209) is_cv (pc := 96) rfl rfl (by decide +kernel) (by decide) (ct_X5_take l) rfl (fun _ => rfl) ce_fV_rec wd_659 wd_660 wd_661 wd_65) ?_
  refine ok_c (j := 49) rfl (ok_aload_n (j := ⟨0, by decide⟩) (pc := 99) rfl rfl (by decide +kernel)) ?_
  refine ok_c (j := 50) rfl (ok_getS (f := 8) (ci := 11) (C := RX11) (T := TX11) (N := 14) (ix := 75) (pc := 100) rfl rfl (by decide +kernel) rfl (fun _ => rfl) rfl cw_X11 (by decide) rfl wd_451) ?_
  refine ok_c (j := 51) rfl (ok_aload_n (j := ⟨0, by decide⟩) (pc := 103) rfl rfl (by decide +kernel)) ?_
  refine ok_c (j := 52) rfl (ok_getS (f := 10) (ci := 11) (C := RX11) (T := TX11) (N := 14) (ix := 112) (pc := 104) rfl rfl (by decide +kernel) rfl (fun _ => rfl) rfl cw_X11 (by decide) rfl wd_453) ?_
  refine ok_c (j := 53) rfl (ok_virtual (y := yX5_begin) (n := 1) (d' := 5) (t := 11) (T := TX5) (N := 8) (ix := 142) is_cv (pc := 107) rfl rfl (by decide +kernel) (by decide) (ct_X5_begin l) rfl (fun _ => rfl) ce_fV_rec wd_494 wd_495 wd_496 wd_65) ?_
  refine ok_c (j := 54) rfl (ok_aload_n (j := ⟨0, by decide⟩) (pc := 110) rfl rfl (by decide +kernel)) ?_
  refine ok_c (j := 55) rfl (ok_getS (f := 8) (ci := 11) (C := RX11) (T := TX11) (N := 14) (ix := 75) (pc := 111) rfl rfl (by decide +kernel) rfl (fun _ => rfl) rfl cw_X11 (by decide) rfl wd_451) ?_
  refine ok_c (j := 56) rfl (ok_iload_n (j := ⟨2, by decide⟩) (pc := 114) rfl rfl (by decide +kernel)) ?_
  refine ok_c (j := 57) rfl (ok_iload_n (j := ⟨3, by decide⟩) (pc := 115) rfl rfl (by decide +kernel)) ?_
  refine ok_c (j := 58) rfl (ok_aload_n (j := ⟨0, by decide⟩) (pc := 116) rfl rfl (by decide +kernel)) ?_
  refine ok_c (j := 59) rfl (ok_getS (f := 10) (ci := 11) (C := RX11) (T := TX11) (N := 14) (ix := 112) (pc := 117) rfl rfl (by decide +kernel) rfl (fun _ => rfl) rfl cw_X11 (by decide) rfl wd_453) ?_
  refine ok_c (j := 60) rfl (ok_virtual (y := yX5_goByRule) (n := 3) (d' := 5) (t := 11) (T := TX5) (N := 8) (ix := 212) is_cv (pc := 120) rfl rfl (by decide +kernel) (by decide) (ct_X5_goByRule l) rfl (fun _ => rfl) ce_fV_rec wd_667 wd_668 wd_669 wd_65) ?_
  refine ok_c (j := 61) rfl (ok_aload_n (j := ⟨0, by decide⟩) (pc := 123) rfl rfl (by decide +kernel)) ?_
  refine ok_c (j := 62) rfl (ok_getS (f := 8) (ci := 11) (C := RX11) (T := TX11) (N := 14) (ix := 75) (pc := 124) rfl rfl (by decide +kernel) rfl (fun _ => rfl) rfl cw_X11 (by decide) rfl wd_451) ?_
  refine ok_c (j := 63) rfl (ok_getI (ci := 5) (C := RX5) (T := TX5) (N := 8) (ix := 161) (pc := 127) rfl rfl (by decide +kernel) rfl (fun _ => rfl) rfl cw_X5 (by decide) rfl wd_196) ?_
  refine ok_c (j := 64) rfl (ok_iconst (n := 1) (pc := 130) rfl rfl (by decide +kernel) (by decide)) ?_
  refine ok_c (j := 65) rfl (ok_cmpne (off := 34) (tg := 165) (pc := 131) rfl rfl (by decide +kernel) rfl (by decide)) ?_
  refine ok_c (j := 66) rfl (ok_iload (j := 5) (pc := 134) rfl rfl (by decide +kernel)) ?_
  refine ok_c (j := 67) rfl (ok_iconst (n := (-1)) (pc := 136) rfl rfl (by decide +kernel) (by decide)) ?_
  refine ok_c (j := 68) rfl (ok_cmpeq (off := 15) (tg := 152) (pc := 137) rfl rfl (by decide +kernel) rfl (by decide)) ?_
  refine ok_c (j := 69) rfl (ok_aload_n (j := ⟨0, by decide⟩) (pc := 140) rfl rfl (by decide +kernel)) ?_
  refine ok_c (j := 70) rfl (ok_getS (f := 8) (ci := 11) (C := RX11) (T := TX11) (N := 14) (ix := 75) (pc := 141) rfl rfl (by decide +kernel) rfl (fun _ => rfl) rfl cw_X11 (by decide) rfl wd_451) ?_
  refine ok_c (j := 71) rfl (ok_getI (ci := 5) (C := RX5) (T := TX5) (N := 8) (ix := 164) (pc := 144) rfl rfl (by decide +kernel) rfl (fun _ => rfl) rfl cw_X5 (by decide) rfl wd_198) ?_
  refine ok_c (j := 72) rfl (ok_iload (j := 6) (pc := 147) rfl rfl (by decide +kernel)) ?_
  refine ok_c (j := 73) rfl (ok_cmpge (off := 16) (tg := 165) (pc := 149) rfl rfl (by decide +kernel) rfl (by decide)) ?_
  refine ok_c (j := 74) rfl (ok_iload (j := 7) (pc := 152) rfl rfl (by decide +kernel)) ?_
  refine ok_c (j := 75) rfl (ok_istore (j := 5) (pc := 154) rfl rfl (by decide +kernel) (by decide)) ?_
  refine ok_c (j := 76) rfl (ok_aload_n (j := ⟨0, by decide⟩) (pc := 156) rfl rfl (by decide +kernel)) ?_
  refine ok_c (j := 77) rfl (ok_getS (f := 8) (ci := 11) (C := RX11) (T := TX11) (N := 14) (ix := 75) (pc := 157) rfl rfl (by decide +kernel) rfl (fun _ => rfl) rfl cw_X11 (by decide) rfl wd_451) ?_
  refine ok_c (j := 78) rfl (ok_getI (ci := 5) (C := RX5) (T := TX5) (N := 8) (ix := 164) (pc := 160) rfl rfl (by decide +kernel) rfl (fun _ => rfl) rfl cw_X5 (by decide) rfl wd_198) ?_
  refine ok_c (j := 79) rfl (ok_istore (j := 6) (pc := 163) rfl rfl (by decide +kernel) (by decide)) ?_
  refine ok_c (j := 80) rfl (ok_iinc (n := 1) (pc := 165) rfl rfl (by decide +kernel) (by decide) (by decide)) ?_
  refine ok_c (j := 81) rfl (ok_goto (off := (-118)) (tg := 50) (pc := 168) rfl (by decide +kernel) rfl (by decide)) ?_
  refine ok_c (j := 82) rfl (ok_iload (j := 5) (pc := 171) rfl rfl (by decide +kernel)) ?_
  refine ok_c (j := 83) rfl (ok_iret (pc := 173) rfl (by decide +kernel) rfl) ?_
  exact trivial
noncomputable def F_X11_bestAt := ce_fI tb_X11_bestAt 8 (some 0)
theorem ct_X11_bestAt (l : Launch) : ce_callee l yX11_bestAt 4 6 0 0 (ce_wI F_X11_bestAt) := ⟨_, _, _, ce_ctr_of (pcs := pc_X11_bestAt) (by decide +kernel) rfl (ok_X11_bestAt l ) ce_fI_run, ce_tw_at wd_679 rfl, by decide, by decide +kernel, by decide +kernel, by decide +kernel⟩
def pc_X11_whom : List Nat := [0, 1, 2, 5, 8, 10, 11, 12, 13, 14, 16, 17, 19, 21, 22, 25, 28, 30, 32, 35, 36, 39, 41, 42, 45, 48, 49, 51, 52, 53, 56, 58, 60, 63, 64, 67, 68, 69, 72, 74, 77, 79, 82, 84, 85, 87, 90, 92, 95, 98, 99]
noncomputable def tb_X11_whom : List ce_Op := [o_iload 1, o_iload 2, o_ci 2 F_X11_isRule 0 0 0 0, o_ifne 6, o_int (-2), o_iret, o_int (-1), o_istore 3, o_int (-1), o_istore 4, o_int 0, o_istore 5, o_iload 5, o_aload 0, o_getI 0 6, o_cmpge 49, o_iload 5, o_int 6, o_cmpge 49, o_aload 0, o_getS 0 2 (fun _ => 0), o_iload 5, o_ald 2 11 ce_k3, o_getI 11 6, o_ifne 47, o_aload 0, o_iload 5, o_iload 1, o_iload 2, o_cr 4 11 F_X11_endByRule 0 0 0 0, o_astore 6, o_aload 6, o_getI 11 6, o_int 1, o_cmpne 47, o_iload 3, o_int (-1), o_cmpeq 42, o_aload 6, o_getI 11 7, o_iload 4, o_cmpge 47, o_iload 5, o_istore 3, o_aload 6, o_getI 11 7, o_istore 4, o_iinc 5 1, o_goto 12, o_iload 3, o_iret]
theorem tl_X11_whom : ce_TL tb_X11_whom := by
  unfold tb_X11_whom
  refine tl_c ta_iload ?_
  refine tl_c ta_iload ?_
  refine tl_c ta_ci ?_
  refine tl_c ta_ifne ?_
  refine tl_c ta_int ?_
  refine tl_c ta_iret ?_
  refine tl_c ta_int ?_
  refine tl_c ta_istore ?_
  refine tl_c ta_int ?_
  refine tl_c ta_istore ?_
  refine tl_c ta_int ?_
  refine tl_c ta_istore ?_
  refine tl_c ta_iload ?_
  refine tl_c ta_aload ?_
  refine tl_c ta_getI ?_
  refine tl_c ta_cmpge ?_
  refine tl_c ta_iload ?_
  refine tl_c ta_int ?_
  refine tl_c ta_cmpge ?_
  refine tl_c ta_aload ?_
  refine tl_c ta_getS ?_
  refine tl_c ta_iload ?_
  refine tl_c ta_ald ?_
  refine tl_c ta_getI ?_
  refine tl_c ta_ifne ?_
  refine tl_c ta_aload ?_
  refine tl_c ta_iload ?_
  refine tl_c ta_iload ?_
  refine tl_c ta_iload ?_
  refine tl_c ta_cr ?_
  refine tl_c ta_astore ?_
  refine tl_c ta_aload ?_
  refine tl_c ta_getI ?_
  refine tl_c ta_int ?_
  refine tl_c ta_cmpne ?_
  refine tl_c ta_iload ?_
  refine tl_c ta_int ?_
  refine tl_c ta_cmpeq ?_
  refine tl_c ta_aload ?_
  refine tl_c ta_getI ?_
  refine tl_c ta_iload ?_
  refine tl_c ta_cmpge ?_
  refine tl_c ta_iload ?_
  refine tl_c ta_istore ?_
  refine tl_c ta_aload ?_
  refine tl_c ta_getI ?_
  refine tl_c ta_istore ?_
  refine tl_c ta_iinc ?_
  refine tl_c ta_goto ?_
  refine tl_c ta_iload ?_
  refine tl_c ta_iret ?_
  exact trivial
set_option maxRecDepth 20000 in
theorem ok_X11_whom (l : Launch) : ce_OkL l cX11_whom RX11 7 (some .int) 7 0 0 pc_X11_whom 0 tb_X11_whom := by
  unfold tb_X11_whom
  refine ok_c (j := 1) rfl (ok_iload_n (j := ⟨1, by decide⟩) (pc := 0) rfl rfl (by decide +kernel)) ?_
  refine ok_c (j := 2) rfl (ok_iload_n (j := ⟨2, by decide⟩) (pc := 1) rfl rfl (by decide +kernel)) ?_
  refine ok_c (j := 3) rfl (ok_static (y := yX11_isRule) (n := 2) (d' := 1) (ix := 198) is_ci (pc := 2) rfl rfl (by decide +kernel) (by decide) rfl (ct_X11_isRule l) wd_652 wd_653 wd_57) ?_
  refine ok_c (j := 4) rfl (ok_ifne (off := 6) (tg := 11) (pc := 5) rfl rfl (by decide +kernel) rfl (by decide)) ?_
  refine ok_c (j := 5) rfl (ok_bipush (n := (-2)) (pc := 8) rfl rfl (by decide +kernel) (by decide)) ?_
  refine ok_c (j := 6) rfl (ok_iret (pc := 10) rfl (by decide +kernel) rfl) ?_
  refine ok_c (j := 7) rfl (ok_iconst (n := (-1)) (pc := 11) rfl rfl (by decide +kernel) (by decide)) ?_
  refine ok_c (j := 8) rfl (ok_istore_n (j := ⟨3, by decide⟩) (pc := 12) rfl rfl (by decide +kernel) (by decide)) ?_
  refine ok_c (j := 9) rfl (ok_iconst (n := (-1)) (pc := 13) rfl rfl (by decide +kernel) (by decide)) ?_
  refine ok_c (j := 10) rfl (ok_istore (j := 4) (pc := 14) rfl rfl (by decide +kernel) (by decide)) ?_
  refine ok_c (j := 11) rfl (ok_iconst (n := 0) (pc := 16) rfl rfl (by decide +kernel) (by decide)) ?_
  refine ok_c (j := 12) rfl (ok_istore (j := 5) (pc := 17) rfl rfl (by decide +kernel) (by decide)) ?_
  refine ok_c (j := 13) rfl (ok_iload (j := 5) (pc := 19) rfl rfl (by decide +kernel)) ?_
  refine ok_c (j := 14) rfl (ok_aload_n (j := ⟨0, by decide⟩) (pc := 21) rfl rfl (by decide +kernel)) ?_
  refine ok_c (j := 15) rfl (ok_getI (ci := 11) (C := RX11) (T := TX11) (N := 14) (ix := 40) (pc := 22) rfl rfl (by decide +kernel) rfl (fun _ => rfl) rfl cw_X11 (by decide) rfl wd_449) ?_
  refine ok_c (j := 16) rfl (ok_cmpge (off := 73) (tg := 98) (pc := 25) rfl rfl (by decide +kernel) rfl (by decide)) ?_
  refine ok_c (j := 17) rfl (ok_iload (j := 5) (pc := 28) rfl rfl (by decide +kernel)) ?_
  refine ok_c (j := 18) rfl (ok_bipush (n := 6) (pc := 30) rfl rfl (by decide +kernel) (by decide)) ?_
  refine ok_c (j := 19) rfl (ok_cmpge (off := 66) (tg := 98) (pc := 32) rfl rfl (by decide +kernel) rfl (by decide)) ?_
  refine ok_c (j := 20) rfl (ok_aload_n (j := ⟨0, by decide⟩) (pc := 35) rfl rfl (by decide +kernel)) ?_
  refine ok_c (j := 21) rfl (ok_getS (f := 1) (ci := 11) (C := RX11) (T := TX11) (N := 14) (ix := 17) (pc := 36) rfl rfl (by decide +kernel) rfl (fun _ => rfl) rfl cw_X11 (by decide) rfl wd_444) ?_
  refine ok_c (j := 22) rfl (ok_iload (j := 5) (pc := 39) rfl rfl (by decide +kernel)) ?_
  refine ok_c (j := 23) rfl (ok_ald (ty := .object RX5) (pc := 41) rfl rfl (by decide +kernel) rfl rfl rfl (fun _ => rfl) rfl) ?_
  refine ok_c (j := 24) rfl (ok_getI (ci := 5) (C := RX5) (T := TX5) (N := 8) (ix := 161) (pc := 42) rfl rfl (by decide +kernel) rfl (fun _ => rfl) rfl cw_X5 (by decide) rfl wd_196) ?_
  refine ok_c (j := 25) rfl (ok_ifne (off := 47) (tg := 92) (pc := 45) rfl rfl (by decide +kernel) rfl (by decide)) ?_
  refine ok_c (j := 26) rfl (ok_aload_n (j := ⟨0, by decide⟩) (pc := 48) rfl rfl (by decide +kernel)) ?_
  refine ok_c (j := 27) rfl (ok_iload (j := 5) (pc := 49) rfl rfl (by decide +kernel)) ?_
  refine ok_c (j := 28) rfl (ok_iload_n (j := ⟨1, by decide⟩) (pc := 51) rfl rfl (by decide +kernel)) ?_
  refine ok_c (j := 29) rfl (ok_iload_n (j := ⟨2, by decide⟩) (pc := 52) rfl rfl (by decide +kernel)) ?_
  refine ok_c (j := 30) rfl (ok_virtual (y := yX11_endByRule) (n := 3) (d' := 6) (t := 0) (T := TX11) (N := 14) (ix := 202) is_cr (pc := 53) rfl rfl (by decide +kernel) (by decide) (ct_X11_endByRule l) rfl (fun _ => rfl) ce_fR_rec wd_655 wd_657 wd_17 wd_57) ?_
  refine ok_c (j := 31) rfl (ok_astore (j := 6) (pc := 56) rfl rfl (by decide +kernel) (by decide)) ?_
  refine ok_c (j := 32) rfl (ok_aload (j := 6) (pc := 58) rfl rfl (by decide +kernel)) ?_
  refine ok_c (j := 33) rfl (ok_getI (ci := 5) (C := RX5) (T := TX5) (N := 8) (ix := 161) (pc := 60) rfl rfl (by decide +kernel) rfl (fun _ => rfl) rfl cw_X5 (by decide) rfl wd_196) ?_
  refine ok_c (j := 34) rfl (ok_iconst (n := 1) (pc := 63) rfl rfl (by decide +kernel) (by decide)) ?_
  refine ok_c (j := 35) rfl (ok_cmpne (off := 28) (tg := 92) (pc := 64) rfl rfl (by decide +kernel) rfl (by decide)) ?_
  refine ok_c (j := 36) rfl (ok_iload_n (j := ⟨3, by decide⟩) (pc := 67) rfl rfl (by decide +kernel)) ?_
  refine ok_c (j := 37) rfl (ok_iconst (n := (-1)) (pc := 68) rfl rfl (by decide +kernel) (by decide)) ?_
  refine ok_c (j := 38) rfl (ok_cmpeq (off := 13) (tg := 82) (pc := 69) rfl rfl (by decide +kernel) rfl (by decide)) ?_
  refine ok_c (j := 39) rfl (ok_aload (j := 6) (pc := 72) rfl rfl (by decide +kernel)) ?_
  refine ok_c (j := 40) rfl (ok_getI (ci := 5) (C := RX5) (T := TX5) (N := 8) (ix := 164) (pc := 74) rfl rfl (by decide +kernel) rfl (fun _ => rfl) rfl cw_X5 (by decide) rfl wd_198) ?_
  refine ok_c (j := 41) rfl (ok_iload (j := 4) (pc := 77) rfl rfl (by decide +kernel)) ?_
  refine ok_c (j := 42) rfl (ok_cmpge (off := 13) (tg := 92) (pc := 79) rfl rfl (by decide +kernel) rfl (by decide)) ?_
  refine ok_c (j := 43) rfl (ok_iload (j := 5) (pc := 82) rfl rfl (by decide +kernel)) ?_
  refine ok_c (j := 44) rfl (ok_istore_n (j := ⟨3, by decide⟩) (pc := 84) rfl rfl (by decide +kernel) (by decide)) ?_
  refine ok_c (j := 45) rfl (ok_aload (j := 6) (pc := 85) rfl rfl (by decide +kernel)) ?_
  refine ok_c (j := 46) rfl (ok_getI (ci := 5) (C := RX5) (T := TX5) (N := 8) (ix := 164) (pc := 87) rfl rfl (by decide +kernel) rfl (fun _ => rfl) rfl cw_X5 (by decide) rfl wd_198) ?_
  refine ok_c (j := 47) rfl (ok_istore (j := 4) (pc := 90) rfl rfl (by decide +kernel) (by decide)) ?_
  refine ok_c (j := 48) rfl (ok_iinc (n := 1) (pc := 92) rfl rfl (by decide +kernel) (by decide) (by decide)) ?_
  refine ok_c (j := 49) rfl (ok_goto (off := (-76)) (tg := 19) (pc := 95) rfl (by decide +kernel) rfl (by decide)) ?_
  refine ok_c (j := 50) rfl (ok_iload_n (j := ⟨3, by decide⟩) (pc := 98) rfl rfl (by decide +kernel)) ?_
  refine ok_c (j := 51) rfl (ok_iret (pc := 99) rfl (by decide +kernel) rfl) ?_
  exact trivial
noncomputable def F_X11_whom := ce_fI tb_X11_whom 7 (some 0)
theorem ct_X11_whom (l : Launch) : ce_callee l yX11_whom 2 7 0 0 (ce_wI F_X11_whom) := ⟨_, _, _, ce_ctr_of (pcs := pc_X11_whom) (by decide +kernel) rfl (ok_X11_whom l ) ce_fI_run, ce_tw_at wd_687 rfl, by decide, by decide +kernel, by decide +kernel, by decide +kernel⟩
def pc_X11_allInTurn : List Nat := [0, 1, 2, 5, 8, 9, 12, 13, 14, 17, 19, 20, 21, 23, 24, 26, 27, 29, 31, 32, 35, 38, 40, 42, 45, 47, 48, 51, 52, 55, 57, 58, 61, 64, 65, 67, 68, 69, 72, 74, 76, 78, 81, 82, 85, 87, 88, 91, 92, 93, 95, 97, 100, 102, 105, 108, 109, 112, 114, 117, 119]
noncomputable def tb_X11_allInTurn : List ce_Op := [o_iload 1, o_iload 2, o_ci 2 F_X11_isRule 0 0 0 0, o_ifeq 9, o_iload 3, o_iflt 9, o_iload 3, o_int 1, o_cmple 11, o_int (-2), o_iret, o_int (-1), o_istore 4, o_int 0, o_istore 5, o_int 0, o_istore 6, o_iload 6, o_aload 0, o_getI 0 6, o_cmpge 55, o_iload 6, o_int 6, o_cmpge 55, o_iload 4, o_int (-1), o_cmpne 55, o_aload 0, o_getS 0 2 (fun _ => 0), o_iload 6, o_ald 2 11 ce_k3, o_getI 11 6, o_ifne 53, o_aload 0, o_iload 6, o_iload 1, o_iload 2, o_cr 4 11 F_X11_endByRule 0 0 0 0, o_astore 7, o_iload 5, o_aload 7, o_getI 11 5, o_aload 0, o_getS 0 2 (fun _ => 0), o_iload 6, o_ald 2 11 ce_k3, o_getI 11 5, o_bin q_sub, o_bin q_add, o_istore 5, o_aload 7, o_getI 11 7, o_istore 4, o_iinc 6 1, o_goto 17, o_iload 3, o_ifne 59, o_iload 4, o_goto 60, o_iload 5, o_iret]
theorem tl_X11_allInTurn : ce_TL tb_X11_allInTurn := by
  unfold tb_X11_allInTurn
  refine tl_c ta_iload ?_
  refine tl_c ta_iload ?_
  refine tl_c ta_ci ?_
  refine tl_c ta_ifeq ?_
  refine tl_c ta_iload ?_
  refine tl_c ta_iflt ?_
  refine tl_c ta_iload ?_
  refine tl_c ta_int ?_
  refine tl_c ta_cmple ?_
  refine tl_c ta_int ?_
  refine tl_c ta_iret ?_
  refine tl_c ta_int ?_
  refine tl_c ta_istore ?_
  refine tl_c ta_int ?_
  refine tl_c ta_istore ?_
  refine tl_c ta_int ?_
  refine tl_c ta_istore ?_
  refine tl_c ta_iload ?_
  refine tl_c ta_aload ?_
  refine tl_c ta_getI ?_
  refine tl_c ta_cmpge ?_
  refine tl_c ta_iload ?_
  refine tl_c ta_int ?_
  refine tl_c ta_cmpge ?_
  refine tl_c ta_iload ?_
  refine tl_c ta_int ?_
  refine tl_c ta_cmpne ?_
  refine tl_c ta_aload ?_
  refine tl_c ta_getS ?_
  refine tl_c ta_iload ?_
  refine tl_c ta_ald ?_
  refine tl_c ta_getI ?_
  refine tl_c ta_ifne ?_
  refine tl_c ta_aload ?_
  refine tl_c ta_iload ?_
  refine tl_c ta_iload ?_
  refine tl_c ta_iload ?_
  refine tl_c ta_cr ?_
  refine tl_c ta_astore ?_
  refine tl_c ta_iload ?_
  refine tl_c ta_aload ?_
  refine tl_c ta_getI ?_
  refine tl_c ta_aload ?_
  refine tl_c ta_getS ?_
  refine tl_c ta_iload ?_
  refine tl_c ta_ald ?_
  refine tl_c ta_getI ?_
  refine tl_c ta_bin ?_
  refine tl_c ta_bin ?_
  refine tl_c ta_istore ?_
  refine tl_c ta_aload ?_
  refine tl_c ta_getI ?_
  refine tl_c ta_istore ?_
  refine tl_c ta_iinc ?_
  refine tl_c ta_goto ?_
  refine tl_c ta_iload ?_
  refine tl_c ta_ifne ?_
  refine tl_c ta_iload ?_
  refine tl_c ta_goto ?_
  refine tl_c ta_iload ?_
  refine tl_c ta_iret ?_
  exact trivial
set_option maxRecDepth 20000 in
theorem ok_X11_allInTurn (l : Launch) : ce_OkL l cX11_allInTurn RX11 8 (some .int) 7 0 0 pc_X11_allInTurn 0 tb_X11_allInTurn := by
  unfold tb_X11_allInTurn
  refine ok_c (j := 1) rfl (ok_iload_n (j := ⟨1, by decide⟩) (pc := 0) rfl rfl (by decide +kernel)) ?_
  refine ok_c (j := 2) rfl (ok_iload_n (j := ⟨2, by decide⟩) (pc := 1) rfl rfl (by decide +kernel)) ?_
  refine ok_c (j := 3) rfl (ok_static (y := yX11_isRule) (n := 2) (d' := 1) (ix := 198) is_ci (pc := 2) rfl rfl (by decide +kernel) (by decide) rfl (ct_X11_isRule l) wd_652 wd_653 wd_57) ?_
  refine ok_c (j := 4) rfl (ok_ifeq (off := 12) (tg := 17) (pc := 5) rfl rfl (by decide +kernel) rfl (by decide)) ?_
  refine ok_c (j := 5) rfl (ok_iload_n (j := ⟨3, by decide⟩) (pc := 8) rfl rfl (by decide +kernel)) ?_
  refine ok_c (j := 6) rfl (ok_iflt (off := 8) (tg := 17) (pc := 9) rfl rfl (by decide +kernel) rfl (by decide)) ?_
  refine ok_c (j := 7) rfl (ok_iload_n (j := ⟨3, by decide⟩) (pc := 12) rfl rfl (by decide +kernel)) ?_
  refine ok_c (j := 8) rfl (ok_iconst (n := 1) (pc := 13) rfl rfl (by decide +kernel) (by decide)) ?_
  refine ok_c (j := 9) rfl (ok_cmple (off := 6) (tg := 20) (pc := 14) rfl rfl (by decide +kernel) rfl (by decide)) ?_
  refine ok_c (j := 10) rfl (ok_bipush (n := (-2)) (pc := 17) rfl rfl (by decide +kernel) (by decide)) ?_
  refine ok_c (j := 11) rfl (ok_iret (pc := 19) rfl (by decide +kernel) rfl) ?_
  refine ok_c (j := 12) rfl (ok_iconst (n := (-1)) (pc := 20) rfl rfl (by decide +kernel) (by decide)) ?_
  refine ok_c (j := 13) rfl (ok_istore (j := 4) (pc := 21) rfl rfl (by decide +kernel) (by decide)) ?_
  refine ok_c (j := 14) rfl (ok_iconst (n := 0) (pc := 23) rfl rfl (by decide +kernel) (by decide)) ?_
  refine ok_c (j := 15) rfl (ok_istore (j := 5) (pc := 24) rfl rfl (by decide +kernel) (by decide)) ?_
  refine ok_c (j := 16) rfl (ok_iconst (n := 0) (pc := 26) rfl rfl (by decide +kernel) (by decide)) ?_
  refine ok_c (j := 17) rfl (ok_istore (j := 6) (pc := 27) rfl rfl (by decide +kernel) (by decide)) ?_
  refine ok_c (j := 18) rfl (ok_iload (j := 6) (pc := 29) rfl rfl (by decide +kernel)) ?_
  refine ok_c (j := 19) rfl (ok_aload_n (j := ⟨0, by decide⟩) (pc := 31) rfl rfl (by decide +kernel)) ?_
  refine ok_c (j := 20) rfl (ok_getI (ci := 11) (C := RX11) (T := TX11) (N := 14) (ix := 40) (pc := 32) rfl rfl (by decide +kernel) rfl (fun _ => rfl) rfl cw_X11 (by decide) rfl wd_449) ?_
  refine ok_c (j := 21) rfl (ok_cmpge (off := 73) (tg := 108) (pc := 35) rfl rfl (by decide +kernel) rfl (by decide)) ?_
  refine ok_c (j := 22) rfl (ok_iload (j := 6) (pc := 38) rfl rfl (by decide +kernel)) ?_
  refine ok_c (j := 23) rfl (ok_bipush (n := 6) (pc := 40) rfl rfl (by decide +kernel) (by decide)) ?_
  refine ok_c (j := 24) rfl (ok_cmpge (off := 66) (tg := 108) (pc := 42) rfl rfl (by decide +kernel) rfl (by decide)) ?_
  refine ok_c (j := 25) rfl (ok_iload (j := 4) (pc := 45) rfl rfl (by decide +kernel)) ?_
  refine ok_c (j := 26) rfl (ok_iconst (n := (-1)) (pc := 47) rfl rfl (by decide +kernel) (by decide)) ?_
  refine ok_c (j := 27) rfl (ok_cmpne (off := 60) (tg := 108) (pc := 48) rfl rfl (by decide +kernel) rfl (by decide)) ?_
  refine ok_c (j := 28) rfl (ok_aload_n (j := ⟨0, by decide⟩) (pc := 51) rfl rfl (by decide +kernel)) ?_
  refine ok_c (j := 29) rfl (ok_getS (f := 1) (ci := 11) (C := RX11) (T := TX11) (N := 14) (ix := 17) (pc := 52) rfl rfl (by decide +kernel) rfl (fun _ => rfl) rfl cw_X11 (by decide) rfl wd_444) ?_
  refine ok_c (j := 30) rfl (ok_iload (j := 6) (pc := 55) rfl rfl (by decide +kernel)) ?_
  refine ok_c (j := 31) rfl (ok_ald (ty := .object RX5) (pc := 57) rfl rfl (by decide +kernel) rfl rfl rfl (fun _ => rfl) rfl) ?_
  refine ok_c (j := 32) rfl (ok_getI (ci := 5) (C := RX5) (T := TX5) (N := 8) (ix := 161) (pc := 58) rfl rfl (by decide +kernel) rfl (fun _ => rfl) rfl cw_X5 (by decide) rfl wd_196) ?_
  refine ok_c (j := 33) rfl (ok_ifne (off := 41) (tg := 102) (pc := 61) rfl rfl (by decide +kernel) rfl (by decide)) ?_
  refine ok_c (j := 34) rfl (ok_aload_n (j := ⟨0, by decide⟩) (pc := 64) rfl rfl (by decide +kernel)) ?_
  refine ok_c (j := 35) rfl (ok_iload (j := 6) (pc := 65) rfl rfl (by decide +kernel)) ?_
  refine ok_c (j := 36) rfl (ok_iload_n (j := ⟨1, by decide⟩) (pc := 67) rfl rfl (by decide +kernel)) ?_
  refine ok_c (j := 37) rfl (ok_iload_n (j := ⟨2, by decide⟩) (pc := 68) rfl rfl (by decide +kernel)) ?_
  refine ok_c (j := 38) rfl (ok_virtual (y := yX11_endByRule) (n := 3) (d' := 6) (t := 0) (T := TX11) (N := 14) (ix := 202) is_cr (pc := 69) rfl rfl (by decide +kernel) (by decide) (ct_X11_endByRule l) rfl (fun _ => rfl) ce_fR_rec wd_655 wd_657 wd_17 wd_57) ?_
  refine ok_c (j := 39) rfl (ok_astore (j := 7) (pc := 72) rfl rfl (by decide +kernel) (by decide)) ?_
  refine ok_c (j := 40) rfl (ok_iload (j := 5) (pc := 74) rfl rfl (by decide +kernel)) ?_
  refine ok_c (j := 41) rfl (ok_aload (j := 7) (pc := 76) rfl rfl (by decide +kernel)) ?_
  refine ok_c (j := 42) rfl (ok_getI (ci := 5) (C := RX5) (T := TX5) (N := 8) (ix := 158) (pc := 78) rfl rfl (by decide +kernel) rfl (fun _ => rfl) rfl cw_X5 (by decide) rfl wd_194) ?_
  refine ok_c (j := 43) rfl (ok_aload_n (j := ⟨0, by decide⟩) (pc := 81) rfl rfl (by decide +kernel)) ?_
  refine ok_c (j := 44) rfl (ok_getS (f := 1) (ci := 11) (C := RX11) (T := TX11) (N := 14) (ix := 17) (pc := 82) rfl rfl (by decide +kernel) rfl (fun _ => rfl) rfl cw_X11 (by decide) rfl wd_444) ?_
  refine ok_c (j := 45) rfl (ok_iload (j := 6) (pc := 85) rfl rfl (by decide +kernel)) ?_
  refine ok_c (j := 46) rfl (ok_ald (ty := .object RX5) (pc := 87) rfl rfl (by decide +kernel) rfl rfl rfl (fun _ => rfl) rfl) ?_
  refine ok_c (j := 47) rfl (ok_getI (ci := 5) (C := RX5) (T := TX5) (N := 8) (ix := 158) (pc := 88) rfl rfl (by decide +kernel) rfl (fun _ => rfl) rfl cw_X5 (by decide) rfl wd_194) ?_
  refine ok_c (j := 48) rfl (ok_isub (pc := 91) rfl rfl (by decide +kernel)) ?_
  refine ok_c (j := 49) rfl (ok_iadd (pc := 92) rfl rfl (by decide +kernel)) ?_
  refine ok_c (j := 50) rfl (ok_istore (j := 5) (pc := 93) rfl rfl (by decide +kernel) (by decide)) ?_
  refine ok_c (j := 51) rfl (ok_aload (j := 7) (pc := 95) rfl rfl (by decide +kernel)) ?_
  refine ok_c (j := 52) rfl (ok_getI (ci := 5) (C := RX5) (T := TX5) (N := 8) (ix := 164) (pc := 97) rfl rfl (by decide +kernel) rfl (fun _ => rfl) rfl cw_X5 (by decide) rfl wd_198) ?_
  refine ok_c (j := 53) rfl (ok_istore (j := 4) (pc := 100) rfl rfl (by decide +kernel) (by decide)) ?_
  refine ok_c (j := 54) rfl (ok_iinc (n := 1) (pc := 102) rfl rfl (by decide +kernel) (by decide) (by decide)) ?_
  refine ok_c (j := 55) rfl (ok_goto (off := (-76)) (tg := 29) (pc := 105) rfl (by decide +kernel) rfl (by decide)) ?_
  refine ok_c (j := 56) rfl (ok_iload_n (j := ⟨3, by decide⟩) (pc := 108) rfl rfl (by decide +kernel)) ?_
  refine ok_c (j := 57) rfl (ok_ifne (off := 8) (tg := 117) (pc := 109) rfl rfl (by decide +kernel) rfl (by decide)) ?_
  refine ok_c (j := 58) rfl (ok_iload (j := 4) (pc := 112) rfl rfl (by decide +kernel)) ?_
  refine ok_c (j := 59) rfl (ok_goto (off := 5) (tg := 119) (pc := 114) rfl (by decide +kernel) rfl (by decide)) ?_
  refine ok_c (j := 60) rfl (ok_iload (j := 5) (pc := 117) rfl rfl (by decide +kernel)) ?_
  refine ok_c (j := 61) rfl (ok_iret (pc := 119) rfl (by decide +kernel) rfl) ?_
  exact trivial
noncomputable def F_X11_allInTurn := ce_fI tb_X11_allInTurn 8 (some 0)
theorem ct_X11_allInTurn (l : Launch) : ce_callee l yX11_allInTurn 3 7 0 0 (ce_wI F_X11_allInTurn) := ⟨_, _, _, ce_ctr_of (pcs := pc_X11_allInTurn) (by decide +kernel) rfl (ok_X11_allInTurn l ) ce_fI_run, ce_tw_at wd_691 rfl, by decide, by decide +kernel, by decide +kernel, by decide +kernel⟩
def pc_X11_saysSo : List Nat := [0, 1, 4, 5, 8, 9, 10, 13, 14, 17, 18, 21, 22, 25, 26, 29, 32, 33, 35, 37, 38, 39, 40, 43, 46, 47, 49, 52, 55, 58, 59, 60, 61, 64, 65, 67, 70, 71, 74, 77, 78, 81, 84, 87, 88, 91, 94, 95, 97, 98, 99, 102, 105, 106, 107, 110, 113, 114]
noncomputable def tb_X11_saysSo : List ce_Op := [o_aload 0, o_getS 0 11 (fun _ => 18), o_aload 0, o_getS 0 2 (fun _ => 0), o_iload 1, o_ald 2 11 ce_k3, o_cv 2 F_X5_take 0 0 0 0, o_aload 0, o_getS 0 11 (fun _ => 18), o_iload 2, o_putI 11 2, o_aload 0, o_getS 0 11 (fun _ => 18), o_aload 0, o_getS 0 12 (fun _ => 0), o_cv 2 F_X5_begin 0 0 0 0, o_int 0, o_istore 4, o_iload 4, o_int 1, o_bin q_add, o_aload 3, o_getI 15 2, o_cmpge 56, o_aload 3, o_iload 4, o_ci 2 F_X6_at 0 0 0 0, o_ci 1 F_X11_isBid 0 0 0 0, o_ifne 31, o_int 0, o_zret, o_aload 0, o_getS 0 11 (fun _ => 18), o_aload 3, o_iload 4, o_ci 2 F_X6_at 0 0 0 0, o_aload 0, o_getS 0 12 (fun _ => 0), o_cv 3 F_X5_hear 0 0 0 0, o_aload 0, o_getS 0 11 (fun _ => 18), o_getI 11 6, o_ifne 52, o_aload 0, o_getS 0 11 (fun _ => 18), o_getI 11 4, o_aload 3, o_iload 4, o_int 1, o_bin q_add, o_ci 2 F_X6_at 0 0 0 0, o_cmpeq 54, o_int 0, o_zret, o_iinc 4 2, o_goto 18, o_int 1, o_zret]
theorem tl_X11_saysSo : ce_TL tb_X11_saysSo := by
  unfold tb_X11_saysSo
  refine tl_c ta_aload ?_
  refine tl_c ta_getS ?_
  refine tl_c ta_aload ?_
  refine tl_c ta_getS ?_
  refine tl_c ta_iload ?_
  refine tl_c ta_ald ?_
  refine tl_c ta_cv ?_
  refine tl_c ta_aload ?_
  refine tl_c ta_getS ?_
  refine tl_c ta_iload ?_
  refine tl_c ta_putI ?_
  refine tl_c ta_aload ?_
  refine tl_c ta_getS ?_
  refine tl_c ta_aload ?_
  refine tl_c ta_getS ?_
  refine tl_c ta_cv ?_
  refine tl_c ta_int ?_
  refine tl_c ta_istore ?_
  refine tl_c ta_iload ?_
  refine tl_c ta_int ?_
  refine tl_c ta_bin ?_
  refine tl_c ta_aload ?_
  refine tl_c ta_getI ?_
  refine tl_c ta_cmpge ?_
  refine tl_c ta_aload ?_
  refine tl_c ta_iload ?_
  refine tl_c ta_ci ?_
  refine tl_c ta_ci ?_
  refine tl_c ta_ifne ?_
  refine tl_c ta_int ?_
  refine tl_c ta_zret ?_
  refine tl_c ta_aload ?_
  refine tl_c ta_getS ?_
  refine tl_c ta_aload ?_
  refine tl_c ta_iload ?_
  refine tl_c ta_ci ?_
  refine tl_c ta_aload ?_
  refine tl_c ta_getS ?_
  refine tl_c ta_cv ?_
  refine tl_c ta_aload ?_
  refine tl_c ta_getS ?_
  refine tl_c ta_getI ?_
  refine tl_c ta_ifne ?_
  refine tl_c ta_aload ?_
  refine tl_c ta_getS ?_
  refine tl_c ta_getI ?_
  refine tl_c ta_aload ?_
  refine tl_c ta_iload ?_
  refine tl_c ta_int ?_
  refine tl_c ta_bin ?_
  refine tl_c ta_ci ?_
  refine tl_c ta_cmpeq ?_
  refine tl_c ta_int ?_
  refine tl_c ta_zret ?_
  refine tl_c ta_iinc ?_
  refine tl_c ta_goto ?_
  refine tl_c ta_int ?_
  refine tl_c ta_zret ?_
  exact trivial
set_option maxRecDepth 20000 in
theorem ok_X11_saysSo (l : Launch) : ce_OkL l cX11_saysSo RX11 5 (some .boolean) 6 0 0 pc_X11_saysSo 0 tb_X11_saysSo := by
  unfold tb_X11_saysSo
  refine ok_c (j := 1) rfl (ok_aload_n (j := ⟨0, by decide⟩) (pc := 0) rfl rfl (by decide +kernel)) ?_
  refine ok_c (j := 2) rfl (ok_getS (f := 8) (ci := 11) (C := RX11) (T := TX11) (N := 14) (ix := 75) (pc := 1) rfl rfl (by decide +kernel) rfl (fun _ => rfl) rfl cw_X11 (by decide) rfl wd_451) ?_
  refine ok_c (j := 3) rfl (ok_aload_n (j := ⟨0, by decide⟩) (pc := 4) rfl rfl (by decide +kernel)) ?_
  refine ok_c (j := 4) rfl (ok_getS (f := 1) (ci := 11) (C := RX11) (T := TX11) (N := 14) (ix := 17) (pc := 5) rfl rfl (by decide +kernel) rfl (fun _ => rfl) rfl cw_X11 (by decide) rfl wd_444) ?_
  refine ok_c (j := 5) rfl (ok_iload_n (j := ⟨1, by decide⟩) (pc := 8) rfl rfl (by decide +kernel)) ?_
  refine ok_c (j := 6) rfl (ok_ald (ty := .object RX5) (pc := 9) rfl rfl (by decide +kernel) rfl rfl rfl (fun _ => rfl) rfl) ?_
  refine ok_c (j := 7) rfl (ok_virtual (y := yX5_take) (n := 1) (d' := 2) (t := 11) (T := TX5) (N := 8) (ix := 209) is_cv (pc := 10) rfl rfl (by decide +kernel) (by decide) (ct_X5_take l) rfl (fun _ => rfl) ce_fV_rec wd_659 wd_660 wd_661 wd_65) ?_
  refine ok_c (j := 8) rfl (ok_aload_n (j := ⟨0, by decide⟩) (pc := 13) rfl rfl (by decide +kernel)) ?_
  refine ok_c (j := 9) rfl (ok_getS (f := 8) (ci := 11) (C := RX11) (T := TX11) (N := 14) (ix := 75) (pc := 14) rfl rfl (by decide +kernel) rfl (fun _ => rfl) rfl cw_X11 (by decide) rfl wd_451) ?_
  refine ok_c (j := 10) rfl (ok_iload_n (j := ⟨2, by decide⟩) (pc := 17) rfl rfl (by decide +kernel)) ?_
  refine ok_c (j := 11) rfl (ok_putI (ci := 5) (C := RX5) (T := TX5) (N := 8) (ty := tyX5) (ix := 152) (pc := 18) rfl rfl (by decide +kernel) rfl (fun _ => rfl) rfl cw_X5 tyX5_ok nmX5 (by decide) rfl rfl rfl wd_186) ?_
  refine ok_c (j := 12) rfl (ok_aload_n (j := ⟨0, by decide⟩) (pc := 21) rfl rfl (by decide +kernel)) ?_
  refine ok_c (j := 13) rfl (ok_getS (f := 8) (ci := 11) (C := RX11) (T := TX11) (N := 14) (ix := 75) (pc := 22) rfl rfl (by decide +kernel) rfl (fun _ => rfl) rfl cw_X11 (by decide) rfl wd_451) ?_
  refine ok_c (j := 14) rfl (ok_aload_n (j := ⟨0, by decide⟩) (pc := 25) rfl rfl (by decide +kernel)) ?_
  refine ok_c (j := 15) rfl (ok_getS (f := 2) (ci := 11) (C := RX11) (T := TX11) (N := 14) (ix := 108) (pc := 26) rfl rfl (by decide +kernel) rfl (fun _ => rfl) rfl cw_X11 (by decide) rfl wd_445) ?_
  refine ok_c (j := 16) rfl (ok_virtual (y := yX5_begin) (n := 1) (d' := 5) (t := 11) (T := TX5) (N := 8) (ix := 142) is_cv (pc := 29) rfl rfl (by decide +kernel) (by decide) (ct_X5_begin l) rfl (fun _ => rfl) ce_fV_rec wd_494 wd_495 wd_496 wd_65) ?_
  refine ok_c (j := 17) rfl (ok_iconst (n := 0) (pc := 32) rfl rfl (by decide +kernel) (by decide)) ?_
  refine ok_c (j := 18) rfl (ok_istore (j := 4) (pc := 33) rfl rfl (by decide +kernel) (by decide)) ?_
  refine ok_c (j := 19) rfl (ok_iload (j := 4) (pc := 35) rfl rfl (by decide +kernel)) ?_
  refine ok_c (j := 20) rfl (ok_iconst (n := 1) (pc := 37) rfl rfl (by decide +kernel) (by decide)) ?_
  refine ok_c (j := 21) rfl (ok_iadd (pc := 38) rfl rfl (by decide +kernel)) ?_
  refine ok_c (j := 22) rfl (ok_aload_n (j := ⟨3, by decide⟩) (pc := 39) rfl rfl (by decide +kernel)) ?_
  refine ok_c (j := 23) rfl (ok_getI (ci := 6) (C := RX6) (T := TX6) (N := 3) (ix := 223) (pc := 40) rfl rfl (by decide +kernel) rfl (fun _ => rfl) rfl cw_X6 (by decide) rfl wd_226) ?_
  refine ok_c (j := 24) rfl (ok_cmpge (off := 70) (tg := 113) (pc := 43) rfl rfl (by decide +kernel) rfl (by decide)) ?_
  refine ok_c (j := 25) rfl (ok_aload_n (j := ⟨3, by decide⟩) (pc := 46) rfl rfl (by decide +kernel)) ?_
  refine ok_c (j := 26) rfl (ok_iload (j := 4) (pc := 47) rfl rfl (by decide +kernel)) ?_
  refine ok_c (j := 27) rfl (ok_virtual (y := yX6_at) (n := 1) (d' := 2) (t := 15) (T := TX6) (N := 3) (ix := 228) is_ci (pc := 49) rfl rfl (by decide +kernel) (by decide) (ct_X6_at l) rfl (fun _ => rfl) ce_fI_rec wd_707 wd_708 wd_709 wd_66) ?_
  refine ok_c (j := 28) rfl (ok_static (y := yX11_isBid) (n := 1) (d' := 1) (ix := 188) is_ci (pc := 52) rfl rfl (by decide +kernel) (by decide) rfl (ct_X11_isBid l) wd_580 wd_581 wd_57) ?_
  refine ok_c (j := 29) rfl (ok_ifne (off := 5) (tg := 60) (pc := 55) rfl rfl (by decide +kernel) rfl (by decide)) ?_
  refine ok_c (j := 30) rfl (ok_iconst (n := 0) (pc := 58) rfl rfl (by decide +kernel) (by decide)) ?_
  refine ok_c (j := 31) rfl (ok_zret (pc := 59) rfl (by decide +kernel) rfl) ?_
  refine ok_c (j := 32) rfl (ok_aload_n (j := ⟨0, by decide⟩) (pc := 60) rfl rfl (by decide +kernel)) ?_
  refine ok_c (j := 33) rfl (ok_getS (f := 8) (ci := 11) (C := RX11) (T := TX11) (N := 14) (ix := 75) (pc := 61) rfl rfl (by decide +kernel) rfl (fun _ => rfl) rfl cw_X11 (by decide) rfl wd_451) ?_
  refine ok_c (j := 34) rfl (ok_aload_n (j := ⟨3, by decide⟩) (pc := 64) rfl rfl (by decide +kernel)) ?_
  refine ok_c (j := 35) rfl (ok_iload (j := 4) (pc := 65) rfl rfl (by decide +kernel)) ?_
  refine ok_c (j := 36) rfl (ok_virtual (y := yX6_at) (n := 1) (d' := 2) (t := 15) (T := TX6) (N := 3) (ix := 228) is_ci (pc := 67) rfl rfl (by decide +kernel) (by decide) (ct_X6_at l) rfl (fun _ => rfl) ce_fI_rec wd_707 wd_708 wd_709 wd_66) ?_
  refine ok_c (j := 37) rfl (ok_aload_n (j := ⟨0, by decide⟩) (pc := 70) rfl rfl (by decide +kernel)) ?_
  refine ok_c (j := 38) rfl (ok_getS (f := 2) (ci := 11) (C := RX11) (T := TX11) (N := 14) (ix := 108) (pc := 71) rfl rfl (by decide +kernel) rfl (fun _ => rfl) rfl cw_X11 (by decide) rfl wd_445) ?_
  refine ok_c (j := 39) rfl (ok_virtual (y := yX5_hear) (n := 2) (d' := 4) (t := 11) (T := TX5) (N := 8) (ix := 191) is_cv (pc := 74) rfl rfl (by decide +kernel) (by decide) (ct_X5_hear l) rfl (fun _ => rfl) ce_fV_rec wd_583 wd_584 wd_585 wd_65) ?_
  refine ok_c (j := 40) rfl (ok_aload_n (j := ⟨0, by decide⟩) (pc := 77) rfl rfl (by decide +kernel)) ?_
  refine ok_c (j := 41) rfl (ok_getS (f := 8) (ci := 11) (C := RX11) (T := TX11) (N := 14) (ix := 75) (pc := 78) rfl rfl (by decide +kernel) rfl (fun _ => rfl) rfl cw_X11 (by decide) rfl wd_451) ?_
  refine ok_c (j := 42) rfl (ok_getI (ci := 5) (C := RX5) (T := TX5) (N := 8) (ix := 161) (pc := 81) rfl rfl (by decide +kernel) rfl (fun _ => rfl) rfl cw_X5 (by decide) rfl wd_196) ?_
  refine ok_c (j := 43) rfl (ok_ifne (off := 21) (tg := 105) (pc := 84) rfl rfl (by decide +kernel) rfl (by decide)) ?_
  refine ok_c (j := 44) rfl (ok_aload_n (j := ⟨0, by decide⟩) (pc := 87) rfl rfl (by decide +kernel)) ?_
  refine ok_c (j := 45) rfl (ok_getS (f := 8) (ci := 11) (C := RX11) (T := TX11) (N := 14) (ix := 75) (pc := 88) rfl rfl (by decide +kernel) rfl (fun _ => rfl) rfl cw_X11 (by decide) rfl wd_451) ?_
  refine ok_c (j := 46) rfl (ok_getI (ci := 5) (C := RX5) (T := TX5) (N := 8) (ix := 146) (pc := 91) rfl rfl (by decide +kernel) rfl (fun _ => rfl) rfl cw_X5 (by decide) rfl wd_191) ?_
  refine ok_c (j := 47) rfl (ok_aload_n (j := ⟨3, by decide⟩) (pc := 94) rfl rfl (by decide +kernel)) ?_
  refine ok_c (j := 48) rfl (ok_iload (j := 4) (pc := 95) rfl rfl (by decide +kernel)) ?_
  refine ok_c (j := 49) rfl (ok_iconst (n := 1) (pc := 97) rfl rfl (by decide +kernel) (by decide)) ?_
  refine ok_c (j := 50) rfl (ok_iadd (pc := 98) rfl rfl (by decide +kernel)) ?_
  refine ok_c (j := 51) rfl (ok_virtual (y := yX6_at) (n := 1) (d' := 2) (t := 15) (T := TX6) (N := 3) (ix := 228) is_ci (pc := 99) rfl rfl (by decide +kernel) (by decide) (ct_X6_at l) rfl (fun _ => rfl) ce_fI_rec wd_707 wd_708 wd_709 wd_66) ?_
  refine ok_c (j := 52) rfl (ok_cmpeq (off := 5) (tg := 107) (pc := 102) rfl rfl (by decide +kernel) rfl (by decide)) ?_
  refine ok_c (j := 53) rfl (ok_iconst (n := 0) (pc := 105) rfl rfl (by decide +kernel) (by decide)) ?_
  refine ok_c (j := 54) rfl (ok_zret (pc := 106) rfl (by decide +kernel) rfl) ?_
  refine ok_c (j := 55) rfl (ok_iinc (n := 2) (pc := 107) rfl rfl (by decide +kernel) (by decide) (by decide)) ?_
  refine ok_c (j := 56) rfl (ok_goto (off := (-75)) (tg := 35) (pc := 110) rfl (by decide +kernel) rfl (by decide)) ?_
  refine ok_c (j := 57) rfl (ok_iconst (n := 1) (pc := 113) rfl rfl (by decide +kernel) (by decide)) ?_
  refine ok_c (j := 58) rfl (ok_zret (pc := 114) rfl (by decide +kernel) rfl) ?_
  exact trivial
noncomputable def F_X11_saysSo := ce_fI tb_X11_saysSo 5 (some 0)
theorem ct_X11_saysSo (l : Launch) : ce_callee l yX11_saysSo 3 6 0 0 (ce_wI F_X11_saysSo) := ⟨_, _, _, ce_ctr_of (pcs := pc_X11_saysSo) (by decide +kernel) rfl (ok_X11_saysSo l ) ce_fI_run, ce_tw_at wd_706 rfl, by decide, by decide +kernel, by decide +kernel, by decide +kernel⟩
def pc_X11_hisCost : List Nat := [0, 1, 2, 5, 8, 9, 12, 15, 16, 19, 20, 21, 24, 26, 27, 28, 31, 32, 33, 36, 39, 41, 42, 43, 46, 47, 48, 51, 52, 53, 56, 58, 59, 60, 62, 63, 65, 66, 68, 69, 71, 73, 76, 79, 80, 81, 83, 84, 87, 88, 89, 92, 95, 98, 100, 102, 104, 105, 108, 110, 112, 115, 118, 119, 122, 124, 127, 128, 129, 132, 134, 137, 139]
noncomputable def tb_X11_hisCost : List ce_Op := [o_aload 0, o_iload 1, o_ci 2 F_X11_isSeller 0 0 0 0, o_ifeq 12, o_iload 2, o_ci 1 F_X11_isSheet 0 0 0 0, o_ifeq 12, o_iload 3, o_iflt 12, o_iload 3, o_int 2, o_cmple 14, o_int (-2), o_iret, o_aload 0, o_getS 0 6 (fun _ => 0), o_iload 2, o_ald 6 15 ce_k0, o_ci 1 F_X6_isMissing 0 0 0 0, o_ifeq 22, o_int (-11), o_iret, o_aload 0, o_getS 0 6 (fun _ => 0), o_iload 2, o_ald 6 15 ce_k0, o_getI 15 2, o_int 2, o_rem, o_ifeq 32, o_int (-2), o_iret, o_int 0, o_istore 4, o_int (-1), o_istore 5, o_int (-1), o_istore 6, o_int 0, o_istore 7, o_iload 7, o_int 999, o_cmpgt 62, o_aload 0, o_iload 1, o_iload 7, o_aload 0, o_getS 0 6 (fun _ => 0), o_iload 2, o_ald 6 15 ce_k0, o_ci 4 F_X11_saysSo 0 0 0 0, o_ifeq 60, o_iinc 4 1, o_iload 7, o_istore 6, o_iload 5, o_int (-1), o_cmpne 60, o_iload 7, o_istore 5, o_iinc 7 1, o_goto 40, o_iload 3, o_ifne 66, o_iload 4, o_goto 72, o_iload 3, o_int 1, o_cmpne 71, o_iload 5, o_goto 72, o_iload 6, o_iret]
theorem tl_X11_hisCost : ce_TL tb_X11_hisCost := by
  unfold tb_X11_hisCost
  refine tl_c ta_aload ?_
  refine tl_c ta_iload ?_
  refine tl_c ta_ci ?_
  refine tl_c ta_ifeq ?_
  refine tl_c ta_iload ?_
  refine tl_c ta_ci ?_
  refine tl_c ta_ifeq ?_
  refine tl_c ta_iload ?_
  refine tl_c ta_iflt ?_
  refine tl_c ta_iload ?_
  refine tl_c ta_int ?_
  refine tl_c ta_cmple ?_
  refine tl_c ta_int ?_
  refine tl_c ta_iret ?_
  refine tl_c ta_aload ?_
  refine tl_c ta_getS ?_
  refine tl_c ta_iload ?_
  refine tl_c ta_ald ?_
  refine tl_c ta_ci ?_
  refine tl_c ta_ifeq ?_
  refine tl_c ta_int ?_
  refine tl_c ta_iret ?_
  refine tl_c ta_aload ?_
  refine tl_c ta_getS ?_
  refine tl_c ta_iload ?_
  refine tl_c ta_ald ?_
  refine tl_c ta_getI ?_
  refine tl_c ta_int ?_
  refine tl_c ta_rem ?_
  refine tl_c ta_ifeq ?_
  refine tl_c ta_int ?_
  refine tl_c ta_iret ?_
  refine tl_c ta_int ?_
  refine tl_c ta_istore ?_
  refine tl_c ta_int ?_
  refine tl_c ta_istore ?_
  refine tl_c ta_int ?_
  refine tl_c ta_istore ?_
  refine tl_c ta_int ?_
  refine tl_c ta_istore ?_
  refine tl_c ta_iload ?_
  refine tl_c ta_int ?_
  refine tl_c ta_cmpgt ?_
  refine tl_c ta_aload ?_
  refine tl_c ta_iload ?_
  refine tl_c ta_iload ?_
  refine tl_c ta_aload ?_
  refine tl_c ta_getS ?_
  refine tl_c ta_iload ?_
  refine tl_c ta_ald ?_
  refine tl_c ta_ci ?_
  refine tl_c ta_ifeq ?_
  refine tl_c ta_iinc ?_
  refine tl_c ta_iload ?_
  refine tl_c ta_istore ?_
  refine tl_c ta_iload ?_
  refine tl_c ta_int ?_
  refine tl_c ta_cmpne ?_
  refine tl_c ta_iload ?_
  refine tl_c ta_istore ?_
  refine tl_c ta_iinc ?_
  refine tl_c ta_goto ?_
  refine tl_c ta_iload ?_
  refine tl_c ta_ifne ?_
  refine tl_c ta_iload ?_
  refine tl_c ta_goto ?_
  refine tl_c ta_iload ?_
  refine tl_c ta_int ?_
  refine tl_c ta_cmpne ?_
  refine tl_c ta_iload ?_
  refine tl_c ta_goto ?_
  refine tl_c ta_iload ?_
  refine tl_c ta_iret ?_
  exact trivial
set_option maxRecDepth 20000 in
theorem ok_X11_hisCost (l : Launch) : ce_OkL l cX11_hisCost RX11 8 (some .int) 7 0 0 pc_X11_hisCost 0 tb_X11_hisCost := by
  unfold tb_X11_hisCost
  refine ok_c (j := 1) rfl (ok_aload_n (j := ⟨0, by decide⟩) (pc := 0) rfl rfl (by decide +kernel)) ?_
  refine ok_c (j := 2) rfl (ok_iload_n (j := ⟨1, by decide⟩) (pc := 1) rfl rfl (by decide +kernel)) ?_
  refine ok_c (j := 3) rfl (ok_virtual (y := yX11_isSeller) (n := 1) (d' := 1) (t := 0) (T := TX11) (N := 14) (ix := 138) is_ci (pc := 2) rfl rfl (by decide +kernel) (by decide) (ct_X11_isSeller l) rfl (fun _ => rfl) ce_fI_rec wd_526 wd_528 wd_16 wd_57) ?_
  refine ok_c (j := 4) rfl (ok_ifeq (off := 19) (tg := 24) (pc := 5) rfl rfl (by decide +kernel) rfl (by decide)) ?_
  refine ok_c (j := 5) rfl (ok_iload_n (j := ⟨2, by decide⟩) (pc := 8) rfl rfl (by decide +kernel)) ?_
  refine ok_c (j := 6) rfl (ok_static (y := yX11_isSheet) (n := 1) (d' := 1) (ix := 216) is_ci (pc := 9) rfl rfl (by decide +kernel) (by decide) rfl (ct_X11_isSheet l) wd_696 wd_697 wd_57) ?_
  refine ok_c (j := 7) rfl (ok_ifeq (off := 12) (tg := 24) (pc := 12) rfl rfl (by decide +kernel) rfl (by decide)) ?_
  refine ok_c (j := 8) rfl (ok_iload_n (j := ⟨3, by decide⟩) (pc := 15) rfl rfl (by decide +kernel)) ?_
  refine ok_c (j := 9) rfl (ok_iflt (off := 8) (tg := 24) (pc := 16) rfl rfl (by decide +kernel) rfl (by decide)) ?_
  refine ok_c (j := 10) rfl (ok_iload_n (j := ⟨3, by decide⟩) (pc := 19) rfl rfl (by decide +kernel)) ?_
  refine ok_c (j := 11) rfl (ok_iconst (n := 2) (pc := 20) rfl rfl (by decide +kernel) (by decide)) ?_
  refine ok_c (j := 12) rfl (ok_cmple (off := 6) (tg := 27) (pc := 21) rfl rfl (by decide +kernel) rfl (by decide)) ?_
  refine ok_c (j := 13) rfl (ok_bipush (n := (-2)) (pc := 24) rfl rfl (by decide +kernel) (by decide)) ?_
  refine ok_c (j := 14) rfl (ok_iret (pc := 26) rfl (by decide +kernel) rfl) ?_
  refine ok_c (j := 15) rfl (ok_aload_n (j := ⟨0, by decide⟩) (pc := 27) rfl rfl (by decide +kernel)) ?_
  refine ok_c (j := 16) rfl (ok_getS (f := 5) (ci := 11) (C := RX11) (T := TX11) (N := 14) (ix := 36) (pc := 28) rfl rfl (by decide +kernel) rfl (fun _ => rfl) rfl cw_X11 (by decide) rfl wd_448) ?_
  refine ok_c (j := 17) rfl (ok_iload_n (j := ⟨2, by decide⟩) (pc := 31) rfl rfl (by decide +kernel)) ?_
  refine ok_c (j := 18) rfl (ok_ald (ty := .object RX6) (pc := 32) rfl rfl (by decide +kernel) rfl rfl rfl (fun _ => rfl) rfl) ?_
  refine ok_c (j := 19) rfl (ok_virtual (y := yX6_isMissing) (n := 0) (d' := 1) (t := 15) (T := TX6) (N := 3) (ix := 219) is_ci (pc := 33) rfl rfl (by decide +kernel) (by decide) (ct_X6_isMissing l) rfl (fun _ => rfl) ce_fI_rec wd_699 wd_700 wd_701 wd_66) ?_
  refine ok_c (j := 20) rfl (ok_ifeq (off := 6) (tg := 42) (pc := 36) rfl rfl (by decide +kernel) rfl (by decide)) ?_
  refine ok_c (j := 21) rfl (ok_bipush (n := (-11)) (pc := 39) rfl rfl (by decide +kernel) (by decide)) ?_
  refine ok_c (j := 22) rfl (ok_iret (pc := 41) rfl (by decide +kernel) rfl) ?_
  refine ok_c (j := 23) rfl (ok_aload_n (j := ⟨0, by decide⟩) (pc := 42) rfl rfl (by decide +kernel)) ?_
  refine ok_c (j := 24) rfl (ok_getS (f := 5) (ci := 11) (C := RX11) (T := TX11) (N := 14) (ix := 36) (pc := 43) rfl rfl (by decide +kernel) rfl (fun _ => rfl) rfl cw_X11 (by decide) rfl wd_448) ?_
  refine ok_c (j := 25) rfl (ok_iload_n (j := ⟨2, by decide⟩) (pc := 46) rfl rfl (by decide +kernel)) ?_
  refine ok_c (j := 26) rfl (ok_ald (ty := .object RX6) (pc := 47) rfl rfl (by decide +kernel) rfl rfl rfl (fun _ => rfl) rfl) ?_
  refine ok_c (j := 27) rfl (ok_getI (ci := 6) (C := RX6) (T := TX6) (N := 3) (ix := 223) (pc := 48) rfl rfl (by decide +kernel) rfl (fun _ => rfl) rfl cw_X6 (by decide) rfl wd_226) ?_
  refine ok_c (j := 28) rfl (ok_iconst (n := 2) (pc := 51) rfl rfl (by decide +kernel) (by decide)) ?_
  refine ok_c (j := 29) rfl (ok_irem (pc := 52) rfl rfl (by decide +kernel)) ?_
  refine ok_c (j := 30) rfl (ok_ifeq (off := 6) (tg := 59) (pc := 53) rfl rfl (by decide +kernel) rfl (by decide)) ?_
  refine ok_c (j := 31) rfl (ok_bipush (n := (-2)) (pc := 56) rfl rfl (by decide +kernel) (by decide)) ?_
  refine ok_c (j := 32) rfl (ok_iret (pc := 58) rfl (by decide +kernel) rfl) ?_
  refine ok_c (j := 33) rfl (ok_iconst (n := 0) (pc := 59) rfl rfl (by decide +kernel) (by decide)) ?_
  refine ok_c (j := 34) rfl (ok_istore (j := 4) (pc := 60) rfl rfl (by decide +kernel) (by decide)) ?_
  refine ok_c (j := 35) rfl (ok_iconst (n := (-1)) (pc := 62) rfl rfl (by decide +kernel) (by decide)) ?_
  refine ok_c (j := 36) rfl (ok_istore (j := 5) (pc := 63) rfl rfl (by decide +kernel) (by decide)) ?_
  refine ok_c (j := 37) rfl (ok_iconst (n := (-1)) (pc := 65) rfl rfl (by decide +kernel) (by decide)) ?_
  refine ok_c (j := 38) rfl (ok_istore (j := 6) (pc := 66) rfl rfl (by decide +kernel) (by decide)) ?_
  refine ok_c (j := 39) rfl (ok_iconst (n := 0) (pc := 68) rfl rfl (by decide +kernel) (by decide)) ?_
  refine ok_c (j := 40) rfl (ok_istore (j := 7) (pc := 69) rfl rfl (by decide +kernel) (by decide)) ?_
  refine ok_c (j := 41) rfl (ok_iload (j := 7) (pc := 71) rfl rfl (by decide +kernel)) ?_
  refine ok_c (j := 42) rfl (ok_sipush (n := 999) (pc := 73) rfl rfl (by decide +kernel) (by decide)) ?_
  refine ok_c (j := 43) rfl (ok_cmpgt (off := 42) (tg := 118) (pc := 76) rfl rfl (by decide +kernel) rfl (by decide)) ?_
  refine ok_c (j := 44) rfl (ok_aload_n (j := ⟨0, by decide⟩) (pc := 79) rfl rfl (by decide +kernel)) ?_
  refine ok_c (j := 45) rfl (ok_iload_n (j := ⟨1, by decide⟩) (pc := 80) rfl rfl (by decide +kernel)) ?_
  refine ok_c (j := 46) rfl (ok_iload (j := 7) (pc := 81) rfl rfl (by decide +kernel)) ?_
  refine ok_c (j := 47) rfl (ok_aload_n (j := ⟨0, by decide⟩) (pc := 83) rfl rfl (by decide +kernel)) ?_
  refine ok_c (j := 48) rfl (ok_getS (f := 5) (ci := 11) (C := RX11) (T := TX11) (N := 14) (ix := 36) (pc := 84) rfl rfl (by decide +kernel) rfl (fun _ => rfl) rfl cw_X11 (by decide) rfl wd_448) ?_
  refine ok_c (j := 49) rfl (ok_iload_n (j := ⟨2, by decide⟩) (pc := 87) rfl rfl (by decide +kernel)) ?_
  refine ok_c (j := 50) rfl (ok_ald (ty := .object RX6) (pc := 88) rfl rfl (by decide +kernel) rfl rfl rfl (fun _ => rfl) rfl) ?_
  refine ok_c (j := 51) rfl (ok_virtual (y := yX11_saysSo) (n := 3) (d' := 6) (t := 0) (T := TX11) (N := 14) (ix := 224) is_ci (pc := 89) rfl rfl (by decide +kernel) (by decide) (ct_X11_saysSo l) rfl (fun _ => rfl) ce_fI_rec wd_703 wd_705 wd_18 wd_57) ?_
  refine ok_c (j := 52) rfl (ok_ifeq (off := 20) (tg := 112) (pc := 92) rfl rfl (by decide +kernel) rfl (by decide)) ?_
  refine ok_c (j := 53) rfl (ok_iinc (n := 1) (pc := 95) rfl rfl (by decide +kernel) (by decide) (by decide)) ?_
  refine ok_c (j := 54) rfl (ok_iload (j := 7) (pc := 98) rfl rfl (by decide +kernel)) ?_
  refine ok_c (j := 55) rfl (ok_istore (j := 6) (pc := 100) rfl rfl (by decide +kernel) (by decide)) ?_
  refine ok_c (j := 56) rfl (ok_iload (j := 5) (pc := 102) rfl rfl (by decide +kernel)) ?_
  refine ok_c (j := 57) rfl (ok_iconst (n := (-1)) (pc := 104) rfl rfl (by decide +kernel) (by decide)) ?_
  refine ok_c (j := 58) rfl (ok_cmpne (off := 7) (tg := 112) (pc := 105) rfl rfl (by decide +kernel) rfl (by decide)) ?_
  refine ok_c (j := 59) rfl (ok_iload (j := 7) (pc := 108) rfl rfl (by decide +kernel)) ?_
  refine ok_c (j := 60) rfl (ok_istore (j := 5) (pc := 110) rfl rfl (by decide +kernel) (by decide)) ?_
  refine ok_c (j := 61) rfl (ok_iinc (n := 1) (pc := 112) rfl rfl (by decide +kernel) (by decide) (by decide)) ?_
  refine ok_c (j := 62) rfl (ok_goto (off := (-44)) (tg := 71) (pc := 115) rfl (by decide +kernel) rfl (by decide)) ?_
  refine ok_c (j := 63) rfl (ok_iload_n (j := ⟨3, by decide⟩) (pc := 118) rfl rfl (by decide +kernel)) ?_
  refine ok_c (j := 64) rfl (ok_ifne (off := 8) (tg := 127) (pc := 119) rfl rfl (by decide +kernel) rfl (by decide)) ?_
  refine ok_c (j := 65) rfl (ok_iload (j := 4) (pc := 122) rfl rfl (by decide +kernel)) ?_
  refine ok_c (j := 66) rfl (ok_goto (off := 15) (tg := 139) (pc := 124) rfl (by decide +kernel) rfl (by decide)) ?_
  refine ok_c (j := 67) rfl (ok_iload_n (j := ⟨3, by decide⟩) (pc := 127) rfl rfl (by decide +kernel)) ?_
  refine ok_c (j := 68) rfl (ok_iconst (n := 1) (pc := 128) rfl rfl (by decide +kernel) (by decide)) ?_
  refine ok_c (j := 69) rfl (ok_cmpne (off := 8) (tg := 137) (pc := 129) rfl rfl (by decide +kernel) rfl (by decide)) ?_
  refine ok_c (j := 70) rfl (ok_iload (j := 5) (pc := 132) rfl rfl (by decide +kernel)) ?_
  refine ok_c (j := 71) rfl (ok_goto (off := 5) (tg := 139) (pc := 134) rfl (by decide +kernel) rfl (by decide)) ?_
  refine ok_c (j := 72) rfl (ok_iload (j := 6) (pc := 137) rfl rfl (by decide +kernel)) ?_
  refine ok_c (j := 73) rfl (ok_iret (pc := 139) rfl (by decide +kernel) rfl) ?_
  exact trivial
noncomputable def F_X11_hisCost := ce_fI tb_X11_hisCost 8 (some 0)
theorem ct_X11_hisCost (l : Launch) : ce_callee l yX11_hisCost 3 7 0 0 (ce_wI F_X11_hisCost) := ⟨_, _, _, ce_ctr_of (pcs := pc_X11_hisCost) (by decide +kernel) rfl (ok_X11_hisCost l ) ce_fI_run, ce_tw_at wd_695 rfl, by decide, by decide +kernel, by decide +kernel, by decide +kernel⟩
def pc_X11_slipped : List Nat := [0, 1, 2, 5, 8, 9, 10, 13, 16, 18, 19, 20, 23, 24, 27, 28, 29, 32, 33, 36, 37, 40, 41, 42, 45, 46, 49, 50, 53, 56, 57, 60, 61, 62, 63, 66, 69, 70, 73, 76]
noncomputable def tb_X11_slipped : List ce_Op := [o_aload 0, o_iload 1, o_ci 2 F_X11_isSeller 0 0 0 0, o_ifeq 8, o_iload 2, o_iload 3, o_ci 2 F_X11_isRule 0 0 0 0, o_ifne 10, o_int (-2), o_iret, o_aload 0, o_getS 0 11 (fun _ => 18), o_aload 0, o_getS 0 2 (fun _ => 0), o_iload 1, o_ald 2 11 ce_k3, o_cv 2 F_X5_take 0 0 0 0, o_aload 0, o_getS 0 11 (fun _ => 18), o_aload 0, o_getS 0 1 (fun _ => 0), o_int 3, o_ald 1 10 ce_k0, o_putM 11 0 10, o_aload 0, o_getS 0 11 (fun _ => 18), o_aload 0, o_getS 0 12 (fun _ => 0), o_cv 2 F_X5_begin 0 0 0 0, o_aload 0, o_getS 0 11 (fun _ => 18), o_iload 2, o_iload 3, o_aload 0, o_getS 0 12 (fun _ => 0), o_cv 4 F_X5_goByRule 0 0 0 0, o_aload 0, o_getS 0 11 (fun _ => 18), o_getI 11 7, o_iret]
theorem tl_X11_slipped : ce_TL tb_X11_slipped := by
  unfold tb_X11_slipped
  refine tl_c ta_aload ?_
  refine tl_c ta_iload ?_
  refine tl_c ta_ci ?_
  refine tl_c ta_ifeq ?_
  refine tl_c ta_iload ?_
  refine tl_c ta_iload ?_
  refine tl_c ta_ci ?_
  refine tl_c ta_ifne ?_
  refine tl_c ta_int ?_
  refine tl_c ta_iret ?_
  refine tl_c ta_aload ?_
  refine tl_c ta_getS ?_
  refine tl_c ta_aload ?_
  refine tl_c ta_getS ?_
  refine tl_c ta_iload ?_
  refine tl_c ta_ald ?_
  refine tl_c ta_cv ?_
  refine tl_c ta_aload ?_
  refine tl_c ta_getS ?_
  refine tl_c ta_aload ?_
  refine tl_c ta_getS ?_
  refine tl_c ta_int ?_
  refine tl_c ta_ald ?_
  refine tl_c ta_putM ?_
  refine tl_c ta_aload ?_
  refine tl_c ta_getS ?_
  refine tl_c ta_aload ?_
  refine tl_c ta_getS ?_
  refine tl_c ta_cv ?_
  refine tl_c ta_aload ?_
  refine tl_c ta_getS ?_
  refine tl_c ta_iload ?_
  refine tl_c ta_iload ?_
  refine tl_c ta_aload ?_
  refine tl_c ta_getS ?_
  refine tl_c ta_cv ?_
  refine tl_c ta_aload ?_
  refine tl_c ta_getS ?_
  refine tl_c ta_getI ?_
  refine tl_c ta_iret ?_
  exact trivial
set_option maxRecDepth 20000 in
theorem ok_X11_slipped (l : Launch) : ce_OkL l cX11_slipped RX11 4 (some .int) 6 0 0 pc_X11_slipped 0 tb_X11_slipped := by
  unfold tb_X11_slipped
  refine ok_c (j := 1) rfl (ok_aload_n (j := ⟨0, by decide⟩) (pc := 0) rfl rfl (by decide +kernel)) ?_
  refine ok_c (j := 2) rfl (ok_iload_n (j := ⟨1, by decide⟩) (pc := 1) rfl rfl (by decide +kernel)) ?_
  refine ok_c (j := 3) rfl (ok_virtual (y := yX11_isSeller) (n := 1) (d' := 1) (t := 0) (T := TX11) (N := 14) (ix := 138) is_ci (pc := 2) rfl rfl (by decide +kernel) (by decide) (ct_X11_isSeller l) rfl (fun _ => rfl) ce_fI_rec wd_526 wd_528 wd_16 wd_57) ?_
  refine ok_c (j := 4) rfl (ok_ifeq (off := 11) (tg := 16) (pc := 5) rfl rfl (by decide +kernel) rfl (by decide)) ?_
  refine ok_c (j := 5) rfl (ok_iload_n (j := ⟨2, by decide⟩) (pc := 8) rfl rfl (by decide +kernel)) ?_
  refine ok_c (j := 6) rfl (ok_iload_n (j := ⟨3, by decide⟩) (pc := 9) rfl rfl (by decide +kernel)) ?_
  refine ok_c (j := 7) rfl (ok_static (y := yX11_isRule) (n := 2) (d' := 1) (ix := 198) is_ci (pc := 10) rfl rfl (by decide +kernel) (by decide) rfl (ct_X11_isRule l) wd_652 wd_653 wd_57) ?_
  refine ok_c (j := 8) rfl (ok_ifne (off := 6) (tg := 19) (pc := 13) rfl rfl (by decide +kernel) rfl (by decide)) ?_
  refine ok_c (j := 9) rfl (ok_bipush (n := (-2)) (pc := 16) rfl rfl (by decide +kernel) (by decide)) ?_
  refine ok_c (j := 10) rfl (ok_iret (pc := 18) rfl (by decide +kernel) rfl) ?_
  refine ok_c (j := 11) rfl (ok_aload_n (j := ⟨0, by decide⟩) (pc := 19) rfl rfl (by decide +kernel)) ?_
  refine ok_c (j := 12) rfl (ok_getS (f := 8) (ci := 11) (C := RX11) (T := TX11) (N := 14) (ix := 75) (pc := 20) rfl rfl (by decide +kernel) rfl (fun _ => rfl) rfl cw_X11 (by decide) rfl wd_451) ?_
  refine ok_c (j := 13) rfl (ok_aload_n (j := ⟨0, by decide⟩) (pc := 23) rfl rfl (by decide +kernel)) ?_
  refine ok_c (j := 14) rfl (ok_getS (f := 1) (ci := 11) (C := RX11) (T := TX11) (N := 14) (ix := 17) (pc := 24) rfl rfl (by decide +kernel) rfl (fun _ => rfl) rfl cw_X11 (by decide) rfl wd_444) ?_
  refine ok_c (j := 15) rfl (ok_iload_n (j := ⟨1, by decide⟩) (pc := 27) rfl rfl (by decide +kernel)) ?_
  refine ok_c (j := 16) rfl (ok_ald (ty := .object RX5) (pc := 28) rfl rfl (by decide +kernel) rfl rfl rfl (fun _ => rfl) rfl) ?_
  refine ok_c (j := 17) rfl (ok_virtual (y := yX5_take) (n := 1) (d' := 2) (t := 11) (T := TX5) (N := 8) (ix := 209) is_cv (pc := 29) rfl rfl (by decide +kernel) (by decide) (ct_X5_take l) rfl (fun _ => rfl) ce_fV_rec wd_659 wd_660 wd_661 wd_65) ?_
  refine ok_c (j := 18) rfl (ok_aload_n (j := ⟨0, by decide⟩) (pc := 32) rfl rfl (by decide +kernel)) ?_
  refine ok_c (j := 19) rfl (ok_getS (f := 8) (ci := 11) (C := RX11) (T := TX11) (N := 14) (ix := 75) (pc := 33) rfl rfl (by decide +kernel) rfl (fun _ => rfl) rfl cw_X11 (by decide) rfl wd_451) ?_
  refine ok_c (j := 20) rfl (ok_aload_n (j := ⟨0, by decide⟩) (pc := 36) rfl rfl (by decide +kernel)) ?_
  refine ok_c (j := 21) rfl (ok_getS (f := 0) (ci := 11) (C := RX11) (T := TX11) (N := 14) (ix := 11) (pc := 37) rfl rfl (by decide +kernel) rfl (fun _ => rfl) rfl cw_X11 (by decide) rfl wd_443) ?_
  refine ok_c (j := 22) rfl (ok_iconst (n := 3) (pc := 40) rfl rfl (by decide +kernel) (by decide)) ?_
  refine ok_c (j := 23) rfl (ok_ald (ty := .object RX3) (pc := 41) rfl rfl (by decide +kernel) rfl rfl rfl (fun _ => rfl) rfl) ?_
  refine ok_c (j := 24) rfl (ok_putM (ci := 5) (C := RX5) (T := TX5) (N := 8) (ty := tyX5) (ix := 171) (pc := 42) rfl rfl (by decide +kernel) rfl (fun _ => rfl) rfl cw_X5 tyX5_ok nmX5 (by decide) rfl rfl rfl wd_181) ?_
  refine ok_c (j := 25) rfl (ok_aload_n (j := ⟨0, by decide⟩) (pc := 45) rfl rfl (by decide +kernel)) ?_
  refine ok_c (j := 26) rfl (ok_getS (f := 8) (ci := 11) (C := RX11) (T := TX11) (N := 14) (ix := 75) (pc := 46) rfl rfl (by decide +kernel) rfl (fun _ => rfl) rfl cw_X11 (by decide) rfl wd_451) ?_
  refine ok_c (j := 27) rfl (ok_aload_n (j := ⟨0, by decide⟩) (pc := 49) rfl rfl (by decide +kernel)) ?_
  refine ok_c (j := 28) rfl (ok_getS (f := 2) (ci := 11) (C := RX11) (T := TX11) (N := 14) (ix := 108) (pc := 50) rfl rfl (by decide +kernel) rfl (fun _ => rfl) rfl cw_X11 (by decide) rfl wd_445) ?_
  refine ok_c (j := 29) rfl (ok_virtual (y := yX5_begin) (n := 1) (d' := 5) (t := 11) (T := TX5) (N := 8) (ix := 142) is_cv (pc := 53) rfl rfl (by decide +kernel) (by decide) (ct_X5_begin l) rfl (fun _ => rfl) ce_fV_rec wd_494 wd_495 wd_496 wd_65) ?_
  refine ok_c (j := 30) rfl (ok_aload_n (j := ⟨0, by decide⟩) (pc := 56) rfl rfl (by decide +kernel)) ?_
  refine ok_c (j := 31) rfl (ok_getS (f := 8) (ci := 11) (C := RX11) (T := TX11) (N := 14) (ix := 75) (pc := 57) rfl rfl (by decide +kernel) rfl (fun _ => rfl) rfl cw_X11 (by decide) rfl wd_451) ?_
  refine ok_c (j := 32) rfl (ok_iload_n (j := ⟨2, by decide⟩) (pc := 60) rfl rfl (by decide +kernel)) ?_
  refine ok_c (j := 33) rfl (ok_iload_n (j := ⟨3, by decide⟩) (pc := 61) rfl rfl (by decide +kernel)) ?_
  refine ok_c (j := 34) rfl (ok_aload_n (j := ⟨0, by decide⟩) (pc := 62) rfl rfl (by decide +kernel)) ?_
  refine ok_c (j := 35) rfl (ok_getS (f := 2) (ci := 11) (C := RX11) (T := TX11) (N := 14) (ix := 108) (pc := 63) rfl rfl (by decide +kernel) rfl (fun _ => rfl) rfl cw_X11 (by decide) rfl wd_445) ?_
  refine ok_c (j := 36) rfl (ok_virtual (y := yX5_goByRule) (n := 3) (d' := 5) (t := 11) (T := TX5) (N := 8) (ix := 212) is_cv (pc := 66) rfl rfl (by decide +kernel) (by decide) (ct_X5_goByRule l) rfl (fun _ => rfl) ce_fV_rec wd_667 wd_668 wd_669 wd_65) ?_
  refine ok_c (j := 37) rfl (ok_aload_n (j := ⟨0, by decide⟩) (pc := 69) rfl rfl (by decide +kernel)) ?_
  refine ok_c (j := 38) rfl (ok_getS (f := 8) (ci := 11) (C := RX11) (T := TX11) (N := 14) (ix := 75) (pc := 70) rfl rfl (by decide +kernel) rfl (fun _ => rfl) rfl cw_X11 (by decide) rfl wd_451) ?_
  refine ok_c (j := 39) rfl (ok_getI (ci := 5) (C := RX5) (T := TX5) (N := 8) (ix := 164) (pc := 73) rfl rfl (by decide +kernel) rfl (fun _ => rfl) rfl cw_X5 (by decide) rfl wd_198) ?_
  refine ok_c (j := 40) rfl (ok_iret (pc := 76) rfl (by decide +kernel) rfl) ?_
  exact trivial
noncomputable def F_X11_slipped := ce_fI tb_X11_slipped 4 (some 0)
theorem ct_X11_slipped (l : Launch) : ce_callee l yX11_slipped 3 6 0 0 (ce_wI F_X11_slipped) := ⟨_, _, _, ce_ctr_of (pcs := pc_X11_slipped) (by decide +kernel) rfl (ok_X11_slipped l ) ce_fI_run, ce_tw_at wd_718 rfl, by decide, by decide +kernel, by decide +kernel, by decide +kernel⟩
def pc_X11_crowdHasHope : List Nat := [0, 1, 2, 3, 4, 7, 10, 11, 13, 16, 17, 20, 21, 22, 25, 28, 29, 32, 33, 36, 37, 38, 39, 42, 43, 46, 49, 52, 53, 54, 57, 60, 61]
noncomputable def tb_X11_crowdHasHope : List ce_Op := [o_int 0, o_istore 1, o_iload 1, o_aload 0, o_getI 0 6, o_cmpge 31, o_iload 1, o_int 6, o_cmpge 31, o_aload 0, o_getS 0 3 (fun _ => 0), o_iload 1, o_ald 3 11 ce_k31, o_getI 11 6, o_ifne 29, o_aload 0, o_getS 0 12 (fun _ => 1), o_aload 0, o_getS 0 3 (fun _ => 0), o_iload 1, o_ald 3 11 ce_k31, o_int 0, o_ci 3 F_X4_least 0 0 0 0, o_aload 0, o_getS 0 12 (fun _ => 1), o_getI 12 2, o_cmpgt 29, o_int 1, o_zret, o_iinc 1 1, o_goto 2, o_int 0, o_zret]
theorem tl_X11_crowdHasHope : ce_TL tb_X11_crowdHasHope := by
  unfold tb_X11_crowdHasHope
  refine tl_c ta_int ?_
  refine tl_c ta_istore ?_
  refine tl_c ta_iload ?_
  refine tl_c ta_aload ?_
  refine tl_c ta_getI ?_
  refine tl_c ta_cmpge ?_
  refine tl_c ta_iload ?_
  refine tl_c ta_int ?_
  refine tl_c ta_cmpge ?_
  refine tl_c ta_aload ?_
  refine tl_c ta_getS ?_
  refine tl_c ta_iload ?_
  refine tl_c ta_ald ?_
  refine tl_c ta_getI ?_
  refine tl_c ta_ifne ?_
  refine tl_c ta_aload ?_
  refine tl_c ta_getS ?_
  refine tl_c ta_aload ?_
  refine tl_c ta_getS ?_
  refine tl_c ta_iload ?_
  refine tl_c ta_ald ?_
  refine tl_c ta_int ?_
  refine tl_c ta_ci ?_
  refine tl_c ta_aload ?_
  refine tl_c ta_getS ?_
  refine tl_c ta_getI ?_
  refine tl_c ta_cmpgt ?_
  refine tl_c ta_int ?_
  refine tl_c ta_zret ?_
  refine tl_c ta_iinc ?_
  refine tl_c ta_goto ?_
  refine tl_c ta_int ?_
  refine tl_c ta_zret ?_
  exact trivial
set_option maxRecDepth 20000 in
theorem ok_X11_crowdHasHope (l : Launch) : ce_OkL l cX11_crowdHasHope RX11 2 (some .boolean) 4 0 0 pc_X11_crowdHasHope 0 tb_X11_crowdHasHope := by
  unfold tb_X11_crowdHasHope
  refine ok_c (j := 1) rfl (ok_iconst (n := 0) (pc := 0) rfl rfl (by decide +kernel) (by decide)) ?_
  refine ok_c (j := 2) rfl (ok_istore_n (j := ⟨1, by decide⟩) (pc := 1) rfl rfl (by decide +kernel) (by decide)) ?_
  refine ok_c (j := 3) rfl (ok_iload_n (j := ⟨1, by decide⟩) (pc := 2) rfl rfl (by decide +kernel)) ?_
  refine ok_c (j := 4) rfl (ok_aload_n (j := ⟨0, by decide⟩) (pc := 3) rfl rfl (by decide +kernel)) ?_
  refine ok_c (j := 5) rfl (ok_getI (ci := 11) (C := RX11) (T := TX11) (N := 14) (ix := 40) (pc := 4) rfl rfl (by decide +kernel) rfl (fun _ => rfl) rfl cw_X11 (by decide) rfl wd_449) ?_
  refine ok_c (j := 6) rfl (ok_cmpge (off := 53) (tg := 60) (pc := 7) rfl rfl (by decide +kernel) rfl (by decide)) ?_
  refine ok_c (j := 7) rfl (ok_iload_n (j := ⟨1, by decide⟩) (pc := 10) rfl rfl (by decide +kernel)) ?_
  refine ok_c (j := 8) rfl (ok_bipush (n := 6) (pc := 11) rfl rfl (by decide +kernel) (by decide)) ?_
  refine ok_c (j := 9) rfl (ok_cmpge (off := 47) (tg := 60) (pc := 13) rfl rfl (by decide +kernel) rfl (by decide)) ?_
  refine ok_c (j := 10) rfl (ok_aload_n (j := ⟨0, by decide⟩) (pc := 16) rfl rfl (by decide +kernel)) ?_
  refine ok_c (j := 11) rfl (ok_getS (f := 9) (ci := 11) (C := RX11) (T := TX11) (N := 14) (ix := 47) (pc := 17) rfl rfl (by decide +kernel) rfl (fun _ => rfl) rfl cw_X11 (by decide) rfl wd_452) ?_
  refine ok_c (j := 12) rfl (ok_iload_n (j := ⟨1, by decide⟩) (pc := 20) rfl rfl (by decide +kernel)) ?_
  refine ok_c (j := 13) rfl (ok_ald (ty := .object RX5) (pc := 21) rfl rfl (by decide +kernel) rfl rfl rfl (fun _ => rfl) rfl) ?_
  refine ok_c (j := 14) rfl (ok_getI (ci := 5) (C := RX5) (T := TX5) (N := 8) (ix := 161) (pc := 22) rfl rfl (by decide +kernel) rfl (fun _ => rfl) rfl cw_X5 (by decide) rfl wd_196) ?_
  refine ok_c (j := 15) rfl (ok_ifne (off := 29) (tg := 54) (pc := 25) rfl rfl (by decide +kernel) rfl (by decide)) ?_
  refine ok_c (j := 16) rfl (ok_aload_n (j := ⟨0, by decide⟩) (pc := 28) rfl rfl (by decide +kernel)) ?_
  refine ok_c (j := 17) rfl (ok_getS (f := 10) (ci := 11) (C := RX11) (T := TX11) (N := 14) (ix := 112) (pc := 29) rfl rfl (by decide +kernel) rfl (fun _ => rfl) rfl cw_X11 (by decide) rfl wd_453) ?_
  refine ok_c (j := 18) rfl (ok_aload_n (j := ⟨0, by decide⟩) (pc := 32) rfl rfl (by decide +kernel)) ?_
  refine ok_c (j := 19) rfl (ok_getS (f := 9) (ci := 11) (C := RX11) (T := TX11) (N := 14) (ix := 47) (pc := 33) rfl rfl (by decide +kernel) rfl (fun _ => rfl) rfl cw_X11 (by decide) rfl wd_452) ?_
  refine ok_c (j := 20) rfl (ok_iload_n (j := ⟨1, by decide⟩) (pc := 36) rfl rfl (by decide +kernel)) ?_
  refine ok_c (j := 21) rfl (ok_ald (ty := .object RX5) (pc := 37) rfl rfl (by decide +kernel) rfl rfl rfl (fun _ => rfl) rfl) ?_
  refine ok_c (j := 22) rfl (ok_iconst (n := 0) (pc := 38) rfl rfl (by decide +kernel) (by decide)) ?_
  refine ok_c (j := 23) rfl (ok_virtual (y := yX4_least) (n := 2) (d' := 3) (t := 12) (T := TX4) (N := 5) (ix := 167) is_ci (pc := 39) rfl rfl (by decide +kernel) (by decide) (ct_X4_least l) rfl (fun _ => rfl) ce_fI_rec wd_541 wd_514 wd_515 wd_74) ?_
  refine ok_c (j := 24) rfl (ok_aload_n (j := ⟨0, by decide⟩) (pc := 42) rfl rfl (by decide +kernel)) ?_
  refine ok_c (j := 25) rfl (ok_getS (f := 10) (ci := 11) (C := RX11) (T := TX11) (N := 14) (ix := 112) (pc := 43) rfl rfl (by decide +kernel) rfl (fun _ => rfl) rfl cw_X11 (by decide) rfl wd_453) ?_
  refine ok_c (j := 26) rfl (ok_getI (ci := 4) (C := RX4) (T := TX4) (N := 5) (ix := 135) (pc := 46) rfl rfl (by decide +kernel) rfl (fun _ => rfl) rfl cw_X4 (by decide) rfl wd_426) ?_
  refine ok_c (j := 27) rfl (ok_cmpgt (off := 5) (tg := 54) (pc := 49) rfl rfl (by decide +kernel) rfl (by decide)) ?_
  refine ok_c (j := 28) rfl (ok_iconst (n := 1) (pc := 52) rfl rfl (by decide +kernel) (by decide)) ?_
  refine ok_c (j := 29) rfl (ok_zret (pc := 53) rfl (by decide +kernel) rfl) ?_
  refine ok_c (j := 30) rfl (ok_iinc (n := 1) (pc := 54) rfl rfl (by decide +kernel) (by decide) (by decide)) ?_
  refine ok_c (j := 31) rfl (ok_goto (off := (-55)) (tg := 2) (pc := 57) rfl (by decide +kernel) rfl (by decide)) ?_
  refine ok_c (j := 32) rfl (ok_iconst (n := 0) (pc := 60) rfl rfl (by decide +kernel) (by decide)) ?_
  refine ok_c (j := 33) rfl (ok_zret (pc := 61) rfl (by decide +kernel) rfl) ?_
  exact trivial
noncomputable def F_X11_crowdHasHope := ce_fI tb_X11_crowdHasHope 2 (some 0)
theorem ct_X11_crowdHasHope (l : Launch) : ce_callee l yX11_crowdHasHope 0 4 0 0 (ce_wI F_X11_crowdHasHope) := ⟨_, _, _, ce_ctr_of (pcs := pc_X11_crowdHasHope) (by decide +kernel) rfl (ok_X11_crowdHasHope l ) ce_fI_run, ce_tw_at wd_727 rfl, by decide, by decide +kernel, by decide +kernel, by decide +kernel⟩
def pc_X11_crowdSells : List Nat := [0, 1, 2, 3, 4, 7, 10, 11, 13, 16, 17, 20, 21, 22, 25, 28, 29, 32, 33, 34, 35, 36, 37, 40, 43, 44, 47, 48, 49, 52, 53, 56, 57, 60, 61, 62, 65, 66, 69, 72, 73]
noncomputable def tb_X11_crowdSells : List ce_Op := [o_int 0, o_istore 3, o_iload 3, o_aload 0, o_getI 0 6, o_cmpge 39, o_iload 3, o_int 6, o_cmpge 39, o_aload 0, o_getS 0 3 (fun _ => 0), o_iload 3, o_ald 3 11 ce_k31, o_getI 11 6, o_ifne 37, o_aload 0, o_getS 0 3 (fun _ => 0), o_iload 3, o_ald 3 11 ce_k31, o_iload 1, o_iload 2, o_aload 0, o_getS 0 12 (fun _ => 1), o_cv 4 F_X5_goByRule 0 0 0 0, o_aload 0, o_getS 0 3 (fun _ => 0), o_iload 3, o_ald 3 11 ce_k31, o_getI 11 6, o_int 1, o_cmpne 37, o_aload 0, o_getS 0 3 (fun _ => 0), o_iload 3, o_ald 3 11 ce_k31, o_getI 11 7, o_iret, o_iinc 3 1, o_goto 2, o_int (-1), o_iret]
theorem tl_X11_crowdSells : ce_TL tb_X11_crowdSells := by
  unfold tb_X11_crowdSells
  refine tl_c ta_int ?_
  refine tl_c ta_istore ?_
  refine tl_c ta_iload ?_
  refine tl_c ta_aload ?_
  refine tl_c ta_getI ?_
  refine tl_c ta_cmpge ?_
  refine tl_c ta_iload ?_
  refine tl_c ta_int ?_
  refine tl_c ta_cmpge ?_
  refine tl_c ta_aload ?_
  refine tl_c ta_getS ?_
  refine tl_c ta_iload ?_
  refine tl_c ta_ald ?_
  refine tl_c ta_getI ?_
  refine tl_c ta_ifne ?_
  refine tl_c ta_aload ?_
  refine tl_c ta_getS ?_
  refine tl_c ta_iload ?_
  refine tl_c ta_ald ?_
  refine tl_c ta_iload ?_
  refine tl_c ta_iload ?_
  refine tl_c ta_aload ?_
  refine tl_c ta_getS ?_
  refine tl_c ta_cv ?_
  refine tl_c ta_aload ?_
  refine tl_c ta_getS ?_
  refine tl_c ta_iload ?_
  refine tl_c ta_ald ?_
  refine tl_c ta_getI ?_
  refine tl_c ta_int ?_
  refine tl_c ta_cmpne ?_
  refine tl_c ta_aload ?_
  refine tl_c ta_getS ?_
  refine tl_c ta_iload ?_
  refine tl_c ta_ald ?_
  refine tl_c ta_getI ?_
  refine tl_c ta_iret ?_
  refine tl_c ta_iinc ?_
  refine tl_c ta_goto ?_
  refine tl_c ta_int ?_
  refine tl_c ta_iret ?_
  exact trivial
set_option maxRecDepth 20000 in
theorem ok_X11_crowdSells (l : Launch) : ce_OkL l cX11_crowdSells RX11 4 (some .int) 6 0 0 pc_X11_crowdSells 0 tb_X11_crowdSells := by
  unfold tb_X11_crowdSells
  refine ok_c (j := 1) rfl (ok_iconst (n := 0) (pc := 0) rfl rfl (by decide +kernel) (by decide)) ?_
  refine ok_c (j := 2) rfl (ok_istore_n (j := ⟨3, by decide⟩) (pc := 1) rfl rfl (by decide +kernel) (by decide)) ?_
  refine ok_c (j := 3) rfl (ok_iload_n (j := ⟨3, by decide⟩) (pc := 2) rfl rfl (by decide +kernel)) ?_
  refine ok_c (j := 4) rfl (ok_aload_n (j := ⟨0, by decide⟩) (pc := 3) rfl rfl (by decide +kernel)) ?_
  refine ok_c (j := 5) rfl (ok_getI (ci := 11) (C := RX11) (T := TX11) (N := 14) (ix := 40) (pc := 4) rfl rfl (by decide +kernel) rfl (fun _ => rfl) rfl cw_X11 (by decide) rfl wd_449) ?_
  refine ok_c (j := 6) rfl (ok_cmpge (off := 65) (tg := 72) (pc := 7) rfl rfl (by decide +kernel) rfl (by decide)) ?_
  refine ok_c (j := 7) rfl (ok_iload_n (j := ⟨3, by decide⟩) (pc := 10) rfl rfl (by decide +kernel)) ?_
  refine ok_c (j := 8) rfl (ok_bipush (n := 6) (pc := 11) rfl rfl (by decide +kernel) (by decide)) ?_
  refine ok_c (j := 9) rfl (ok_cmpge (off := 59) (tg := 72) (pc := 13) rfl rfl (by decide +kernel) rfl (by decide)) ?_
  refine ok_c (j := 10) rfl (ok_aload_n (j := ⟨0, by decide⟩) (pc := 16) rfl rfl (by decide +kernel)) ?_
  refine ok_c (j := 11) rfl (ok_getS (f := 9) (ci := 11) (C := RX11) (T := TX11) (N := 14) (ix := 47) (pc := 17) rfl rfl (by decide +kernel) rfl (fun _ => rfl) rfl cw_X11 (by decide) rfl wd_452) ?_
  refine ok_c (j := 12) rfl (ok_iload_n (j := ⟨3, by decide⟩) (pc := 20) rfl rfl (by decide +kernel)) ?_
  refine ok_c (j := 13) rfl (ok_ald (ty := .object RX5) (pc := 21) rfl rfl (by decide +kernel) rfl rfl rfl (fun _ => rfl) rfl) ?_
  refine ok_c (j := 14) rfl (ok_getI (ci := 5) (C := RX5) (T := TX5) (N := 8) (ix := 161) (pc := 22) rfl rfl (by decide +kernel) rfl (fun _ => rfl) rfl cw_X5 (by decide) rfl wd_196) ?_
  refine ok_c (j := 15) rfl (ok_ifne (off := 41) (tg := 66) (pc := 25) rfl rfl (by decide +kernel) rfl (by decide)) ?_
  refine ok_c (j := 16) rfl (ok_aload_n (j := ⟨0, by decide⟩) (pc := 28) rfl rfl (by decide +kernel)) ?_
  refine ok_c (j := 17) rfl (ok_getS (f := 9) (ci := 11) (C := RX11) (T := TX11) (N := 14) (ix := 47) (pc := 29) rfl rfl (by decide +kernel) rfl (fun _ => rfl) rfl cw_X11 (by decide) rfl wd_452) ?_
  refine ok_c (j := 18) rfl (ok_iload_n (j := ⟨3, by decide⟩) (pc := 32) rfl rfl (by decide +kernel)) ?_
  refine ok_c (j := 19) rfl (ok_ald (ty := .object RX5) (pc := 33) rfl rfl (by decide +kernel) rfl rfl rfl (fun _ => rfl) rfl) ?_
  refine ok_c (j := 20) rfl (ok_iload_n (j := ⟨1, by decide⟩) (pc := 34) rfl rfl (by decide +kernel)) ?_
  refine ok_c (j := 21) rfl (ok_iload_n (j := ⟨2, by decide⟩) (pc := 35) rfl rfl (by decide +kernel)) ?_
  refine ok_c (j := 22) rfl (ok_aload_n (j := ⟨0, by decide⟩) (pc := 36) rfl rfl (by decide +kernel)) ?_
  refine ok_c (j := 23) rfl (ok_getS (f := 10) (ci := 11) (C := RX11) (T := TX11) (N := 14) (ix := 112) (pc := 37) rfl rfl (by decide +kernel) rfl (fun _ => rfl) rfl cw_X11 (by decide) rfl wd_453) ?_
  refine ok_c (j := 24) rfl (ok_virtual (y := yX5_goByRule) (n := 3) (d' := 5) (t := 11) (T := TX5) (N := 8) (ix := 212) is_cv (pc := 40) rfl rfl (by decide +kernel) (by decide) (ct_X5_goByRule l) rfl (fun _ => rfl) ce_fV_rec wd_667 wd_668 wd_669 wd_65) ?_
  refine ok_c (j := 25) rfl (ok_aload_n (j := ⟨0, by decide⟩) (pc := 43) rfl rfl (by decide +kernel)) ?_
  refine ok_c (j := 26) rfl (ok_getS (f := 9) (ci := 11) (C := RX11) (T := TX11) (N := 14) (ix := 47) (pc := 44) rfl rfl (by decide +kernel) rfl (fun _ => rfl) rfl cw_X11 (by decide) rfl wd_452) ?_
  refine ok_c (j := 27) rfl (ok_iload_n (j := ⟨3, by decide⟩) (pc := 47) rfl rfl (by decide +kernel)) ?_
  refine ok_c (j := 28) rfl (ok_ald (ty := .object RX5) (pc := 48) rfl rfl (by decide +kernel) rfl rfl rfl (fun _ => rfl) rfl) ?_
  refine ok_c (j := 29) rfl (ok_getI (ci := 5) (C := RX5) (T := TX5) (N := 8) (ix := 161) (pc := 49) rfl rfl (by decide +kernel) rfl (fun _ => rfl) rfl cw_X5 (by decide) rfl wd_196) ?_
  refine ok_c (j := 30) rfl (ok_iconst (n := 1) (pc := 52) rfl rfl (by decide +kernel) (by decide)) ?_
  refine ok_c (j := 31) rfl (ok_cmpne (off := 13) (tg := 66) (pc := 53) rfl rfl (by decide +kernel) rfl (by decide)) ?_
  refine ok_c (j := 32) rfl (ok_aload_n (j := ⟨0, by decide⟩) (pc := 56) rfl rfl (by decide +kernel)) ?_
  refine ok_c (j := 33) rfl (ok_getS (f := 9) (ci := 11) (C := RX11) (T := TX11) (N := 14) (ix := 47) (pc := 57) rfl rfl (by decide +kernel) rfl (fun _ => rfl) rfl cw_X11 (by decide) rfl wd_452) ?_
  refine ok_c (j := 34) rfl (ok_iload_n (j := ⟨3, by decide⟩) (pc := 60) rfl rfl (by decide +kernel)) ?_
  refine ok_c (j := 35) rfl (ok_ald (ty := .object RX5) (pc := 61) rfl rfl (by decide +kernel) rfl rfl rfl (fun _ => rfl) rfl) ?_
  refine ok_c (j := 36) rfl (ok_getI (ci := 5) (C := RX5) (T := TX5) (N := 8) (ix := 164) (pc := 62) rfl rfl (by decide +kernel) rfl (fun _ => rfl) rfl cw_X5 (by decide) rfl wd_198) ?_
  refine ok_c (j := 37) rfl (ok_iret (pc := 65) rfl (by decide +kernel) rfl) ?_
  refine ok_c (j := 38) rfl (ok_iinc (n := 1) (pc := 66) rfl rfl (by decide +kernel) (by decide) (by decide)) ?_
  refine ok_c (j := 39) rfl (ok_goto (off := (-67)) (tg := 2) (pc := 69) rfl (by decide +kernel) rfl (by decide)) ?_
  refine ok_c (j := 40) rfl (ok_iconst (n := (-1)) (pc := 72) rfl rfl (by decide +kernel) (by decide)) ?_
  refine ok_c (j := 41) rfl (ok_iret (pc := 73) rfl (by decide +kernel) rfl) ?_
  exact trivial
noncomputable def F_X11_crowdSells := ce_fI tb_X11_crowdSells 4 (some 0)
theorem ct_X11_crowdSells (l : Launch) : ce_callee l yX11_crowdSells 2 6 0 0 (ce_wI F_X11_crowdSells) := ⟨_, _, _, ce_ctr_of (pcs := pc_X11_crowdSells) (by decide +kernel) rfl (ok_X11_crowdSells l ) ce_fI_run, ce_tw_at wd_731 rfl, by decide, by decide +kernel, by decide +kernel, by decide +kernel⟩
def pc_X11_market : List Nat := [0, 1, 4, 7, 8, 9, 12, 15, 17, 20, 22, 23, 26, 28, 29, 30, 33, 34, 35, 37, 39, 42, 45, 47, 48, 49, 51, 53, 54, 57, 60, 62, 64, 67, 68, 71, 73, 74, 75, 78, 80, 81, 84, 87, 90, 91, 94, 95, 98, 101, 102, 104, 105, 107, 108, 110, 111, 113, 115, 117, 120, 123, 124, 127, 129, 131, 134, 135, 138, 141, 144, 145, 148, 150, 151, 152, 153, 156, 158, 160, 161, 164, 167, 169, 171, 172, 174, 177, 179, 182, 185, 188, 191, 193, 196, 198, 201, 203, 204, 207, 209, 212, 214]
noncomputable def tb_X11_market : List ce_Op := [o_iload 1, o_ci 1 F_X11_isSheet 0 0 0 0, o_ifeq 12, o_iload 2, o_iload 3, o_ci 2 F_X11_isRule 0 0 0 0, o_ifeq 12, o_iload 4, o_iflt 12, o_iload 4, o_int 2, o_cmple 14, o_int (-2), o_iret, o_aload 0, o_getS 0 6 (fun _ => 0), o_iload 1, o_ald 6 15 ce_k0, o_astore 5, o_aload 5, o_ci 1 F_X6_isMissing 0 0 0 0, o_ifeq 24, o_int (-11), o_iret, o_int 0, o_istore 6, o_iload 6, o_aload 0, o_getI 0 6, o_cmpge 44, o_iload 6, o_int 6, o_cmpge 44, o_aload 0, o_getS 0 3 (fun _ => 0), o_iload 6, o_ald 3 11 ce_k31, o_aload 0, o_getS 0 2 (fun _ => 0), o_iload 6, o_ald 2 11 ce_k3, o_cv 2 F_X5_take 0 0 0 0, o_iinc 6 1, o_goto 26, o_aload 0, o_getS 0 12 (fun _ => 1), o_aload 0, o_getS 0 12 (fun _ => 0), o_cv 2 F_X4_take 0 0 0 0, o_int 0, o_istore 6, o_int 0, o_istore 7, o_int 0, o_istore 8, o_int 0, o_istore 9, o_iload 9, o_aload 5, o_getI 15 2, o_cmpge 92, o_aload 0, o_getS 0 12 (fun _ => 1), o_aload 5, o_iload 9, o_ci 2 F_X6_at 0 0 0 0, o_int 0, o_int 1999, o_ci 3 F_X11_within 0 0 0 0, o_putI 12 2, o_aload 0, o_ci 1 F_X11_crowdHasHope 0 0 0 0, o_istore 10, o_aload 0, o_iload 2, o_iload 3, o_ci 3 F_X11_crowdSells 0 0 0 0, o_istore 11, o_iload 11, o_int (-1), o_cmpeq 87, o_iinc 6 1, o_iload 7, o_iload 11, o_bin q_add, o_istore 7, o_goto 90, o_iload 10, o_ifeq 90, o_iinc 8 1, o_iinc 9 1, o_goto 57, o_iload 4, o_ifne 96, o_iload 6, o_goto 102, o_iload 4, o_int 1, o_cmpne 101, o_iload 7, o_goto 102, o_iload 8, o_iret]
theorem tl_X11_market : ce_TL tb_X11_market := by
  unfold tb_X11_market
  refine tl_c ta_iload ?_
  refine tl_c ta_ci ?_
  refine tl_c ta_ifeq ?_
  refine tl_c ta_iload ?_
  refine tl_c ta_iload ?_
  refine tl_c ta_ci ?_
  refine tl_c ta_ifeq ?_
  refine tl_c ta_iload ?_
  refine tl_c ta_iflt ?_
  refine tl_c ta_iload ?_
  refine tl_c ta_int ?_
  refine tl_c ta_cmple ?_
  refine tl_c ta_int ?_
  refine tl_c ta_iret ?_
  refine tl_c ta_aload ?_
  refine tl_c ta_getS ?_
  refine tl_c ta_iload ?_
  refine tl_c ta_ald ?_
  refine tl_c ta_astore ?_
  refine tl_c ta_aload ?_
  refine tl_c ta_ci ?_
  refine tl_c ta_ifeq ?_
  refine tl_c ta_int ?_
  refine tl_c ta_iret ?_
  refine tl_c ta_int ?_
  refine tl_c ta_istore ?_
  refine tl_c ta_iload ?_
  refine tl_c ta_aload ?_
  refine tl_c ta_getI ?_
  refine tl_c ta_cmpge ?_
  refine tl_c ta_iload ?_
  refine tl_c ta_int ?_
  refine tl_c ta_cmpge ?_
  refine tl_c ta_aload ?_
  refine tl_c ta_getS ?_
  refine tl_c ta_iload ?_
  refine tl_c ta_ald ?_
  refine tl_c ta_aload ?_
  refine tl_c ta_getS ?_
  refine tl_c ta_iload ?_
  refine tl_c ta_ald ?_
  refine tl_c ta_cv ?_
  refine tl_c ta_iinc ?_
  refine tl_c ta_goto ?_
  refine tl_c ta_aload ?_
  refine tl_c ta_getS ?_
  refine tl_c ta_aload ?_
  refine tl_c ta_getS ?_
  refine tl_c ta_cv ?_
  refine tl_c ta_int ?_
  refine tl_c ta_istore ?_
  refine tl_c ta_int ?_
  refine tl_c ta_istore ?_
  refine tl_c ta_int ?_
  refine tl_c ta_istore ?_
  refine tl_c ta_int ?_
  refine tl_c ta_istore ?_
  refine tl_c ta_iload ?_
  refine tl_c ta_aload ?_
  refine tl_c ta_getI ?_
  refine tl_c ta_cmpge ?_
  refine tl_c ta_aload ?_
  refine tl_c ta_getS ?_
  refine tl_c ta_aload ?_
  refine tl_c ta_iload ?_
  refine tl_c ta_ci ?_
  refine tl_c ta_int ?_
  refine tl_c ta_int ?_
  refine tl_c ta_ci ?_
  refine tl_c ta_putI ?_
  refine tl_c ta_aload ?_
  refine tl_c ta_ci ?_
  refine tl_c ta_istore ?_
  refine tl_c ta_aload ?_
  refine tl_c ta_iload ?_
  refine tl_c ta_iload ?_
  refine tl_c ta_ci ?_
  refine tl_c ta_istore ?_
  refine tl_c ta_iload ?_
  refine tl_c ta_int ?_
  refine tl_c ta_cmpeq ?_
  refine tl_c ta_iinc ?_
  refine tl_c ta_iload ?_
  refine tl_c ta_iload ?_
  refine tl_c ta_bin ?_
  refine tl_c ta_istore ?_
  refine tl_c ta_goto ?_
  refine tl_c ta_iload ?_
  refine tl_c ta_ifeq ?_
  refine tl_c ta_iinc ?_
  refine tl_c ta_iinc ?_
  refine tl_c ta_goto ?_
  refine tl_c ta_iload ?_
  refine tl_c ta_ifne ?_
  refine tl_c ta_iload ?_
  refine tl_c ta_goto ?_
  refine tl_c ta_iload ?_
  refine tl_c ta_int ?_
  refine tl_c ta_cmpne ?_
  refine tl_c ta_iload ?_
  refine tl_c ta_goto ?_
  refine tl_c ta_iload ?_
  refine tl_c ta_iret ?_
  exact trivial
set_option maxRecDepth 20000 in
theorem ok_X11_market (l : Launch) : ce_OkL l cX11_market RX11 12 (some .int) 7 0 0 pc_X11_market 0 tb_X11_market := by
  unfold tb_X11_market
  refine ok_c (j := 1) rfl (ok_iload_n (j := ⟨1, by decide⟩) (pc := 0) rfl rfl (by decide +kernel)) ?_
  refine ok_c (j := 2) rfl (ok_static (y := yX11_isSheet) (n := 1) (d' := 1) (ix := 216) is_ci (pc := 1) rfl rfl (by decide +kernel) (by decide) rfl (ct_X11_isSheet l) wd_696 wd_697 wd_57) ?_
  refine ok_c (j := 3) rfl (ok_ifeq (off := 22) (tg := 26) (pc := 4) rfl rfl (by decide +kernel) rfl (by decide)) ?_
  refine ok_c (j := 4) rfl (ok_iload_n (j := ⟨2, by decide⟩) (pc := 7) rfl rfl (by decide +kernel)) ?_
  refine ok_c (j := 5) rfl (ok_iload_n (j := ⟨3, by decide⟩) (pc := 8) rfl rfl (by decide +kernel)) ?_
  refine ok_c (j := 6) rfl (ok_static (y := yX11_isRule) (n := 2) (d' := 1) (ix := 198) is_ci (pc := 9) rfl rfl (by decide +kernel) (by decide) rfl (ct_X11_isRule l) wd_652 wd_653 wd_57) ?_
  refine ok_c (j := 7) rfl (ok_ifeq (off := 14) (tg := 26) (pc := 12) rfl rfl (by decide +kernel) rfl (by decide)) ?_
  refine ok_c (j := 8) rfl (ok_iload (j := 4) (pc := 15) rfl rfl (by decide +kernel)) ?_
  refine ok_c (j := 9) rfl (ok_iflt (off := 9) (tg := 26) (pc := 17) rfl rfl (by decide +kernel) rfl (by decide)) ?_
  refine ok_c (j := 10) rfl (ok_iload (j := 4) (pc := 20) rfl rfl (by decide +kernel)) ?_
  refine ok_c (j := 11) rfl (ok_iconst (n := 2) (pc := 22) rfl rfl (by decide +kernel) (by decide)) ?_
  refine ok_c (j := 12) rfl (ok_cmple (off := 6) (tg := 29) (pc := 23) rfl rfl (by decide +kernel) rfl (by decide)) ?_
  refine ok_c (j := 13) rfl (ok_bipush (n := (-2)) (pc := 26) rfl rfl (by decide +kernel) (by decide)) ?_
  refine ok_c (j := 14) rfl (ok_iret (pc := 28) rfl (by decide +kernel) rfl) ?_
  refine ok_c (j := 15) rfl (ok_aload_n (j := ⟨0, by decide⟩) (pc := 29) rfl rfl (by decide +kernel)) ?_
  refine ok_c (j := 16) rfl (ok_getS (f := 5) (ci := 11) (C := RX11) (T := TX11) (N := 14) (ix := 36) (pc := 30) rfl rfl (by decide +kernel) rfl (fun _ => rfl) rfl cw_X11 (by decide) rfl wd_448) ?_
  refine ok_c (j := 17) rfl (ok_iload_n (j := ⟨1, by decide⟩) (pc := 33) rfl rfl (by decide +kernel)) ?_
  refine ok_c (j := 18) rfl (ok_ald (ty := .object RX6) (pc := 34) rfl rfl (by decide +kernel) rfl rfl rfl (fun _ => rfl) rfl) ?_
  refine ok_c (j := 19) rfl (ok_astore (j := 5) (pc := 35) rfl rfl (by decide +kernel) (by decide)) ?_
  refine ok_c (j := 20) rfl (ok_aload (j := 5) (pc := 37) rfl rfl (by decide +kernel)) ?_
  refine ok_c (j := 21) rfl (ok_virtual (y := yX6_isMissing) (n := 0) (d' := 1) (t := 15) (T := TX6) (N := 3) (ix := 219) is_ci (pc := 39) rfl rfl (by decide +kernel) (by decide) (ct_X6_isMissing l) rfl (fun _ => rfl) ce_fI_rec wd_699 wd_700 wd_701 wd_66) ?_
  refine ok_c (j := 22) rfl (ok_ifeq (off := 6) (tg := 48) (pc := 42) rfl rfl (by decide +kernel) rfl (by decide)) ?_
  refine ok_c (j := 23) rfl (ok_bipush (n := (-11)) (pc := 45) rfl rfl (by decide +kernel) (by decide)) ?_
  refine ok_c (j := 24) rfl (ok_iret (pc := 47) rfl (by decide +kernel) rfl) ?_
  refine ok_c (j := 25) rfl (ok_iconst (n := 0) (pc := 48) rfl rfl (by decide +kernel) (by decide)) ?_
  refine ok_c (j := 26) rfl (ok_istore (j := 6) (pc := 49) rfl rfl (by decide +kernel) (by decide)) ?_
  refine ok_c (j := 27) rfl (ok_iload (j := 6) (pc := 51) rfl rfl (by decide +kernel)) ?_
  refine ok_c (j := 28) rfl (ok_aload_n (j := ⟨0, by decide⟩) (pc := 53) rfl rfl (by decide +kernel)) ?_
  refine ok_c (j := 29) rfl (ok_getI (ci := 11) (C := RX11) (T := TX11) (N := 14) (ix := 40) (pc := 54) rfl rfl (by decide +kernel) rfl (fun _ => rfl) rfl cw_X11 (by decide) rfl wd_449) ?_
  refine ok_c (j := 30) rfl (ok_cmpge (off := 33) (tg := 90) (pc := 57) rfl rfl (by decide +kernel) rfl (by decide)) ?_
  refine ok_c (j := 31) rfl (ok_iload (j := 6) (pc := 60) rfl rfl (by decide +kernel)) ?_
  refine ok_c (j := 32) rfl (ok_bipush (n := 6) (pc := 62) rfl rfl (by decide +kernel) (by decide)) ?_
  refine ok_c (j := 33) rfl (ok_cmpge (off := 26) (tg := 90) (pc := 64) rfl rfl (by decide +kernel) rfl (by decide)) ?_
  refine ok_c (j := 34) rfl (ok_aload_n (j := ⟨0, by decide⟩) (pc := 67) rfl rfl (by decide +kernel)) ?_
  refine ok_c (j := 35) rfl (ok_getS (f := 9) (ci := 11) (C := RX11) (T := TX11) (N := 14) (ix := 47) (pc := 68) rfl rfl (by decide +kernel) rfl (fun _ => rfl) rfl cw_X11 (by decide) rfl wd_452) ?_
  refine ok_c (j := 36) rfl (ok_iload (j := 6) (pc := 71) rfl rfl (by decide +kernel)) ?_
  refine ok_c (j := 37) rfl (ok_ald (ty := .object RX5) (pc := 73) rfl rfl (by decide +kernel) rfl rfl rfl (fun _ => rfl) rfl) ?_
  refine ok_c (j := 38) rfl (ok_aload_n (j := ⟨0, by decide⟩) (pc := 74) rfl rfl (by decide +kernel)) ?_
  refine ok_c (j := 39) rfl (ok_getS (f := 1) (ci := 11) (C := RX11) (T := TX11) (N := 14) (ix := 17) (pc := 75) rfl rfl (by decide +kernel) rfl (fun _ => rfl) rfl cw_X11 (by decide) rfl wd_444) ?_
  refine ok_c (j := 40) rfl (ok_iload (j := 6) (pc := 78) rfl rfl (by decide +kernel)) ?_
  refine ok_c (j := 41) rfl (ok_ald (ty := .object RX5) (pc := 80) rfl rfl (by decide +kernel) rfl rfl rfl (fun _ => rfl) rfl) ?_
  refine ok_c (j := 42) rfl (ok_virtual (y := yX5_take) (n := 1) (d' := 2) (t := 11) (T := TX5) (N := 8) (ix := 209) is_cv (pc := 81) rfl rfl (by decide +kernel) (by decide) (ct_X5_take l) rfl (fun _ => rfl) ce_fV_rec wd_659 wd_660 wd_661 wd_65) ?_
  refine ok_c (j := 43) rfl (ok_iinc (n := 1) (pc := 84) rfl rfl (by decide +kernel) (by decide) (by decide)) ?_
  refine ok_c (j := 44) rfl (ok_goto (off := (-36)) (tg := 51) (pc := 87) rfl (by decide +kernel) rfl (by decide)) ?_
  refine ok_c (j := 45) rfl (ok_aload_n (j := ⟨0, by decide⟩) (pc := 90) rfl rfl (by decide +kernel)) ?_
  refine ok_c (j := 46) rfl (ok_getS (f := 10) (ci := 11) (C := RX11) (T := TX11) (N := 14) (ix := 112) (pc := 91) rfl rfl (by decide +kernel) rfl (fun _ => rfl) rfl cw_X11 (by decide) rfl wd_453) ?_
  refine ok_c (j := 47) rfl (ok_aload_n (j := ⟨0, by decide⟩) (pc := 94) rfl rfl (by decide +kernel)) ?_
  refine ok_c (j := 48) rfl (ok_getS (f := 2) (ci := 11) (C := RX11) (T := TX11) (N := 14) (ix := 108) (pc := 95) rfl rfl (by decide +kernel) rfl (fun _ => rfl) rfl cw_X11 (by decide) rfl wd_445) ?_
  refine ok_c (j := 49) rfl (ok_virtual (y := yX4_take) (n := 1) (d' := 1) (t := 12) (T := TX4) (N := 5) (ix := 206) is_cv (pc := 98) rfl rfl (by decide +kernel) (by decide) (ct_X4_take l) rfl (fun _ => rfl) ce_fV_rec wd_680 wd_681 wd_682 wd_74) ?_
  refine ok_c (j := 50) rfl (ok_iconst (n := 0) (pc := 101) rfl rfl (by decide +kernel) (by decide)) ?_
  refine ok_c (j := 51) rfl (ok_istore (j := 6) (pc := 102) rfl rfl (by decide +kernel) (by decide)) ?_
  refine ok_c (j := 52) rfl (ok_iconst (n := 0) (pc := 104) rfl rfl (by decide +kernel) (by decide)) ?_
  refine ok_c (j := 53) rfl (ok_istore (j := 7) (pc := 105) rfl rfl (by decide +kernel) (by decide)) ?_
  refine ok_c (j := 54) rfl (ok_iconst (n := 0) (pc := 107) rfl rfl (by decide +kernel) (by decide)) ?_
  refine ok_c (j := 55) rfl (ok_istore (j := 8) (pc := 108) rfl rfl (by decide +kernel) (by decide)) ?_
  refine ok_c (j := 56) rfl (ok_iconst (n := 0) (pc := 110) rfl rfl (by decide +kernel) (by decide)) ?_
  refine ok_c (j := 57) rfl (ok_istore (j := 9) (pc := 111) rfl rfl (by decide +kernel) (by decide)) ?_
  refine ok_c (j := 58) rfl (ok_iload (j := 9) (pc := 113) rfl rfl (by decide +kernel)) ?_
  refine ok_c (j := 59) rfl (ok_aload (j := 5) (pc := 115) rfl rfl (by decide +kernel)) ?_
  refine ok_c (j := 60) rfl (ok_getI (ci := 6) (C := RX6) (T := TX6) (N := 3) (ix := 223) (pc := 117) rfl rfl (by decide +kernel) rfl (fun _ => rfl) rfl cw_X6 (by decide) rfl wd_226) ?_
  refine ok_c (j := 61) rfl (ok_cmpge (off := 71) (tg := 191) (pc := 120) rfl rfl (by decide +kernel) rfl (by decide)) ?_
  refine ok_c (j := 62) rfl (ok_aload_n (j := ⟨0, by decide⟩) (pc := 123) rfl rfl (by decide +kernel)) ?_
  refine ok_c (j := 63) rfl (ok_getS (f := 10) (ci := 11) (C := RX11) (T := TX11) (N := 14) (ix := 112) (pc := 124) rfl rfl (by decide +kernel) rfl (fun _ => rfl) rfl cw_X11 (by decide) rfl wd_453) ?_
  refine ok_c (j := 64) rfl (ok_aload (j := 5) (pc := 127) rfl rfl (by decide +kernel)) ?_
  refine ok_c (j := 65) rfl (ok_iload (j := 9) (pc := 129) rfl rfl (by decide +kernel)) ?_
  refine ok_c (j := 66) rfl (ok_virtual (y := yX6_at) (n := 1) (d' := 2) (t := 15) (T := TX6) (N := 3) (ix := 228) is_ci (pc := 131) rfl rfl (by decide +kernel) (by decide) (ct_X6_at l) rfl (fun _ => rfl) ce_fI_rec wd_707 wd_708 wd_709 wd_66) ?_
  refine ok_c (j := 67) rfl (ok_iconst (n := 0) (pc := 134) rfl rfl (by decide +kernel) (by decide)) ?_
  refine ok_c (j := 68) rfl (ok_sipush (n := 1999) (pc := 135) rfl rfl (by decide +kernel) (by decide)) ?_
  refine ok_c (j := 69) rfl (ok_static (y := yX11_within) (n := 3) (d' := 2) (ix := 231) is_ci (pc := 138) rfl rfl (by decide +kernel) (by decide) rfl (ct_X11_within l) wd_723 wd_384 wd_57) ?_
  refine ok_c (j := 70) rfl (ok_putI (ci := 4) (C := RX4) (T := TX4) (N := 5) (ty := tyX4) (ix := 135) (pc := 141) rfl rfl (by decide +kernel) rfl (fun _ => rfl) rfl cw_X4 tyX4_ok nmX4 (by decide) rfl rfl rfl wd_426) ?_
  refine ok_c (j := 71) rfl (ok_aload_n (j := ⟨0, by decide⟩) (pc := 144) rfl rfl (by decide +kernel)) ?_
  refine ok_c (j := 72) rfl (ok_virtual (y := yX11_crowdHasHope) (n := 0) (d' := 4) (t := 0) (T := TX11) (N := 14) (ix := 235) is_ci (pc := 145) rfl rfl (by decide +kernel) (by decide) (ct_X11_crowdHasHope l) rfl (fun _ => rfl) ce_fI_rec wd_724 wd_726 wd_19 wd_57) ?_
  refine ok_c (j := 73) rfl (ok_istore (j := 10) (pc := 148) rfl rfl (by decide +kernel) (by decide)) ?_
  refine ok_c (j := 74) rfl (ok_aload_n (j := ⟨0, by decide⟩) (pc := 150) rfl rfl (by decide +kernel)) ?_
  refine ok_c (j := 75) rfl (ok_iload_n (j := ⟨2, by decide⟩) (pc := 151) rfl rfl (by decide +kernel)) ?_
  refine ok_c (j := 76) rfl (ok_iload_n (j := ⟨3, by decide⟩) (pc := 152) rfl rfl (by decide +kernel)) ?_
  refine ok_c (j := 77) rfl (ok_virtual (y := yX11_crowdSells) (n := 2) (d' := 6) (t := 0) (T := TX11) (N := 14) (ix := 238) is_ci (pc := 153) rfl rfl (by decide +kernel) (by decide) (ct_X11_crowdSells l) rfl (fun _ => rfl) ce_fI_rec wd_728 wd_730 wd_20 wd_57) ?_
  refine ok_c (j := 78) rfl (ok_istore (j := 11) (pc := 156) rfl rfl (by decide +kernel) (by decide)) ?_
  refine ok_c (j := 79) rfl (ok_iload (j := 11) (pc := 158) rfl rfl (by decide +kernel)) ?_
  refine ok_c (j := 80) rfl (ok_iconst (n := (-1)) (pc := 160) rfl rfl (by decide +kernel) (by decide)) ?_
  refine ok_c (j := 81) rfl (ok_cmpeq (off := 16) (tg := 177) (pc := 161) rfl rfl (by decide +kernel) rfl (by decide)) ?_
  refine ok_c (j := 82) rfl (ok_iinc (n := 1) (pc := 164) rfl rfl (by decide +kernel) (by decide) (by decide)) ?_
  refine ok_c (j := 83) rfl (ok_iload (j := 7) (pc := 167) rfl rfl (by decide +kernel)) ?_
  refine ok_c (j := 84) rfl (ok_iload (j := 11) (pc := 169) rfl rfl (by decide +kernel)) ?_
  refine ok_c (j := 85) rfl (ok_iadd (pc := 171) rfl rfl (by decide +kernel)) ?_
  refine ok_c (j := 86) rfl (ok_istore (j := 7) (pc := 172) rfl rfl (by decide +kernel) (by decide)) ?_
  refine ok_c (j := 87) rfl (ok_goto (off := 11) (tg := 185) (pc := 174) rfl (by decide +kernel) rfl (by decide)) ?_
  refine ok_c (j := 88) rfl (ok_iload (j := 10) (pc := 177) rfl rfl (by decide +kernel)) ?_
  refine ok_c (j := 89) rfl (ok_ifeq (off := 6) (tg := 185) (pc := 179) rfl rfl (by decide +kernel) rfl (by decide)) ?_
  refine ok_c (j := 90) rfl (ok_iinc (n := 1) (pc := 182) rfl rfl (by decide +kernel) (by decide) (by decide)) ?_
  refine ok_c (j := 91) rfl (ok_iinc (n := 1) (pc := 185) rfl rfl (by decide +kernel) (by decide) (by decide)) ?_
  refine ok_c (j := 92) rfl (ok_goto (off := (-75)) (tg := 113) (pc := 188) rfl (by decide +kernel) rfl (by decide)) ?_
  refine ok_c (j := 93) rfl (ok_iload (j := 4) (pc := 191) rfl rfl (by decide +kernel)) ?_
  refine ok_c (j := 94) rfl (ok_ifne (off := 8) (tg := 201) (pc := 193) rfl rfl (by decide +kernel) rfl (by decide)) ?_
  refine ok_c (j := 95) rfl (ok_iload (j := 6) (pc := 196) rfl rfl (by decide +kernel)) ?_
  refine ok_c (j := 96) rfl (ok_goto (off := 16) (tg := 214) (pc := 198) rfl (by decide +kernel) rfl (by decide)) ?_
  refine ok_c (j := 97) rfl (ok_iload (j := 4) (pc := 201) rfl rfl (by decide +kernel)) ?_
  refine ok_c (j := 98) rfl (ok_iconst (n := 1) (pc := 203) rfl rfl (by decide +kernel) (by decide)) ?_
  refine ok_c (j := 99) rfl (ok_cmpne (off := 8) (tg := 212) (pc := 204) rfl rfl (by decide +kernel) rfl (by decide)) ?_
  refine ok_c (j := 100) rfl (ok_iload (j := 7) (pc := 207) rfl rfl (by decide +kernel)) ?_
  refine ok_c (j := 101) rfl (ok_goto (off := 5) (tg := 214) (pc := 209) rfl (by decide +kernel) rfl (by decide)) ?_
  refine ok_c (j := 102) rfl (ok_iload (j := 8) (pc := 212) rfl rfl (by decide +kernel)) ?_
  refine ok_c (j := 103) rfl (ok_iret (pc := 214) rfl (by decide +kernel) rfl) ?_
  exact trivial
noncomputable def F_X11_market := ce_fI tb_X11_market 12 (some 0)
theorem ct_X11_market (l : Launch) : ce_callee l yX11_market 4 7 0 0 (ce_wI F_X11_market) := ⟨_, _, _, ce_ctr_of (pcs := pc_X11_market) (by decide +kernel) rfl (ok_X11_market l ) ce_fI_run, ce_tw_at wd_722 rfl, by decide, by decide +kernel, by decide +kernel, by decide +kernel⟩
def pc_X11_judge : List Nat := [0, 1, 2, 5, 8, 9, 12, 15, 17, 18, 19, 22, 23, 24, 25, 26, 29, 32, 34, 35, 36, 39, 40, 43, 44, 45, 48, 49, 51, 53, 54, 57, 60, 61, 64, 67, 70, 71, 73, 76, 79, 82, 84, 85, 86, 89, 90, 92, 95, 96, 99, 102, 105, 108, 109]
noncomputable def tb_X11_judge : List ce_Op := [o_aload 0, o_iload 1, o_ci 2 F_X11_isSeller 0 0 0 0, o_ifeq 7, o_iload 2, o_ci 1 F_X11_isSheet 0 0 0 0, o_ifne 9, o_int (-2), o_iret, o_aload 0, o_getS 0 6 (fun _ => 0), o_iload 2, o_ald 6 15 ce_k0, o_astore 3, o_aload 3, o_ci 1 F_X6_isMissing 0 0 0 0, o_ifeq 19, o_int (-11), o_iret, o_aload 0, o_getS 0 11 (fun _ => 18), o_aload 0, o_getS 0 2 (fun _ => 0), o_iload 1, o_ald 2 11 ce_k3, o_cv 2 F_X5_take 0 0 0 0, o_int 0, o_istore 4, o_iload 4, o_aload 3, o_getI 15 2, o_cmpge 53, o_aload 0, o_getS 0 11 (fun _ => 18), o_getI 11 6, o_ifne 41, o_aload 3, o_iload 4, o_ci 2 F_X6_at 0 0 0 0, o_ci 1 F_X11_isBid 0 0 0 0, o_ifne 43, o_iload 4, o_iret, o_aload 0, o_getS 0 11 (fun _ => 18), o_aload 3, o_iload 4, o_ci 2 F_X6_at 0 0 0 0, o_aload 0, o_getS 0 12 (fun _ => 0), o_cv 3 F_X5_hear 0 0 0 0, o_iinc 4 1, o_goto 28, o_int (-1), o_iret]
theorem tl_X11_judge : ce_TL tb_X11_judge := by
  unfold tb_X11_judge
  refine tl_c ta_aload ?_
  refine tl_c ta_iload ?_
  refine tl_c ta_ci ?_
  refine tl_c ta_ifeq ?_
  refine tl_c ta_iload ?_
  refine tl_c ta_ci ?_
  refine tl_c ta_ifne ?_
  refine tl_c ta_int ?_
  refine tl_c ta_iret ?_
  refine tl_c ta_aload ?_
  refine tl_c ta_getS ?_
  refine tl_c ta_iload ?_
  refine tl_c ta_ald ?_
  refine tl_c ta_astore ?_
  refine tl_c ta_aload ?_
  refine tl_c ta_ci ?_
  refine tl_c ta_ifeq ?_
  refine tl_c ta_int ?_
  refine tl_c ta_iret ?_
  refine tl_c ta_aload ?_
  refine tl_c ta_getS ?_
  refine tl_c ta_aload ?_
  refine tl_c ta_getS ?_
  refine tl_c ta_iload ?_
  refine tl_c ta_ald ?_
  refine tl_c ta_cv ?_
  refine tl_c ta_int ?_
  refine tl_c ta_istore ?_
  refine tl_c ta_iload ?_
  refine tl_c ta_aload ?_
  refine tl_c ta_getI ?_
  refine tl_c ta_cmpge ?_
  refine tl_c ta_aload ?_
  refine tl_c ta_getS ?_
  refine tl_c ta_getI ?_
  refine tl_c ta_ifne ?_
  refine tl_c ta_aload ?_
  refine tl_c ta_iload ?_
  refine tl_c ta_ci ?_
  refine tl_c ta_ci ?_
  refine tl_c ta_ifne ?_
  refine tl_c ta_iload ?_
  refine tl_c ta_iret ?_
  refine tl_c ta_aload ?_
  refine tl_c ta_getS ?_
  refine tl_c ta_aload ?_
  refine tl_c ta_iload ?_
  refine tl_c ta_ci ?_
  refine tl_c ta_aload ?_
  refine tl_c ta_getS ?_
  refine tl_c ta_cv ?_
  refine tl_c ta_iinc ?_
  refine tl_c ta_goto ?_
  refine tl_c ta_int ?_
  refine tl_c ta_iret ?_
  exact trivial
set_option maxRecDepth 20000 in
theorem ok_X11_judge (l : Launch) : ce_OkL l cX11_judge RX11 5 (some .int) 5 0 0 pc_X11_judge 0 tb_X11_judge := by
  unfold tb_X11_judge
  refine ok_c (j := 1) rfl (ok_aload_n (j := ⟨0, by decide⟩) (pc := 0) rfl rfl (by decide +kernel)) ?_
  refine ok_c (j := 2) rfl (ok_iload_n (j := ⟨1, by decide⟩) (pc := 1) rfl rfl (by decide +kernel)) ?_
  refine ok_c (j := 3) rfl (ok_virtual (y := yX11_isSeller) (n := 1) (d' := 1) (t := 0) (T := TX11) (N := 14) (ix := 138) is_ci (pc := 2) rfl rfl (by decide +kernel) (by decide) (ct_X11_isSeller l) rfl (fun _ => rfl) ce_fI_rec wd_526 wd_528 wd_16 wd_57) ?_
  refine ok_c (j := 4) rfl (ok_ifeq (off := 10) (tg := 15) (pc := 5) rfl rfl (by decide +kernel) rfl (by decide)) ?_
  refine ok_c (j := 5) rfl (ok_iload_n (j := ⟨2, by decide⟩) (pc := 8) rfl rfl (by decide +kernel)) ?_
  refine ok_c (j := 6) rfl (ok_static (y := yX11_isSheet) (n := 1) (d' := 1) (ix := 216) is_ci (pc := 9) rfl rfl (by decide +kernel) (by decide) rfl (ct_X11_isSheet l) wd_696 wd_697 wd_57) ?_
  refine ok_c (j := 7) rfl (ok_ifne (off := 6) (tg := 18) (pc := 12) rfl rfl (by decide +kernel) rfl (by decide)) ?_
  refine ok_c (j := 8) rfl (ok_bipush (n := (-2)) (pc := 15) rfl rfl (by decide +kernel) (by decide)) ?_
  refine ok_c (j := 9) rfl (ok_iret (pc := 17) rfl (by decide +kernel) rfl) ?_
  refine ok_c (j := 10) rfl (ok_aload_n (j := ⟨0, by decide⟩) (pc := 18) rfl rfl (by decide +kernel)) ?_
  refine ok_c (j := 11) rfl (ok_getS (f := 5) (ci := 11) (C := RX11) (T := TX11) (N := 14) (ix := 36) (pc := 19) rfl rfl (by decide +kernel) rfl (fun _ => rfl) rfl cw_X11 (by decide) rfl wd_448) ?_
  refine ok_c (j := 12) rfl (ok_iload_n (j := ⟨2, by decide⟩) (pc := 22) rfl rfl (by decide +kernel)) ?_
  refine ok_c (j := 13) rfl (ok_ald (ty := .object RX6) (pc := 23) rfl rfl (by decide +kernel) rfl rfl rfl (fun _ => rfl) rfl) ?_
  refine ok_c (j := 14) rfl (ok_astore_n (j := ⟨3, by decide⟩) (pc := 24) rfl rfl (by decide +kernel) (by decide)) ?_
  refine ok_c (j := 15) rfl (ok_aload_n (j := ⟨3, by decide⟩) (pc := 25) rfl rfl (by decide +kernel)) ?_
  refine ok_c (j := 16) rfl (ok_virtual (y := yX6_isMissing) (n := 0) (d' := 1) (t := 15) (T := TX6) (N := 3) (ix := 219) is_ci (pc := 26) rfl rfl (by decide +kernel) (by decide) (ct_X6_isMissing l) rfl (fun _ => rfl) ce_fI_rec wd_699 wd_700 wd_701 wd_66) ?_
  refine ok_c (j := 17) rfl (ok_ifeq (off := 6) (tg := 35) (pc := 29) rfl rfl (by decide +kernel) rfl (by decide)) ?_
  refine ok_c (j := 18) rfl (ok_bipush (n := (-11)) (pc := 32) rfl rfl (by decide +kernel) (by decide)) ?_
  refine ok_c (j := 19) rfl (ok_iret (pc := 34) rfl (by decide +kernel) rfl) ?_
  refine ok_c (j := 20) rfl (ok_aload_n (j := ⟨0, by decide⟩) (pc := 35) rfl rfl (by decide +kernel)) ?_
  refine ok_c (j := 21) rfl (ok_getS (f := 8) (ci := 11) (C := RX11) (T := TX11) (N := 14) (ix := 75) (pc := 36) rfl rfl (by decide +kernel) rfl (fun _ => rfl) rfl cw_X11 (by decide) rfl wd_451) ?_
  refine ok_c (j := 22) rfl (ok_aload_n (j := ⟨0, by decide⟩) (pc := 39) rfl rfl (by decide +kernel)) ?_
  refine ok_c (j := 23) rfl (ok_getS (f := 1) (ci := 11) (C := RX11) (T := TX11) (N := 14) (ix := 17) (pc := 40) rfl rfl (by decide +kernel) rfl (fun _ => rfl) rfl cw_X11 (by decide) rfl wd_444) ?_
  refine ok_c (j := 24) rfl (ok_iload_n (j := ⟨1, by decide⟩) (pc := 43) rfl rfl (by decide +kernel)) ?_
  refine ok_c (j := 25) rfl (ok_ald (ty := .object RX5) (pc := 44) rfl rfl (by decide +kernel) rfl rfl rfl (fun _ => rfl) rfl) ?_
  refine ok_c (j := 26) rfl (ok_virtual (y := yX5_take) (n := 1) (d' := 2) (t := 11) (T := TX5) (N := 8) (ix := 209) is_cv (pc := 45) rfl rfl (by decide +kernel) (by decide) (ct_X5_take l) rfl (fun _ => rfl) ce_fV_rec wd_659 wd_660 wd_661 wd_65) ?_
  refine ok_c (j := 27) rfl (ok_iconst (n := 0) (pc := 48) rfl rfl (by decide +kernel) (by decide)) ?_
  refine ok_c (j := 28) rfl (ok_istore (j := 4) (pc := 49) rfl rfl (by decide +kernel) (by decide)) ?_
  refine ok_c (j := 29) rfl (ok_iload (j := 4) (pc := 51) rfl rfl (by decide +kernel)) ?_
  refine ok_c (j := 30) rfl (ok_aload_n (j := ⟨3, by decide⟩) (pc := 53) rfl rfl (by decide +kernel)) ?_
  refine ok_c (j := 31) rfl (ok_getI (ci := 6) (C := RX6) (T := TX6) (N := 3) (ix := 223) (pc := 54) rfl rfl (by decide +kernel) rfl (fun _ => rfl) rfl cw_X6 (by decide) rfl wd_226) ?_
  refine ok_c (j := 32) rfl (ok_cmpge (off := 51) (tg := 108) (pc := 57) rfl rfl (by decide +kernel) rfl (by decide)) ?_
  refine ok_c (j := 33) rfl (ok_aload_n (j := ⟨0, by decide⟩) (pc := 60) rfl rfl (by decide +kernel)) ?_
  refine ok_c (j := 34) rfl (ok_getS (f := 8) (ci := 11) (C := RX11) (T := TX11) (N := 14) (ix := 75) (pc := 61) rfl rfl (by decide +kernel) rfl (fun _ => rfl) rfl cw_X11 (by decide) rfl wd_451) ?_
  refine ok_c (j := 35) rfl (ok_getI (ci := 5) (C := RX5) (T := TX5) (N := 8) (ix := 161) (pc := 64) rfl rfl (by decide +kernel) rfl (fun _ => rfl) rfl cw_X5 (by decide) rfl wd_196) ?_
  refine ok_c (j := 36) rfl (ok_ifne (off := 15) (tg := 82) (pc := 67) rfl rfl (by decide +kernel) rfl (by decide)) ?_
  refine ok_c (j := 37) rfl (ok_aload_n (j := ⟨3, by decide⟩) (pc := 70) rfl rfl (by decide +kernel)) ?_
  refine ok_c (j := 38) rfl (ok_iload (j := 4) (pc := 71) rfl rfl (by decide +kernel)) ?_
  refine ok_c (j := 39) rfl (ok_virtual (y := yX6_at) (n := 1) (d' := 2) (t := 15) (T := TX6) (N := 3) (ix := 228) is_ci (pc := 73) rfl rfl (by decide +kernel) (by decide) (ct_X6_at l) rfl (fun _ => rfl) ce_fI_rec wd_707 wd_708 wd_709 wd_66) ?_
  refine ok_c (j := 40) rfl (ok_static (y := yX11_isBid) (n := 1) (d' := 1) (ix := 188) is_ci (pc := 76) rfl rfl (by decide +kernel) (by decide) rfl (ct_X11_isBid l) wd_580 wd_581 wd_57) ?_
  refine ok_c (j := 41) rfl (ok_ifne (off := 6) (tg := 85) (pc := 79) rfl rfl (by decide +kernel) rfl (by decide)) ?_
  refine ok_c (j := 42) rfl (ok_iload (j := 4) (pc := 82) rfl rfl (by decide +kernel)) ?_
  refine ok_c (j := 43) rfl (ok_iret (pc := 84) rfl (by decide +kernel) rfl) ?_
  refine ok_c (j := 44) rfl (ok_aload_n (j := ⟨0, by decide⟩) (pc := 85) rfl rfl (by decide +kernel)) ?_
  refine ok_c (j := 45) rfl (ok_getS (f := 8) (ci := 11) (C := RX11) (T := TX11) (N := 14) (ix := 75) (pc := 86) rfl rfl (by decide +kernel) rfl (fun _ => rfl) rfl cw_X11 (by decide) rfl wd_451) ?_
  refine ok_c (j := 46) rfl (ok_aload_n (j := ⟨3, by decide⟩) (pc := 89) rfl rfl (by decide +kernel)) ?_
  refine ok_c (j := 47) rfl (ok_iload (j := 4) (pc := 90) rfl rfl (by decide +kernel)) ?_
  refine ok_c (j := 48) rfl (ok_virtual (y := yX6_at) (n := 1) (d' := 2) (t := 15) (T := TX6) (N := 3) (ix := 228) is_ci (pc := 92) rfl rfl (by decide +kernel) (by decide) (ct_X6_at l) rfl (fun _ => rfl) ce_fI_rec wd_707 wd_708 wd_709 wd_66) ?_
  refine ok_c (j := 49) rfl (ok_aload_n (j := ⟨0, by decide⟩) (pc := 95) rfl rfl (by decide +kernel)) ?_
  refine ok_c (j := 50) rfl (ok_getS (f := 2) (ci := 11) (C := RX11) (T := TX11) (N := 14) (ix := 108) (pc := 96) rfl rfl (by decide +kernel) rfl (fun _ => rfl) rfl cw_X11 (by decide) rfl wd_445) ?_
  refine ok_c (j := 51) rfl (ok_virtual (y := yX5_hear) (n := 2) (d' := 4) (t := 11) (T := TX5) (N := 8) (ix := 191) is_cv (pc := 99) rfl rfl (by decide +kernel) (by decide) (ct_X5_hear l) rfl (fun _ => rfl) ce_fV_rec wd_583 wd_584 wd_585 wd_65) ?_
  refine ok_c (j := 52) rfl (ok_iinc (n := 1) (pc := 102) rfl rfl (by decide +kernel) (by decide) (by decide)) ?_
  refine ok_c (j := 53) rfl (ok_goto (off := (-54)) (tg := 51) (pc := 105) rfl (by decide +kernel) rfl (by decide)) ?_
  refine ok_c (j := 54) rfl (ok_iconst (n := (-1)) (pc := 108) rfl rfl (by decide +kernel) (by decide)) ?_
  refine ok_c (j := 55) rfl (ok_iret (pc := 109) rfl (by decide +kernel) rfl) ?_
  exact trivial
noncomputable def F_X11_judge := ce_fI tb_X11_judge 5 (some 0)
theorem ct_X11_judge (l : Launch) : ce_callee l yX11_judge 2 5 0 0 (ce_wI F_X11_judge) := ⟨_, _, _, ce_ctr_of (pcs := pc_X11_judge) (by decide +kernel) rfl (ok_X11_judge l ) ce_fI_run, ce_tw_at wd_735 rfl, by decide, by decide +kernel, by decide +kernel, by decide +kernel⟩
def pc_X11_standsBySeed : List Nat := [0, 1, 4, 5, 8, 9, 10, 13, 14, 15, 16, 18, 20, 22, 25, 26, 29, 32, 35, 36, 39, 40, 43, 44, 45, 46, 49, 50, 52, 53, 56, 57, 58, 61, 64, 67, 70, 71, 74, 77]
noncomputable def tb_X11_standsBySeed : List ce_Op := [o_aload 0, o_getS 0 11 (fun _ => 18), o_aload 0, o_getS 0 2 (fun _ => 0), o_iload 1, o_ald 2 11 ce_k3, o_cv 2 F_X5_take 0 0 0 0, o_iload 2, o_istore 3, o_int 0, o_istore 4, o_iload 4, o_int 30, o_cmpge 36, o_aload 0, o_getS 0 11 (fun _ => 18), o_getI 11 6, o_ifne 36, o_iload 3, o_int 1103515245, o_bin q_mul, o_int 12345, o_bin q_add, o_istore 3, o_aload 0, o_getS 0 11 (fun _ => 18), o_iload 3, o_int 11, o_bin q_ushr, o_int 400, o_rem, o_aload 0, o_getS 0 12 (fun _ => 0), o_cv 3 F_X5_hear 0 0 0 0, o_iinc 4 1, o_goto 11, o_aload 0, o_getS 0 11 (fun _ => 18), o_getI 11 6, o_iret]
theorem tl_X11_standsBySeed : ce_TL tb_X11_standsBySeed := by
  unfold tb_X11_standsBySeed
  refine tl_c ta_aload ?_
  refine tl_c ta_getS ?_
  refine tl_c ta_aload ?_
  refine tl_c ta_getS ?_
  refine tl_c ta_iload ?_
  refine tl_c ta_ald ?_
  refine tl_c ta_cv ?_
  refine tl_c ta_iload ?_
  refine tl_c ta_istore ?_
  refine tl_c ta_int ?_
  refine tl_c ta_istore ?_
  refine tl_c ta_iload ?_
  refine tl_c ta_int ?_
  refine tl_c ta_cmpge ?_
  refine tl_c ta_aload ?_
  refine tl_c ta_getS ?_
  refine tl_c ta_getI ?_
  refine tl_c ta_ifne ?_
  refine tl_c ta_iload ?_
  refine tl_c ta_int ?_
  refine tl_c ta_bin ?_
  refine tl_c ta_int ?_
  refine tl_c ta_bin ?_
  refine tl_c ta_istore ?_
  refine tl_c ta_aload ?_
  refine tl_c ta_getS ?_
  refine tl_c ta_iload ?_
  refine tl_c ta_int ?_
  refine tl_c ta_bin ?_
  refine tl_c ta_int ?_
  refine tl_c ta_rem ?_
  refine tl_c ta_aload ?_
  refine tl_c ta_getS ?_
  refine tl_c ta_cv ?_
  refine tl_c ta_iinc ?_
  refine tl_c ta_goto ?_
  refine tl_c ta_aload ?_
  refine tl_c ta_getS ?_
  refine tl_c ta_getI ?_
  refine tl_c ta_iret ?_
  exact trivial
set_option maxRecDepth 20000 in
theorem ok_X11_standsBySeed (l : Launch) : ce_OkL l cX11_standsBySeed RX11 5 (some .int) 5 0 0 pc_X11_standsBySeed 0 tb_X11_standsBySeed := by
  unfold tb_X11_standsBySeed
  refine ok_c (j := 1) rfl (ok_aload_n (j := ⟨0, by decide⟩) (pc := 0) rfl rfl (by decide +kernel)) ?_
  refine ok_c (j := 2) rfl (ok_getS (f := 8) (ci := 11) (C := RX11) (T := TX11) (N := 14) (ix := 75) (pc := 1) rfl rfl (by decide +kernel) rfl (fun _ => rfl) rfl cw_X11 (by decide) rfl wd_451) ?_
  refine ok_c (j := 3) rfl (ok_aload_n (j := ⟨0, by decide⟩) (pc := 4) rfl rfl (by decide +kernel)) ?_
  refine ok_c (j := 4) rfl (ok_getS (f := 1) (ci := 11) (C := RX11) (T := TX11) (N := 14) (ix := 17) (pc := 5) rfl rfl (by decide +kernel) rfl (fun _ => rfl) rfl cw_X11 (by decide) rfl wd_444) ?_
  refine ok_c (j := 5) rfl (ok_iload_n (j := ⟨1, by decide⟩) (pc := 8) rfl rfl (by decide +kernel)) ?_
  refine ok_c (j := 6) rfl (ok_ald (ty := .object RX5) (pc := 9) rfl rfl (by decide +kernel) rfl rfl rfl (fun _ => rfl) rfl) ?_
  refine ok_c (j := 7) rfl (ok_virtual (y := yX5_take) (n := 1) (d' := 2) (t := 11) (T := TX5) (N := 8) (ix := 209) is_cv (pc := 10) rfl rfl (by decide +kernel) (by decide) (ct_X5_take l) rfl (fun _ => rfl) ce_fV_rec wd_659 wd_660 wd_661 wd_65) ?_
  refine ok_c (j := 8) rfl (ok_iload_n (j := ⟨2, by decide⟩) (pc := 13) rfl rfl (by decide +kernel)) ?_
  refine ok_c (j := 9) rfl (ok_istore_n (j := ⟨3, by decide⟩) (pc := 14) rfl rfl (by decide +kernel) (by decide)) ?_
  refine ok_c (j := 10) rfl (ok_iconst (n := 0) (pc := 15) rfl rfl (by decide +kernel) (by decide)) ?_
  refine ok_c (j := 11) rfl (ok_istore (j := 4) (pc := 16) rfl rfl (by decide +kernel) (by decide)) ?_
  refine ok_c (j := 12) rfl (ok_iload (j := 4) (pc := 18) rfl rfl (by decide +kernel)) ?_
  refine ok_c (j := 13) rfl (ok_bipush (n := 30) (pc := 20) rfl rfl (by decide +kernel) (by decide)) ?_
  refine ok_c (j := 14) rfl (ok_cmpge (off := 48) (tg := 70) (pc := 22) rfl rfl (by decide +kernel) rfl (by decide)) ?_
  refine ok_c (j := 15) rfl (ok_aload_n (j := ⟨0, by decide⟩) (pc := 25) rfl rfl (by decide +kernel)) ?_
  refine ok_c (j := 16) rfl (ok_getS (f := 8) (ci := 11) (C := RX11) (T := TX11) (N := 14) (ix := 75) (pc := 26) rfl rfl (by decide +kernel) rfl (fun _ => rfl) rfl cw_X11 (by decide) rfl wd_451) ?_
  refine ok_c (j := 17) rfl (ok_getI (ci := 5) (C := RX5) (T := TX5) (N := 8) (ix := 161) (pc := 29) rfl rfl (by decide +kernel) rfl (fun _ => rfl) rfl cw_X5 (by decide) rfl wd_196) ?_
  refine ok_c (j := 18) rfl (ok_ifne (off := 38) (tg := 70) (pc := 32) rfl rfl (by decide +kernel) rfl (by decide)) ?_
  refine ok_c (j := 19) rfl (ok_iload_n (j := ⟨3, by decide⟩) (pc := 35) rfl rfl (by decide +kernel)) ?_
  refine ok_c (j := 20) rfl (ok_ldcw (ix := 293) (pc := 36) rfl rfl (by decide +kernel) wd_744 (by decide +kernel)) ?_
  refine ok_c (j := 21) rfl (ok_imul (pc := 39) rfl rfl (by decide +kernel)) ?_
  refine ok_c (j := 22) rfl (ok_sipush (n := 12345) (pc := 40) rfl rfl (by decide +kernel) (by decide)) ?_
  refine ok_c (j := 23) rfl (ok_iadd (pc := 43) rfl rfl (by decide +kernel)) ?_
  refine ok_c (j := 24) rfl (ok_istore_n (j := ⟨3, by decide⟩) (pc := 44) rfl rfl (by decide +kernel) (by decide)) ?_
  refine ok_c (j := 25) rfl (ok_aload_n (j := ⟨0, by decide⟩) (pc := 45) rfl rfl (by decide +kernel)) ?_
  refine ok_c (j := 26) rfl (ok_getS (f := 8) (ci := 11) (C := RX11) (T := TX11) (N := 14) (ix := 75) (pc := 46) rfl rfl (by decide +kernel) rfl (fun _ => rfl) rfl cw_X11 (by decide) rfl wd_451) ?_
  refine ok_c (j := 27) rfl (ok_iload_n (j := ⟨3, by decide⟩) (pc := 49) rfl rfl (by decide +kernel)) ?_
  refine ok_c (j := 28) rfl (ok_bipush (n := 11) (pc := 50) rfl rfl (by decide +kernel) (by decide)) ?_
  refine ok_c (j := 29) rfl (ok_iushr (pc := 52) rfl rfl (by decide +kernel)) ?_
  refine ok_c (j := 30) rfl (ok_sipush (n := 400) (pc := 53) rfl rfl (by decide +kernel) (by decide)) ?_
  refine ok_c (j := 31) rfl (ok_irem (pc := 56) rfl rfl (by decide +kernel)) ?_
  refine ok_c (j := 32) rfl (ok_aload_n (j := ⟨0, by decide⟩) (pc := 57) rfl rfl (by decide +kernel)) ?_
  refine ok_c (j := 33) rfl (ok_getS (f := 2) (ci := 11) (C := RX11) (T := TX11) (N := 14) (ix := 108) (pc := 58) rfl rfl (by decide +kernel) rfl (fun _ => rfl) rfl cw_X11 (by decide) rfl wd_445) ?_
  refine ok_c (j := 34) rfl (ok_virtual (y := yX5_hear) (n := 2) (d' := 4) (t := 11) (T := TX5) (N := 8) (ix := 191) is_cv (pc := 61) rfl rfl (by decide +kernel) (by decide) (ct_X5_hear l) rfl (fun _ => rfl) ce_fV_rec wd_583 wd_584 wd_585 wd_65) ?_
  refine ok_c (j := 35) rfl (ok_iinc (n := 1) (pc := 64) rfl rfl (by decide +kernel) (by decide) (by decide)) ?_
  refine ok_c (j := 36) rfl (ok_goto (off := (-49)) (tg := 18) (pc := 67) rfl (by decide +kernel) rfl (by decide)) ?_
  refine ok_c (j := 37) rfl (ok_aload_n (j := ⟨0, by decide⟩) (pc := 70) rfl rfl (by decide +kernel)) ?_
  refine ok_c (j := 38) rfl (ok_getS (f := 8) (ci := 11) (C := RX11) (T := TX11) (N := 14) (ix := 75) (pc := 71) rfl rfl (by decide +kernel) rfl (fun _ => rfl) rfl cw_X11 (by decide) rfl wd_451) ?_
  refine ok_c (j := 39) rfl (ok_getI (ci := 5) (C := RX5) (T := TX5) (N := 8) (ix := 161) (pc := 74) rfl rfl (by decide +kernel) rfl (fun _ => rfl) rfl cw_X5 (by decide) rfl wd_196) ?_
  refine ok_c (j := 40) rfl (ok_iret (pc := 77) rfl (by decide +kernel) rfl) ?_
  exact trivial
noncomputable def F_X11_standsBySeed := ce_fI tb_X11_standsBySeed 5 (some 0)
theorem ct_X11_standsBySeed (l : Launch) : ce_callee l yX11_standsBySeed 2 5 0 0 (ce_wI F_X11_standsBySeed) := ⟨_, _, _, ce_ctr_of (pcs := pc_X11_standsBySeed) (by decide +kernel) rfl (ok_X11_standsBySeed l ) ce_fI_run, ce_tw_at wd_743 rfl, by decide, by decide +kernel, by decide +kernel, by decide +kernel⟩
def pc_X11_drawn : List Nat := [0, 1, 2, 5, 8, 10, 11, 12, 13, 14, 17]
noncomputable def tb_X11_drawn : List ce_Op := [o_aload 0, o_iload 1, o_ci 2 F_X11_isSeller 0 0 0 0, o_ifne 6, o_int (-2), o_iret, o_aload 0, o_iload 1, o_iload 2, o_ci 3 F_X11_standsBySeed 0 0 0 0, o_iret]
theorem tl_X11_drawn : ce_TL tb_X11_drawn := by
  unfold tb_X11_drawn
  refine tl_c ta_aload ?_
  refine tl_c ta_iload ?_
  refine tl_c ta_ci ?_
  refine tl_c ta_ifne ?_
  refine tl_c ta_int ?_
  refine tl_c ta_iret ?_
  refine tl_c ta_aload ?_
  refine tl_c ta_iload ?_
  refine tl_c ta_iload ?_
  refine tl_c ta_ci ?_
  refine tl_c ta_iret ?_
  exact trivial
set_option maxRecDepth 20000 in
theorem ok_X11_drawn (l : Launch) : ce_OkL l cX11_drawn RX11 3 (some .int) 6 0 0 pc_X11_drawn 0 tb_X11_drawn := by
  unfold tb_X11_drawn
  refine ok_c (j := 1) rfl (ok_aload_n (j := ⟨0, by decide⟩) (pc := 0) rfl rfl (by decide +kernel)) ?_
  refine ok_c (j := 2) rfl (ok_iload_n (j := ⟨1, by decide⟩) (pc := 1) rfl rfl (by decide +kernel)) ?_
  refine ok_c (j := 3) rfl (ok_virtual (y := yX11_isSeller) (n := 1) (d' := 1) (t := 0) (T := TX11) (N := 14) (ix := 138) is_ci (pc := 2) rfl rfl (by decide +kernel) (by decide) (ct_X11_isSeller l) rfl (fun _ => rfl) ce_fI_rec wd_526 wd_528 wd_16 wd_57) ?_
  refine ok_c (j := 4) rfl (ok_ifne (off := 6) (tg := 11) (pc := 5) rfl rfl (by decide +kernel) rfl (by decide)) ?_
  refine ok_c (j := 5) rfl (ok_bipush (n := (-2)) (pc := 8) rfl rfl (by decide +kernel) (by decide)) ?_
  refine ok_c (j := 6) rfl (ok_iret (pc := 10) rfl (by decide +kernel) rfl) ?_
  refine ok_c (j := 7) rfl (ok_aload_n (j := ⟨0, by decide⟩) (pc := 11) rfl rfl (by decide +kernel)) ?_
  refine ok_c (j := 8) rfl (ok_iload_n (j := ⟨1, by decide⟩) (pc := 12) rfl rfl (by decide +kernel)) ?_
  refine ok_c (j := 9) rfl (ok_iload_n (j := ⟨2, by decide⟩) (pc := 13) rfl rfl (by decide +kernel)) ?_
  refine ok_c (j := 10) rfl (ok_virtual (y := yX11_standsBySeed) (n := 2) (d' := 5) (t := 0) (T := TX11) (N := 14) (ix := 241) is_ci (pc := 14) rfl rfl (by decide +kernel) (by decide) (ct_X11_standsBySeed l) rfl (fun _ => rfl) ce_fI_rec wd_740 wd_742 wd_21 wd_57) ?_
  refine ok_c (j := 11) rfl (ok_iret (pc := 17) rfl (by decide +kernel) rfl) ?_
  exact trivial
noncomputable def F_X11_drawn := ce_fI tb_X11_drawn 3 (some 0)
theorem ct_X11_drawn (l : Launch) : ce_callee l yX11_drawn 2 6 0 0 (ce_wI F_X11_drawn) := ⟨_, _, _, ce_ctr_of (pcs := pc_X11_drawn) (by decide +kernel) rfl (ok_X11_drawn l ) ce_fI_run, ce_tw_at wd_739 rfl, by decide, by decide +kernel, by decide +kernel, by decide +kernel⟩
def pc_X11_odds : List Nat := [0, 1, 2, 5, 8, 9, 10, 13, 14, 16, 19, 21, 24, 26, 27, 30, 33, 34, 35, 37, 38, 40, 42, 43, 46, 47, 48, 49, 51, 52, 55, 56, 59, 62, 65, 68, 69, 71, 74, 76, 78, 81, 83, 85, 86, 87, 90, 91, 93, 94, 95]
noncomputable def tb_X11_odds : List ce_Op := [o_aload 0, o_iload 1, o_ci 2 F_X11_isSeller 0 0 0 0, o_ifeq 15, o_iload 3, o_int 1, o_cmplt 15, o_iload 3, o_int 30, o_cmpgt 15, o_iload 4, o_iflt 15, o_iload 4, o_int 1, o_cmple 17, o_long (-4611686018427387904), o_lret, o_int 0, o_istore 5, o_int 0, o_istore 6, o_iload 6, o_iload 3, o_cmpge 35, o_aload 0, o_iload 1, o_iload 2, o_iload 6, o_bin q_add, o_ci 3 F_X11_standsBySeed 0 0 0 0, o_int 1, o_cmpne 33, o_iinc 5 1, o_iinc 6 1, o_goto 21, o_iload 3, o_iload 5, o_ci 2 F_X11_commonDivisor 0 0 0 0, o_istore 6, o_iload 4, o_ifne 46, o_iload 5, o_iload 6, o_div, o_i2l, o_goto 50, o_iload 3, o_iload 6, o_div, o_i2l, o_lret]
theorem tl_X11_odds : ce_TL tb_X11_odds := by
  unfold tb_X11_odds
  refine tl_c ta_aload ?_
  refine tl_c ta_iload ?_
  refine tl_c ta_ci ?_
  refine tl_c ta_ifeq ?_
  refine tl_c ta_iload ?_
  refine tl_c ta_int ?_
  refine tl_c ta_cmplt ?_
  refine tl_c ta_iload ?_
  refine tl_c ta_int ?_
  refine tl_c ta_cmpgt ?_
  refine tl_c ta_iload ?_
  refine tl_c ta_iflt ?_
  refine tl_c ta_iload ?_
  refine tl_c ta_int ?_
  refine tl_c ta_cmple ?_
  refine tl_c ta_long ?_
  refine tl_c ta_lret ?_
  refine tl_c ta_int ?_
  refine tl_c ta_istore ?_
  refine tl_c ta_int ?_
  refine tl_c ta_istore ?_
  refine tl_c ta_iload ?_
  refine tl_c ta_iload ?_
  refine tl_c ta_cmpge ?_
  refine tl_c ta_aload ?_
  refine tl_c ta_iload ?_
  refine tl_c ta_iload ?_
  refine tl_c ta_iload ?_
  refine tl_c ta_bin ?_
  refine tl_c ta_ci ?_
  refine tl_c ta_int ?_
  refine tl_c ta_cmpne ?_
  refine tl_c ta_iinc ?_
  refine tl_c ta_iinc ?_
  refine tl_c ta_goto ?_
  refine tl_c ta_iload ?_
  refine tl_c ta_iload ?_
  refine tl_c ta_ci ?_
  refine tl_c ta_istore ?_
  refine tl_c ta_iload ?_
  refine tl_c ta_ifne ?_
  refine tl_c ta_iload ?_
  refine tl_c ta_iload ?_
  refine tl_c ta_div ?_
  refine tl_c ta_i2l ?_
  refine tl_c ta_goto ?_
  refine tl_c ta_iload ?_
  refine tl_c ta_iload ?_
  refine tl_c ta_div ?_
  refine tl_c ta_i2l ?_
  refine tl_c ta_lret ?_
  exact trivial
set_option maxRecDepth 20000 in
theorem ok_X11_odds (l : Launch) : ce_OkL l cX11_odds RX11 7 (some .long) 6 0 0 pc_X11_odds 0 tb_X11_odds := by
  unfold tb_X11_odds
  refine ok_c (j := 1) rfl (ok_aload_n (j := ⟨0, by decide⟩) (pc := 0) rfl rfl (by decide +kernel)) ?_
  refine ok_c (j := 2) rfl (ok_iload_n (j := ⟨1, by decide⟩) (pc := 1) rfl rfl (by decide +kernel)) ?_
  refine ok_c (j := 3) rfl (ok_virtual (y := yX11_isSeller) (n := 1) (d' := 1) (t := 0) (T := TX11) (N := 14) (ix := 138) is_ci (pc := 2) rfl rfl (by decide +kernel) (by decide) (ct_X11_isSeller l) rfl (fun _ => rfl) ce_fI_rec wd_526 wd_528 wd_16 wd_57) ?_
  refine ok_c (j := 4) rfl (ok_ifeq (off := 25) (tg := 30) (pc := 5) rfl rfl (by decide +kernel) rfl (by decide)) ?_
  refine ok_c (j := 5) rfl (ok_iload_n (j := ⟨3, by decide⟩) (pc := 8) rfl rfl (by decide +kernel)) ?_
  refine ok_c (j := 6) rfl (ok_iconst (n := 1) (pc := 9) rfl rfl (by decide +kernel) (by decide)) ?_
  refine ok_c (j := 7) rfl (ok_cmplt (off := 20) (tg := 30) (pc := 10) rfl rfl (by decide +kernel) rfl (by decide)) ?_
  refine ok_c (j := 8) rfl (ok_iload_n (j := ⟨3, by decide⟩) (pc := 13) rfl rfl (by decide +kernel)) ?_
  refine ok_c (j := 9) rfl (ok_bipush (n := 30) (pc := 14) rfl rfl (by decide +kernel) (by decide)) ?_
  refine ok_c (j := 10) rfl (ok_cmpgt (off := 14) (tg := 30) (pc := 16) rfl rfl (by decide +kernel) rfl (by decide)) ?_
  refine ok_c (j := 11) rfl (ok_iload (j := 4) (pc := 19) rfl rfl (by decide +kernel)) ?_
  refine ok_c (j := 12) rfl (ok_iflt (off := 9) (tg := 30) (pc := 21) rfl rfl (by decide +kernel) rfl (by decide)) ?_
  refine ok_c (j := 13) rfl (ok_iload (j := 4) (pc := 24) rfl rfl (by decide +kernel)) ?_
  refine ok_c (j := 14) rfl (ok_iconst (n := 1) (pc := 26) rfl rfl (by decide +kernel) (by decide)) ?_
  refine ok_c (j := 15) rfl (ok_cmple (off := 7) (tg := 34) (pc := 27) rfl rfl (by decide +kernel) rfl (by decide)) ?_
  refine ok_c (j := 16) rfl (ok_ldc2 (ix := 244) (pc := 30) rfl rfl (by decide +kernel) wd_749 (by decide +kernel)) ?_
  refine ok_c (j := 17) rfl (ok_lret (pc := 33) rfl (by decide +kernel) rfl) ?_
  refine ok_c (j := 18) rfl (ok_iconst (n := 0) (pc := 34) rfl rfl (by decide +kernel) (by decide)) ?_
  refine ok_c (j := 19) rfl (ok_istore (j := 5) (pc := 35) rfl rfl (by decide +kernel) (by decide)) ?_
  refine ok_c (j := 20) rfl (ok_iconst (n := 0) (pc := 37) rfl rfl (by decide +kernel) (by decide)) ?_
  refine ok_c (j := 21) rfl (ok_istore (j := 6) (pc := 38) rfl rfl (by decide +kernel) (by decide)) ?_
  refine ok_c (j := 22) rfl (ok_iload (j := 6) (pc := 40) rfl rfl (by decide +kernel)) ?_
  refine ok_c (j := 23) rfl (ok_iload_n (j := ⟨3, by decide⟩) (pc := 42) rfl rfl (by decide +kernel)) ?_
  refine ok_c (j := 24) rfl (ok_cmpge (off := 25) (tg := 68) (pc := 43) rfl rfl (by decide +kernel) rfl (by decide)) ?_
  refine ok_c (j := 25) rfl (ok_aload_n (j := ⟨0, by decide⟩) (pc := 46) rfl rfl (by decide +kernel)) ?_
  refine ok_c (j := 26) rfl (ok_iload_n (j := ⟨1, by decide⟩) (pc := 47) rfl rfl (by decide +kernel)) ?_
  refine ok_c (j := 27) rfl (ok_iload_n (j := ⟨2, by decide⟩) (pc := 48) rfl rfl (by decide +kernel)) ?_
  refine ok_c (j := 28) rfl (ok_iload (j := 6) (pc := 49) rfl rfl (by decide +kernel)) ?_
  refine ok_c (j := 29) rfl (ok_iadd (pc := 51) rfl rfl (by decide +kernel)) ?_
  refine ok_c (j := 30) rfl (ok_virtual (y := yX11_standsBySeed) (n := 2) (d' := 5) (t := 0) (T := TX11) (N := 14) (ix := 241) is_ci (pc := 52) rfl rfl (by decide +kernel) (by decide) (ct_X11_standsBySeed l) rfl (fun _ => rfl) ce_fI_rec wd_740 wd_742 wd_21 wd_57) ?_
  refine ok_c (j := 31) rfl (ok_iconst (n := 1) (pc := 55) rfl rfl (by decide +kernel) (by decide)) ?_
  refine ok_c (j := 32) rfl (ok_cmpne (off := 6) (tg := 62) (pc := 56) rfl rfl (by decide +kernel) rfl (by decide)) ?_
  refine ok_c (j := 33) rfl (ok_iinc (n := 1) (pc := 59) rfl rfl (by decide +kernel) (by decide) (by decide)) ?_
  refine ok_c (j := 34) rfl (ok_iinc (n := 1) (pc := 62) rfl rfl (by decide +kernel) (by decide) (by decide)) ?_
  refine ok_c (j := 35) rfl (ok_goto (off := (-25)) (tg := 40) (pc := 65) rfl (by decide +kernel) rfl (by decide)) ?_
  refine ok_c (j := 36) rfl (ok_iload_n (j := ⟨3, by decide⟩) (pc := 68) rfl rfl (by decide +kernel)) ?_
  refine ok_c (j := 37) rfl (ok_iload (j := 5) (pc := 69) rfl rfl (by decide +kernel)) ?_
  refine ok_c (j := 38) rfl (ok_static (y := yX11_commonDivisor) (n := 2) (d' := 2) (ix := 246) is_ci (pc := 71) rfl rfl (by decide +kernel) (by decide) rfl (ct_X11_commonDivisor l) wd_750 wd_751 wd_57) ?_
  refine ok_c (j := 39) rfl (ok_istore (j := 6) (pc := 74) rfl rfl (by decide +kernel) (by decide)) ?_
  refine ok_c (j := 40) rfl (ok_iload (j := 4) (pc := 76) rfl rfl (by decide +kernel)) ?_
  refine ok_c (j := 41) rfl (ok_ifne (off := 12) (tg := 90) (pc := 78) rfl rfl (by decide +kernel) rfl (by decide)) ?_
  refine ok_c (j := 42) rfl (ok_iload (j := 5) (pc := 81) rfl rfl (by decide +kernel)) ?_
  refine ok_c (j := 43) rfl (ok_iload (j := 6) (pc := 83) rfl rfl (by decide +kernel)) ?_
  refine ok_c (j := 44) rfl (ok_idiv (pc := 85) rfl rfl (by decide +kernel)) ?_
  refine ok_c (j := 45) rfl (ok_i2l (pc := 86) rfl rfl (by decide +kernel)) ?_
  refine ok_c (j := 46) rfl (ok_goto (off := 8) (tg := 95) (pc := 87) rfl (by decide +kernel) rfl (by decide)) ?_
  refine ok_c (j := 47) rfl (ok_iload_n (j := ⟨3, by decide⟩) (pc := 90) rfl rfl (by decide +kernel)) ?_
  refine ok_c (j := 48) rfl (ok_iload (j := 6) (pc := 91) rfl rfl (by decide +kernel)) ?_
  refine ok_c (j := 49) rfl (ok_idiv (pc := 93) rfl rfl (by decide +kernel)) ?_
  refine ok_c (j := 50) rfl (ok_i2l (pc := 94) rfl rfl (by decide +kernel)) ?_
  refine ok_c (j := 51) rfl (ok_lret (pc := 95) rfl (by decide +kernel) rfl) ?_
  exact trivial
noncomputable def F_X11_odds := ce_fL tb_X11_odds 7 (some 0)
theorem ct_X11_odds (l : Launch) : ce_callee l yX11_odds 4 6 0 0 (ce_wL F_X11_odds) := ⟨_, _, _, ce_ctr_of (pcs := pc_X11_odds) (by decide +kernel) rfl (ok_X11_odds l ) ce_fL_run, ce_tw_at wd_748 rfl, by decide, by decide +kernel, by decide +kernel, by decide +kernel⟩
def pc_X11_howMany : List Nat := [0, 1, 2, 3, 4, 5, 6, 9, 12, 13, 15, 18, 19, 22, 23, 24, 27, 28, 31, 34, 37, 40, 41]
noncomputable def tb_X11_howMany : List ce_Op := [o_int 0, o_istore 2, o_int 0, o_istore 3, o_iload 3, o_aload 0, o_getI 0 6, o_cmpge 21, o_iload 3, o_int 6, o_cmpge 21, o_aload 0, o_getS 0 2 (fun _ => 0), o_iload 3, o_ald 2 11 ce_k3, o_getI 11 6, o_iload 1, o_cmpne 19, o_iinc 2 1, o_iinc 3 1, o_goto 4, o_iload 2, o_iret]
theorem tl_X11_howMany : ce_TL tb_X11_howMany := by
  unfold tb_X11_howMany
  refine tl_c ta_int ?_
  refine tl_c ta_istore ?_
  refine tl_c ta_int ?_
  refine tl_c ta_istore ?_
  refine tl_c ta_iload ?_
  refine tl_c ta_aload ?_
  refine tl_c ta_getI ?_
  refine tl_c ta_cmpge ?_
  refine tl_c ta_iload ?_
  refine tl_c ta_int ?_
  refine tl_c ta_cmpge ?_
  refine tl_c ta_aload ?_
  refine tl_c ta_getS ?_
  refine tl_c ta_iload ?_
  refine tl_c ta_ald ?_
  refine tl_c ta_getI ?_
  refine tl_c ta_iload ?_
  refine tl_c ta_cmpne ?_
  refine tl_c ta_iinc ?_
  refine tl_c ta_iinc ?_
  refine tl_c ta_goto ?_
  refine tl_c ta_iload ?_
  refine tl_c ta_iret ?_
  exact trivial
set_option maxRecDepth 20000 in
theorem ok_X11_howMany (l : Launch) : ce_OkL l cX11_howMany RX11 4 (some .int) 1 0 0 pc_X11_howMany 0 tb_X11_howMany := by
  unfold tb_X11_howMany
  refine ok_c (j := 1) rfl (ok_iconst (n := 0) (pc := 0) rfl rfl (by decide +kernel) (by decide)) ?_
  refine ok_c (j := 2) rfl (ok_istore_n (j := ⟨2, by decide⟩) (pc := 1) rfl rfl (by decide +kernel) (by decide)) ?_
  refine ok_c (j := 3) rfl (ok_iconst (n := 0) (pc := 2) rfl rfl (by decide +kernel) (by decide)) ?_
  refine ok_c (j := 4) rfl (ok_istore_n (j := ⟨3, by decide⟩) (pc := 3) rfl rfl (by decide +kernel) (by decide)) ?_
  refine ok_c (j := 5) rfl (ok_iload_n (j := ⟨3, by decide⟩) (pc := 4) rfl rfl (by decide +kernel)) ?_
  refine ok_c (j := 6) rfl (ok_aload_n (j := ⟨0, by decide⟩) (pc := 5) rfl rfl (by decide +kernel)) ?_
  refine ok_c (j := 7) rfl (ok_getI (ci := 11) (C := RX11) (T := TX11) (N := 14) (ix := 40) (pc := 6) rfl rfl (by decide +kernel) rfl (fun _ => rfl) rfl cw_X11 (by decide) rfl wd_449) ?_
  refine ok_c (j := 8) rfl (ok_cmpge (off := 31) (tg := 40) (pc := 9) rfl rfl (by decide +kernel) rfl (by decide)) ?_
  refine ok_c (j := 9) rfl (ok_iload_n (j := ⟨3, by decide⟩) (pc := 12) rfl rfl (by decide +kernel)) ?_
  refine ok_c (j := 10) rfl (ok_bipush (n := 6) (pc := 13) rfl rfl (by decide +kernel) (by decide)) ?_
  refine ok_c (j := 11) rfl (ok_cmpge (off := 25) (tg := 40) (pc := 15) rfl rfl (by decide +kernel) rfl (by decide)) ?_
  refine ok_c (j := 12) rfl (ok_aload_n (j := ⟨0, by decide⟩) (pc := 18) rfl rfl (by decide +kernel)) ?_
  refine ok_c (j := 13) rfl (ok_getS (f := 1) (ci := 11) (C := RX11) (T := TX11) (N := 14) (ix := 17) (pc := 19) rfl rfl (by decide +kernel) rfl (fun _ => rfl) rfl cw_X11 (by decide) rfl wd_444) ?_
  refine ok_c (j := 14) rfl (ok_iload_n (j := ⟨3, by decide⟩) (pc := 22) rfl rfl (by decide +kernel)) ?_
  refine ok_c (j := 15) rfl (ok_ald (ty := .object RX5) (pc := 23) rfl rfl (by decide +kernel) rfl rfl rfl (fun _ => rfl) rfl) ?_
  refine ok_c (j := 16) rfl (ok_getI (ci := 5) (C := RX5) (T := TX5) (N := 8) (ix := 161) (pc := 24) rfl rfl (by decide +kernel) rfl (fun _ => rfl) rfl cw_X5 (by decide) rfl wd_196) ?_
  refine ok_c (j := 17) rfl (ok_iload_n (j := ⟨1, by decide⟩) (pc := 27) rfl rfl (by decide +kernel)) ?_
  refine ok_c (j := 18) rfl (ok_cmpne (off := 6) (tg := 34) (pc := 28) rfl rfl (by decide +kernel) rfl (by decide)) ?_
  refine ok_c (j := 19) rfl (ok_iinc (n := 1) (pc := 31) rfl rfl (by decide +kernel) (by decide) (by decide)) ?_
  refine ok_c (j := 20) rfl (ok_iinc (n := 1) (pc := 34) rfl rfl (by decide +kernel) (by decide) (by decide)) ?_
  refine ok_c (j := 21) rfl (ok_goto (off := (-33)) (tg := 4) (pc := 37) rfl (by decide +kernel) rfl (by decide)) ?_
  refine ok_c (j := 22) rfl (ok_iload_n (j := ⟨2, by decide⟩) (pc := 40) rfl rfl (by decide +kernel)) ?_
  refine ok_c (j := 23) rfl (ok_iret (pc := 41) rfl (by decide +kernel) rfl) ?_
  exact trivial
noncomputable def F_X11_howMany := ce_fI tb_X11_howMany 4 (some 0)
theorem ct_X11_howMany (l : Launch) : ce_callee l yX11_howMany 1 1 0 0 (ce_wI F_X11_howMany) := ⟨_, _, _, ce_ctr_of (pcs := pc_X11_howMany) (by decide +kernel) rfl (ok_X11_howMany l ) ce_fI_run, ce_tw_at wd_760 rfl, by decide, by decide +kernel, by decide +kernel, by decide +kernel⟩
def pc_X11_image : List Nat := [0, 1, 2, 3, 4, 7, 10, 11, 13, 16, 17, 20, 21, 22, 23, 26, 27, 28, 31, 34, 37, 38, 41, 42, 45, 48, 49, 50, 53, 56, 57, 58, 61]
noncomputable def tb_X11_image : List ce_Op := [o_int 0, o_istore 1, o_iload 1, o_aload 0, o_getI 0 6, o_cmpge 20, o_iload 1, o_int 6, o_cmpge 20, o_aload 0, o_getS 0 4 (fun _ => 0), o_iload 1, o_ald 4 11 ce_k32, o_aload 0, o_getS 0 2 (fun _ => 0), o_iload 1, o_ald 2 11 ce_k3, o_cv 2 F_X5_take 0 0 0 0, o_iinc 1 1, o_goto 2, o_aload 0, o_getS 0 12 (fun _ => 2), o_aload 0, o_getS 0 12 (fun _ => 0), o_cv 2 F_X4_take 0 0 0 0, o_aload 0, o_aload 0, o_getI 0 6, o_putI 0 13, o_aload 0, o_int 0, o_ci 2 F_X11_howMany 0 0 0 0, o_iret]
theorem tl_X11_image : ce_TL tb_X11_image := by
  unfold tb_X11_image
  refine tl_c ta_int ?_
  refine tl_c ta_istore ?_
  refine tl_c ta_iload ?_
  refine tl_c ta_aload ?_
  refine tl_c ta_getI ?_
  refine tl_c ta_cmpge ?_
  refine tl_c ta_iload ?_
  refine tl_c ta_int ?_
  refine tl_c ta_cmpge ?_
  refine tl_c ta_aload ?_
  refine tl_c ta_getS ?_
  refine tl_c ta_iload ?_
  refine tl_c ta_ald ?_
  refine tl_c ta_aload ?_
  refine tl_c ta_getS ?_
  refine tl_c ta_iload ?_
  refine tl_c ta_ald ?_
  refine tl_c ta_cv ?_
  refine tl_c ta_iinc ?_
  refine tl_c ta_goto ?_
  refine tl_c ta_aload ?_
  refine tl_c ta_getS ?_
  refine tl_c ta_aload ?_
  refine tl_c ta_getS ?_
  refine tl_c ta_cv ?_
  refine tl_c ta_aload ?_
  refine tl_c ta_aload ?_
  refine tl_c ta_getI ?_
  refine tl_c ta_putI ?_
  refine tl_c ta_aload ?_
  refine tl_c ta_int ?_
  refine tl_c ta_ci ?_
  refine tl_c ta_iret ?_
  exact trivial
set_option maxRecDepth 20000 in
theorem ok_X11_image (l : Launch) : ce_OkL l cX11_image RX11 2 (some .int) 3 0 0 pc_X11_image 0 tb_X11_image := by
  unfold tb_X11_image
  refine ok_c (j := 1) rfl (ok_iconst (n := 0) (pc := 0) rfl rfl (by decide +kernel) (by decide)) ?_
  refine ok_c (j := 2) rfl (ok_istore_n (j := ⟨1, by decide⟩) (pc := 1) rfl rfl (by decide +kernel) (by decide)) ?_
  refine ok_c (j := 3) rfl (ok_iload_n (j := ⟨1, by decide⟩) (pc := 2) rfl rfl (by decide +kernel)) ?_
  refine ok_c (j := 4) rfl (ok_aload_n (j := ⟨0, by decide⟩) (pc := 3) rfl rfl (by decide +kernel)) ?_
  refine ok_c (j := 5) rfl (ok_getI (ci := 11) (C := RX11) (T := TX11) (N := 14) (ix := 40) (pc := 4) rfl rfl (by decide +kernel) rfl (fun _ => rfl) rfl cw_X11 (by decide) rfl wd_449) ?_
  refine ok_c (j := 6) rfl (ok_cmpge (off := 30) (tg := 37) (pc := 7) rfl rfl (by decide +kernel) rfl (by decide)) ?_
  refine ok_c (j := 7) rfl (ok_iload_n (j := ⟨1, by decide⟩) (pc := 10) rfl rfl (by decide +kernel)) ?_
  refine ok_c (j := 8) rfl (ok_bipush (n := 6) (pc := 11) rfl rfl (by decide +kernel) (by decide)) ?_
  refine ok_c (j := 9) rfl (ok_cmpge (off := 24) (tg := 37) (pc := 13) rfl rfl (by decide +kernel) rfl (by decide)) ?_
  refine ok_c (j := 10) rfl (ok_aload_n (j := ⟨0, by decide⟩) (pc := 16) rfl rfl (by decide +kernel)) ?_
  refine ok_c (j := 11) rfl (ok_getS (f := 11) (ci := 11) (C := RX11) (T := TX11) (N := 14) (ix := 50) (pc := 17) rfl rfl (by decide +kernel) rfl (fun _ => rfl) rfl cw_X11 (by decide) rfl wd_454) ?_
  refine ok_c (j := 12) rfl (ok_iload_n (j := ⟨1, by decide⟩) (pc := 20) rfl rfl (by decide +kernel)) ?_
  refine ok_c (j := 13) rfl (ok_ald (ty := .object RX5) (pc := 21) rfl rfl (by decide +kernel) rfl rfl rfl (fun _ => rfl) rfl) ?_
  refine ok_c (j := 14) rfl (ok_aload_n (j := ⟨0, by decide⟩) (pc := 22) rfl rfl (by decide +kernel)) ?_
  refine ok_c (j := 15) rfl (ok_getS (f := 1) (ci := 11) (C := RX11) (T := TX11) (N := 14) (ix := 17) (pc := 23) rfl rfl (by decide +kernel) rfl (fun _ => rfl) rfl cw_X11 (by decide) rfl wd_444) ?_
  refine ok_c (j := 16) rfl (ok_iload_n (j := ⟨1, by decide⟩) (pc := 26) rfl rfl (by decide +kernel)) ?_
  refine ok_c (j := 17) rfl (ok_ald (ty := .object RX5) (pc := 27) rfl rfl (by decide +kernel) rfl rfl rfl (fun _ => rfl) rfl) ?_
  refine ok_c (j := 18) rfl (ok_virtual (y := yX5_take) (n := 1) (d' := 2) (t := 11) (T := TX5) (N := 8) (ix := 209) is_cv (pc := 28) rfl rfl (by decide +kernel) (by decide) (ct_X5_take l) rfl (fun _ => rfl) ce_fV_rec wd_659 wd_660 wd_661 wd_65) ?_
  refine ok_c (j := 19) rfl (ok_iinc (n := 1) (pc := 31) rfl rfl (by decide +kernel) (by decide) (by decide)) ?_
  refine ok_c (j := 20) rfl (ok_goto (off := (-32)) (tg := 2) (pc := 34) rfl (by decide +kernel) rfl (by decide)) ?_
  refine ok_c (j := 21) rfl (ok_aload_n (j := ⟨0, by decide⟩) (pc := 37) rfl rfl (by decide +kernel)) ?_
  refine ok_c (j := 22) rfl (ok_getS (f := 12) (ci := 11) (C := RX11) (T := TX11) (N := 14) (ix := 115) (pc := 38) rfl rfl (by decide +kernel) rfl (fun _ => rfl) rfl cw_X11 (by decide) rfl wd_455) ?_
  refine ok_c (j := 23) rfl (ok_aload_n (j := ⟨0, by decide⟩) (pc := 41) rfl rfl (by decide +kernel)) ?_
  refine ok_c (j := 24) rfl (ok_getS (f := 2) (ci := 11) (C := RX11) (T := TX11) (N := 14) (ix := 108) (pc := 42) rfl rfl (by decide +kernel) rfl (fun _ => rfl) rfl cw_X11 (by decide) rfl wd_445) ?_
  refine ok_c (j := 25) rfl (ok_virtual (y := yX4_take) (n := 1) (d' := 1) (t := 12) (T := TX4) (N := 5) (ix := 206) is_cv (pc := 45) rfl rfl (by decide +kernel) (by decide) (ct_X4_take l) rfl (fun _ => rfl) ce_fV_rec wd_680 wd_681 wd_682 wd_74) ?_
  refine ok_c (j := 26) rfl (ok_aload_n (j := ⟨0, by decide⟩) (pc := 48) rfl rfl (by decide +kernel)) ?_
  refine ok_c (j := 27) rfl (ok_aload_n (j := ⟨0, by decide⟩) (pc := 49) rfl rfl (by decide +kernel)) ?_
  refine ok_c (j := 28) rfl (ok_getI (ci := 11) (C := RX11) (T := TX11) (N := 14) (ix := 40) (pc := 50) rfl rfl (by decide +kernel) rfl (fun _ => rfl) rfl cw_X11 (by decide) rfl wd_449) ?_
  refine ok_c (j := 29) rfl (ok_putI (ci := 11) (C := RX11) (T := TX11) (N := 14) (ty := tyX11) (ix := 53) (pc := 53) rfl rfl (by decide +kernel) rfl (fun _ => rfl) rfl cw_X11 tyX11_ok nmX11 (by decide) rfl rfl rfl wd_456) ?_
  refine ok_c (j := 30) rfl (ok_aload_n (j := ⟨0, by decide⟩) (pc := 56) rfl rfl (by decide +kernel)) ?_
  refine ok_c (j := 31) rfl (ok_iconst (n := 0) (pc := 57) rfl rfl (by decide +kernel) (by decide)) ?_
  refine ok_c (j := 32) rfl (ok_virtual (y := yX11_howMany) (n := 1) (d' := 1) (t := 0) (T := TX11) (N := 14) (ix := 249) is_ci (pc := 58) rfl rfl (by decide +kernel) (by decide) (ct_X11_howMany l) rfl (fun _ => rfl) ce_fI_rec wd_757 wd_759 wd_22 wd_57) ?_
  refine ok_c (j := 33) rfl (ok_iret (pc := 61) rfl (by decide +kernel) rfl) ?_
  exact trivial
noncomputable def F_X11_image := ce_fI tb_X11_image 2 (some 0)
theorem ct_X11_image (l : Launch) : ce_callee l yX11_image 0 3 0 0 (ce_wI F_X11_image) := ⟨_, _, _, ce_ctr_of (pcs := pc_X11_image) (by decide +kernel) rfl (ok_X11_image l ) ce_fI_run, ce_tw_at wd_756 rfl, by decide, by decide +kernel, by decide +kernel, by decide +kernel⟩
def pc_X11_back : List Nat := [0, 1, 4, 5, 8, 10, 11, 12, 13, 14, 15, 18, 21, 22, 24, 27, 28, 31, 32, 33, 34, 37, 38, 39, 42, 45, 48, 49, 52, 53, 56, 59, 60, 61, 64]
noncomputable def tb_X11_back : List ce_Op := [o_aload 0, o_getI 0 13, o_int (-1), o_cmpne 6, o_int (-3), o_iret, o_int 0, o_istore 1, o_iload 1, o_aload 0, o_getI 0 13, o_cmpge 26, o_iload 1, o_int 6, o_cmpge 26, o_aload 0, o_getS 0 2 (fun _ => 0), o_iload 1, o_ald 2 11 ce_k3, o_aload 0, o_getS 0 4 (fun _ => 0), o_iload 1, o_ald 4 11 ce_k32, o_cv 2 F_X5_takeTalk 0 0 0 0, o_iinc 1 1, o_goto 8, o_aload 0, o_getS 0 12 (fun _ => 0), o_aload 0, o_getS 0 12 (fun _ => 2), o_cv 2 F_X4_take 0 0 0 0, o_aload 0, o_int 0, o_ci 2 F_X11_howMany 0 0 0 0, o_iret]
theorem tl_X11_back : ce_TL tb_X11_back := by
  unfold tb_X11_back
  refine tl_c ta_aload ?_
  refine tl_c ta_getI ?_
  refine tl_c ta_int ?_
  refine tl_c ta_cmpne ?_
  refine tl_c ta_int ?_
  refine tl_c ta_iret ?_
  refine tl_c ta_int ?_
  refine tl_c ta_istore ?_
  refine tl_c ta_iload ?_
  refine tl_c ta_aload ?_
  refine tl_c ta_getI ?_
  refine tl_c ta_cmpge ?_
  refine tl_c ta_iload ?_
  refine tl_c ta_int ?_
  refine tl_c ta_cmpge ?_
  refine tl_c ta_aload ?_
  refine tl_c ta_getS ?_
  refine tl_c ta_iload ?_
  refine tl_c ta_ald ?_
  refine tl_c ta_aload ?_
  refine tl_c ta_getS ?_
  refine tl_c ta_iload ?_
  refine tl_c ta_ald ?_
  refine tl_c ta_cv ?_
  refine tl_c ta_iinc ?_
  refine tl_c ta_goto ?_
  refine tl_c ta_aload ?_
  refine tl_c ta_getS ?_
  refine tl_c ta_aload ?_
  refine tl_c ta_getS ?_
  refine tl_c ta_cv ?_
  refine tl_c ta_aload ?_
  refine tl_c ta_int ?_
  refine tl_c ta_ci ?_
  refine tl_c ta_iret ?_
  exact trivial
set_option maxRecDepth 20000 in
theorem ok_X11_back (l : Launch) : ce_OkL l cX11_back RX11 2 (some .int) 2 0 0 pc_X11_back 0 tb_X11_back := by
  unfold tb_X11_back
  refine ok_c (j := 1) rfl (ok_aload_n (j := ⟨0, by decide⟩) (pc := 0) rfl rfl (by decide +kernel)) ?_
  refine ok_c (j := 2) rfl (ok_getI (ci := 11) (C := RX11) (T := TX11) (N := 14) (ix := 53) (pc := 1) rfl rfl (by decide +kernel) rfl (fun _ => rfl) rfl cw_X11 (by decide) rfl wd_456) ?_
  refine ok_c (j := 3) rfl (ok_iconst (n := (-1)) (pc := 4) rfl rfl (by decide +kernel) (by decide)) ?_
  refine ok_c (j := 4) rfl (ok_cmpne (off := 6) (tg := 11) (pc := 5) rfl rfl (by decide +kernel) rfl (by decide)) ?_
  refine ok_c (j := 5) rfl (ok_bipush (n := (-3)) (pc := 8) rfl rfl (by decide +kernel) (by decide)) ?_
  refine ok_c (j := 6) rfl (ok_iret (pc := 10) rfl (by decide +kernel) rfl) ?_
  refine ok_c (j := 7) rfl (ok_iconst (n := 0) (pc := 11) rfl rfl (by decide +kernel) (by decide)) ?_
  refine ok_c (j := 8) rfl (ok_istore_n (j := ⟨1, by decide⟩) (pc := 12) rfl rfl (by decide +kernel) (by decide)) ?_
  refine ok_c (j := 9) rfl (ok_iload_n (j := ⟨1, by decide⟩) (pc := 13) rfl rfl (by decide +kernel)) ?_
  refine ok_c (j := 10) rfl (ok_aload_n (j := ⟨0, by decide⟩) (pc := 14) rfl rfl (by decide +kernel)) ?_
  refine ok_c (j := 11) rfl (ok_getI (ci := 11) (C := RX11) (T := TX11) (N := 14) (ix := 53) (pc := 15) rfl rfl (by decide +kernel) rfl (fun _ => rfl) rfl cw_X11 (by decide) rfl wd_456) ?_
  refine ok_c (j := 12) rfl (ok_cmpge (off := 30) (tg := 48) (pc := 18) rfl rfl (by decide +kernel) rfl (by decide)) ?_
  refine ok_c (j := 13) rfl (ok_iload_n (j := ⟨1, by decide⟩) (pc := 21) rfl rfl (by decide +kernel)) ?_
  refine ok_c (j := 14) rfl (ok_bipush (n := 6) (pc := 22) rfl rfl (by decide +kernel) (by decide)) ?_
  refine ok_c (j := 15) rfl (ok_cmpge (off := 24) (tg := 48) (pc := 24) rfl rfl (by decide +kernel) rfl (by decide)) ?_
  refine ok_c (j := 16) rfl (ok_aload_n (j := ⟨0, by decide⟩) (pc := 27) rfl rfl (by decide +kernel)) ?_
  refine ok_c (j := 17) rfl (ok_getS (f := 1) (ci := 11) (C := RX11) (T := TX11) (N := 14) (ix := 17) (pc := 28) rfl rfl (by decide +kernel) rfl (fun _ => rfl) rfl cw_X11 (by decide) rfl wd_444) ?_
  refine ok_c (j := 18) rfl (ok_iload_n (j := ⟨1, by decide⟩) (pc := 31) rfl rfl (by decide +kernel)) ?_
  refine ok_c (j := 19) rfl (ok_ald (ty := .object RX5) (pc := 32) rfl rfl (by decide +kernel) rfl rfl rfl (fun _ => rfl) rfl) ?_
  refine ok_c (j := 20) rfl (ok_aload_n (j := ⟨0, by decide⟩) (pc := 33) rfl rfl (by decide +kernel)) ?_
  refine ok_c (j := 21) rfl (ok_getS (f := 11) (ci := 11) (C := RX11) (T := TX11) (N := 14) (ix := 50) (pc := 34) rfl rfl (by decide +kernel) rfl (fun _ => rfl) rfl cw_X11 (by decide) rfl wd_454) ?_
  refine ok_c (j := 22) rfl (ok_iload_n (j := ⟨1, by decide⟩) (pc := 37) rfl rfl (by decide +kernel)) ?_
  refine ok_c (j := 23) rfl (ok_ald (ty := .object RX5) (pc := 38) rfl rfl (by decide +kernel) rfl rfl rfl (fun _ => rfl) rfl) ?_
  refine ok_c (j := 24) rfl (ok_virtual (y := yX5_takeTalk) (n := 1) (d' := 1) (t := 11) (T := TX5) (N := 8) (ix := 252) is_cv (pc := 39) rfl rfl (by decide +kernel) (by decide) (ct_X5_takeTalk l) rfl (fun _ => rfl) ce_fV_rec wd_765 wd_664 wd_665 wd_65) ?_
  refine ok_c (j := 25) rfl (ok_iinc (n := 1) (pc := 42) rfl rfl (by decide +kernel) (by decide) (by decide)) ?_
  refine ok_c (j := 26) rfl (ok_goto (off := (-32)) (tg := 13) (pc := 45) rfl (by decide +kernel) rfl (by decide)) ?_
  refine ok_c (j := 27) rfl (ok_aload_n (j := ⟨0, by decide⟩) (pc := 48) rfl rfl (by decide +kernel)) ?_
  refine ok_c (j := 28) rfl (ok_getS (f := 2) (ci := 11) (C := RX11) (T := TX11) (N := 14) (ix := 108) (pc := 49) rfl rfl (by decide +kernel) rfl (fun _ => rfl) rfl cw_X11 (by decide) rfl wd_445) ?_
  refine ok_c (j := 29) rfl (ok_aload_n (j := ⟨0, by decide⟩) (pc := 52) rfl rfl (by decide +kernel)) ?_
  refine ok_c (j := 30) rfl (ok_getS (f := 12) (ci := 11) (C := RX11) (T := TX11) (N := 14) (ix := 115) (pc := 53) rfl rfl (by decide +kernel) rfl (fun _ => rfl) rfl cw_X11 (by decide) rfl wd_455) ?_
  refine ok_c (j := 31) rfl (ok_virtual (y := yX4_take) (n := 1) (d' := 1) (t := 12) (T := TX4) (N := 5) (ix := 206) is_cv (pc := 56) rfl rfl (by decide +kernel) (by decide) (ct_X4_take l) rfl (fun _ => rfl) ce_fV_rec wd_680 wd_681 wd_682 wd_74) ?_
  refine ok_c (j := 32) rfl (ok_aload_n (j := ⟨0, by decide⟩) (pc := 59) rfl rfl (by decide +kernel)) ?_
  refine ok_c (j := 33) rfl (ok_iconst (n := 0) (pc := 60) rfl rfl (by decide +kernel) (by decide)) ?_
  refine ok_c (j := 34) rfl (ok_virtual (y := yX11_howMany) (n := 1) (d' := 1) (t := 0) (T := TX11) (N := 14) (ix := 249) is_ci (pc := 61) rfl rfl (by decide +kernel) (by decide) (ct_X11_howMany l) rfl (fun _ => rfl) ce_fI_rec wd_757 wd_759 wd_22 wd_57) ?_
  refine ok_c (j := 35) rfl (ok_iret (pc := 64) rfl (by decide +kernel) rfl) ?_
  exact trivial
noncomputable def F_X11_back := ce_fI tb_X11_back 2 (some 0)
theorem ct_X11_back (l : Launch) : ce_callee l yX11_back 0 2 0 0 (ce_wI F_X11_back) := ⟨_, _, _, ce_ctr_of (pcs := pc_X11_back) (by decide +kernel) rfl (ok_X11_back l ) ce_fI_run, ce_tw_at wd_764 rfl, by decide, by decide +kernel, by decide +kernel, by decide +kernel⟩
def pc_X11_count : List Nat := [0, 1, 52, 53, 56, 57, 58, 59, 62, 63, 64, 65, 68, 69, 70, 73, 76, 77, 78, 81, 84, 85, 86, 89, 92, 93, 94, 97, 98, 99, 102, 105, 106, 107, 110, 113, 114, 116]
noncomputable def tb_X11_count : List ce_Op := [o_iload 1, o_sw [(0, 2), (1, 5), (2, 9), (3, 13), (4, 17), (5, 21), (6, 25), (7, 28), (8, 32)] 36, o_aload 0, o_getI 0 6, o_iret, o_aload 0, o_int 0, o_ci 2 F_X11_howMany 0 0 0 0, o_iret, o_aload 0, o_int 1, o_ci 2 F_X11_howMany 0 0 0 0, o_iret, o_aload 0, o_getS 0 12 (fun _ => 0), o_getI 12 0, o_iret, o_aload 0, o_getS 0 12 (fun _ => 0), o_getI 12 1, o_iret, o_aload 0, o_getS 0 12 (fun _ => 0), o_getI 12 2, o_iret, o_aload 0, o_getI 0 7, o_iret, o_aload 0, o_getS 0 7 (fun _ => 0), o_getI 7 0, o_iret, o_aload 0, o_getS 0 12 (fun _ => 0), o_getI 12 3, o_iret, o_int (-2), o_iret]
theorem tl_X11_count : ce_TL tb_X11_count := by
  unfold tb_X11_count
  refine tl_c ta_iload ?_
  refine tl_c ta_sw ?_
  refine tl_c ta_aload ?_
  refine tl_c ta_getI ?_
  refine tl_c ta_iret ?_
  refine tl_c ta_aload ?_
  refine tl_c ta_int ?_
  refine tl_c ta_ci ?_
  refine tl_c ta_iret ?_
  refine tl_c ta_aload ?_
  refine tl_c ta_int ?_
  refine tl_c ta_ci ?_
  refine tl_c ta_iret ?_
  refine tl_c ta_aload ?_
  refine tl_c ta_getS ?_
  refine tl_c ta_getI ?_
  refine tl_c ta_iret ?_
  refine tl_c ta_aload ?_
  refine tl_c ta_getS ?_
  refine tl_c ta_getI ?_
  refine tl_c ta_iret ?_
  refine tl_c ta_aload ?_
  refine tl_c ta_getS ?_
  refine tl_c ta_getI ?_
  refine tl_c ta_iret ?_
  refine tl_c ta_aload ?_
  refine tl_c ta_getI ?_
  refine tl_c ta_iret ?_
  refine tl_c ta_aload ?_
  refine tl_c ta_getS ?_
  refine tl_c ta_getI ?_
  refine tl_c ta_iret ?_
  refine tl_c ta_aload ?_
  refine tl_c ta_getS ?_
  refine tl_c ta_getI ?_
  refine tl_c ta_iret ?_
  refine tl_c ta_int ?_
  refine tl_c ta_iret ?_
  exact trivial
set_option maxRecDepth 20000 in
theorem ok_X11_count (l : Launch) : ce_OkL l cX11_count RX11 2 (some .int) 2 0 0 pc_X11_count 0 tb_X11_count := by
  unfold tb_X11_count
  refine ok_c (j := 1) rfl (ok_iload_n (j := ⟨1, by decide⟩) (pc := 0) rfl rfl (by decide +kernel)) ?_
  refine ok_c (j := 2) rfl (ok_sw (lo := 0) (hi := 8) (dflt := 113) (offs := #[51, 56, 62, 68, 76, 84, 92, 97, 105]) (len := 51) (pc := 1) rfl (by decide +kernel) (by decide +kernel) (by decide) (by decide)) ?_
  refine ok_c (j := 3) rfl (ok_aload_n (j := ⟨0, by decide⟩) (pc := 52) rfl rfl (by decide +kernel)) ?_
  refine ok_c (j := 4) rfl (ok_getI (ci := 11) (C := RX11) (T := TX11) (N := 14) (ix := 40) (pc := 53) rfl rfl (by decide +kernel) rfl (fun _ => rfl) rfl cw_X11 (by decide) rfl wd_449) ?_
  refine ok_c (j := 5) rfl (ok_iret (pc := 56) rfl (by decide +kernel) rfl) ?_
  refine ok_c (j := 6) rfl (ok_aload_n (j := ⟨0, by decide⟩) (pc := 57) rfl rfl (by decide +kernel)) ?_
  refine ok_c (j := 7) rfl (ok_iconst (n := 0) (pc := 58) rfl rfl (by decide +kernel) (by decide)) ?_
  refine ok_c (j := 8) rfl (ok_virtual (y := yX11_howMany) (n := 1) (d' := 1) (t := 0) (T := TX11) (N := 14) (ix := 249) is_ci (pc := 59) rfl rfl (by decide +kernel) (by decide) (ct_X11_howMany l) rfl (fun _ => rfl) ce_fI_rec wd_757 wd_759 wd_22 wd_57) ?_
  refine ok_c (j := 9) rfl (ok_iret (pc := 62) rfl (by decide +kernel) rfl) ?_
  refine ok_c (j := 10) rfl (ok_aload_n (j := ⟨0, by decide⟩) (pc := 63) rfl rfl (by decide +kernel)) ?_
  refine ok_c (j := 11) rfl (ok_iconst (n := 1) (pc := 64) rfl rfl (by decide +kernel) (by decide)) ?_
  refine ok_c (j := 12) rfl (ok_virtual (y := yX11_howMany) (n := 1) (d' := 1) (t := 0) (T := TX11) (N := 14) (ix := 249) is_ci (pc := 65) rfl rfl (by decide +kernel) (by decide) (ct_X11_howMany l) rfl (fun _ => rfl) ce_fI_rec wd_757 wd_759 wd_22 wd_57) ?_
  refine ok_c (j := 13) rfl (ok_iret (pc := 68) rfl (by decide +kernel) rfl) ?_
  refine ok_c (j := 14) rfl (ok_aload_n (j := ⟨0, by decide⟩) (pc := 69) rfl rfl (by decide +kernel)) ?_
  refine ok_c (j := 15) rfl (ok_getS (f := 2) (ci := 11) (C := RX11) (T := TX11) (N := 14) (ix := 108) (pc := 70) rfl rfl (by decide +kernel) rfl (fun _ => rfl) rfl cw_X11 (by decide) rfl wd_445) ?_
  refine ok_c (j := 16) rfl (ok_getI (ci := 4) (C := RX4) (T := TX4) (N := 5) (ix := 129) (pc := 73) rfl rfl (by decide +kernel) rfl (fun _ => rfl) rfl cw_X4 (by decide) rfl wd_420) ?_
  refine ok_c (j := 17) rfl (ok_iret (pc := 76) rfl (by decide +kernel) rfl) ?_
  refine ok_c (j := 18) rfl (ok_aload_n (j := ⟨0, by decide⟩) (pc := 77) rfl rfl (by decide +kernel)) ?_
  refine ok_c (j := 19) rfl (ok_getS (f := 2) (ci := 11) (C := RX11) (T := TX11) (N := 14) (ix := 108) (pc := 78) rfl rfl (by decide +kernel) rfl (fun _ => rfl) rfl cw_X11 (by decide) rfl wd_445) ?_
  refine ok_c (j := 20) rfl (ok_getI (ci := 4) (C := RX4) (T := TX4) (N := 5) (ix := 132) (pc := 81) rfl rfl (by decide +kernel) rfl (fun _ => rfl) rfl cw_X4 (by decide) rfl wd_423) ?_
  refine ok_c (j := 21) rfl (ok_iret (pc := 84) rfl (by decide +kernel) rfl) ?_
  refine ok_c (j := 22) rfl (ok_aload_n (j := ⟨0, by decide⟩) (pc := 85) rfl rfl (by decide +kernel)) ?_
  refine ok_c (j := 23) rfl (ok_getS (f := 2) (ci := 11) (C := RX11) (T := TX11) (N := 14) (ix := 108) (pc := 86) rfl rfl (by decide +kernel) rfl (fun _ => rfl) rfl cw_X11 (by decide) rfl wd_445) ?_
  refine ok_c (j := 24) rfl (ok_getI (ci := 4) (C := RX4) (T := TX4) (N := 5) (ix := 135) (pc := 89) rfl rfl (by decide +kernel) rfl (fun _ => rfl) rfl cw_X4 (by decide) rfl wd_426) ?_
  refine ok_c (j := 25) rfl (ok_iret (pc := 92) rfl (by decide +kernel) rfl) ?_
  refine ok_c (j := 26) rfl (ok_aload_n (j := ⟨0, by decide⟩) (pc := 93) rfl rfl (by decide +kernel)) ?_
  refine ok_c (j := 27) rfl (ok_getI (ci := 11) (C := RX11) (T := TX11) (N := 14) (ix := 44) (pc := 94) rfl rfl (by decide +kernel) rfl (fun _ => rfl) rfl cw_X11 (by decide) rfl wd_450) ?_
  refine ok_c (j := 28) rfl (ok_iret (pc := 97) rfl (by decide +kernel) rfl) ?_
  refine ok_c (j := 29) rfl (ok_aload_n (j := ⟨0, by decide⟩) (pc := 98) rfl rfl (by decide +kernel)) ?_
  refine ok_c (j := 30) rfl (ok_getS (f := 4) (ci := 11) (C := RX11) (T := TX11) (N := 14) (ix := 30) (pc := 99) rfl rfl (by decide +kernel) rfl (fun _ => rfl) rfl cw_X11 (by decide) rfl wd_447) ?_
  refine ok_c (j := 31) rfl (ok_getI (ci := 9) (C := RX9) (T := TX9) (N := 11) (ix := 178) (pc := 102) rfl rfl (by decide +kernel) rfl (fun _ => rfl) rfl cw_X9 (by decide) rfl wd_97) ?_
  refine ok_c (j := 32) rfl (ok_iret (pc := 105) rfl (by decide +kernel) rfl) ?_
  refine ok_c (j := 33) rfl (ok_aload_n (j := ⟨0, by decide⟩) (pc := 106) rfl rfl (by decide +kernel)) ?_
  refine ok_c (j := 34) rfl (ok_getS (f := 2) (ci := 11) (C := RX11) (T := TX11) (N := 14) (ix := 108) (pc := 107) rfl rfl (by decide +kernel) rfl (fun _ => rfl) rfl cw_X11 (by decide) rfl wd_445) ?_
  refine ok_c (j := 35) rfl (ok_getI (ci := 4) (C := RX4) (T := TX4) (N := 5) (ix := 181) (pc := 110) rfl rfl (by decide +kernel) rfl (fun _ => rfl) rfl cw_X4 (by decide) rfl wd_429) ?_
  refine ok_c (j := 36) rfl (ok_iret (pc := 113) rfl (by decide +kernel) rfl) ?_
  refine ok_c (j := 37) rfl (ok_bipush (n := (-2)) (pc := 114) rfl rfl (by decide +kernel) (by decide)) ?_
  refine ok_c (j := 38) rfl (ok_iret (pc := 116) rfl (by decide +kernel) rfl) ?_
  exact trivial
noncomputable def F_X11_count := ce_fI tb_X11_count 2 (some 0)
theorem ct_X11_count (l : Launch) : ce_callee l yX11_count 1 2 0 0 (ce_wI F_X11_count) := ⟨_, _, _, ce_ctr_of (pcs := pc_X11_count) (by decide +kernel) rfl (ok_X11_count l ) ce_fI_run, ce_tw_at wd_769 rfl, by decide, by decide +kernel, by decide +kernel, by decide +kernel⟩
def pc_X11_sheet : List Nat := [0, 1, 4, 7, 8, 9, 12, 13, 14, 17, 19, 20, 21, 22, 25, 26, 29, 30, 31, 32, 33, 36, 37, 38, 39, 41, 44, 46, 47, 48, 51, 53, 54, 55, 58, 59, 60, 61, 62, 65, 66]
noncomputable def tb_X11_sheet : List ce_Op := [o_iload 1, o_ci 1 F_X11_isSheet 0 0 0 0, o_ifeq 9, o_iload 2, o_int (-1), o_cmplt 9, o_iload 2, o_int 3, o_cmplt 11, o_int (-2), o_iret, o_iload 2, o_int (-1), o_cmpne 23, o_aload 0, o_getS 0 6 (fun _ => 0), o_iload 1, o_ald 6 15 ce_k0, o_int (-1), o_int 0, o_cv 3 F_X6_become 0 0 0 0, o_int 1, o_iret, o_iload 3, o_int 40, o_cmple 28, o_int (-2), o_iret, o_iload 3, o_ifge 32, o_int (-14), o_iret, o_aload 0, o_getS 0 6 (fun _ => 0), o_iload 1, o_ald 6 15 ce_k0, o_iload 2, o_iload 3, o_cv 3 F_X6_become 0 0 0 0, o_int 1, o_iret]
theorem tl_X11_sheet : ce_TL tb_X11_sheet := by
  unfold tb_X11_sheet
  refine tl_c ta_iload ?_
  refine tl_c ta_ci ?_
  refine tl_c ta_ifeq ?_
  refine tl_c ta_iload ?_
  refine tl_c ta_int ?_
  refine tl_c ta_cmplt ?_
  refine tl_c ta_iload ?_
  refine tl_c ta_int ?_
  refine tl_c ta_cmplt ?_
  refine tl_c ta_int ?_
  refine tl_c ta_iret ?_
  refine tl_c ta_iload ?_
  refine tl_c ta_int ?_
  refine tl_c ta_cmpne ?_
  refine tl_c ta_aload ?_
  refine tl_c ta_getS ?_
  refine tl_c ta_iload ?_
  refine tl_c ta_ald ?_
  refine tl_c ta_int ?_
  refine tl_c ta_int ?_
  refine tl_c ta_cv ?_
  refine tl_c ta_int ?_
  refine tl_c ta_iret ?_
  refine tl_c ta_iload ?_
  refine tl_c ta_int ?_
  refine tl_c ta_cmple ?_
  refine tl_c ta_int ?_
  refine tl_c ta_iret ?_
  refine tl_c ta_iload ?_
  refine tl_c ta_ifge ?_
  refine tl_c ta_int ?_
  refine tl_c ta_iret ?_
  refine tl_c ta_aload ?_
  refine tl_c ta_getS ?_
  refine tl_c ta_iload ?_
  refine tl_c ta_ald ?_
  refine tl_c ta_iload ?_
  refine tl_c ta_iload ?_
  refine tl_c ta_cv ?_
  refine tl_c ta_int ?_
  refine tl_c ta_iret ?_
  exact trivial
set_option maxRecDepth 20000 in
theorem ok_X11_sheet (l : Launch) : ce_OkL l cX11_sheet RX11 4 (some .int) 4 0 0 pc_X11_sheet 0 tb_X11_sheet := by
  unfold tb_X11_sheet
  refine ok_c (j := 1) rfl (ok_iload_n (j := ⟨1, by decide⟩) (pc := 0) rfl rfl (by decide +kernel)) ?_
  refine ok_c (j := 2) rfl (ok_static (y := yX11_isSheet) (n := 1) (d' := 1) (ix := 216) is_ci (pc := 1) rfl rfl (by decide +kernel) (by decide) rfl (ct_X11_isSheet l) wd_696 wd_697 wd_57) ?_
  refine ok_c (j := 3) rfl (ok_ifeq (off := 13) (tg := 17) (pc := 4) rfl rfl (by decide +kernel) rfl (by decide)) ?_
  refine ok_c (j := 4) rfl (ok_iload_n (j := ⟨2, by decide⟩) (pc := 7) rfl rfl (by decide +kernel)) ?_
  refine ok_c (j := 5) rfl (ok_iconst (n := (-1)) (pc := 8) rfl rfl (by decide +kernel) (by decide)) ?_
  refine ok_c (j := 6) rfl (ok_cmplt (off := 8) (tg := 17) (pc := 9) rfl rfl (by decide +kernel) rfl (by decide)) ?_
  refine ok_c (j := 7) rfl (ok_iload_n (j := ⟨2, by decide⟩) (pc := 12) rfl rfl (by decide +kernel)) ?_
  refine ok_c (j := 8) rfl (ok_iconst (n := 3) (pc := 13) rfl rfl (by decide +kernel) (by decide)) ?_
  refine ok_c (j := 9) rfl (ok_cmplt (off := 6) (tg := 20) (pc := 14) rfl rfl (by decide +kernel) rfl (by decide)) ?_
  refine ok_c (j := 10) rfl (ok_bipush (n := (-2)) (pc := 17) rfl rfl (by decide +kernel) (by decide)) ?_
  refine ok_c (j := 11) rfl (ok_iret (pc := 19) rfl (by decide +kernel) rfl) ?_
  refine ok_c (j := 12) rfl (ok_iload_n (j := ⟨2, by decide⟩) (pc := 20) rfl rfl (by decide +kernel)) ?_
  refine ok_c (j := 13) rfl (ok_iconst (n := (-1)) (pc := 21) rfl rfl (by decide +kernel) (by decide)) ?_
  refine ok_c (j := 14) rfl (ok_cmpne (off := 16) (tg := 38) (pc := 22) rfl rfl (by decide +kernel) rfl (by decide)) ?_
  refine ok_c (j := 15) rfl (ok_aload_n (j := ⟨0, by decide⟩) (pc := 25) rfl rfl (by decide +kernel)) ?_
  refine ok_c (j := 16) rfl (ok_getS (f := 5) (ci := 11) (C := RX11) (T := TX11) (N := 14) (ix := 36) (pc := 26) rfl rfl (by decide +kernel) rfl (fun _ => rfl) rfl cw_X11 (by decide) rfl wd_448) ?_
  refine ok_c (j := 17) rfl (ok_iload_n (j := ⟨1, by decide⟩) (pc := 29) rfl rfl (by decide +kernel)) ?_
  refine ok_c (j := 18) rfl (ok_ald (ty := .object RX6) (pc := 30) rfl rfl (by decide +kernel) rfl rfl rfl (fun _ => rfl) rfl) ?_
  refine ok_c (j := 19) rfl (ok_iconst (n := (-1)) (pc := 31) rfl rfl (by decide +kernel) (by decide)) ?_
  refine ok_c (j := 20) rfl (ok_iconst (n := 0) (pc := 32) rfl rfl (by decide +kernel) (by decide)) ?_
  refine ok_c (j := 21) rfl (ok_virtual (y := yX6_become) (n := 2) (d' := 3) (t := 15) (T := TX6) (N := 3) (ix := 255) is_cv (pc := 33) rfl rfl (by decide +kernel) (by decide) (ct_X6_become l) rfl (fun _ => rfl) ce_fV_rec wd_774 wd_775 wd_776 wd_66) ?_
  refine ok_c (j := 22) rfl (ok_iconst (n := 1) (pc := 36) rfl rfl (by decide +kernel) (by decide)) ?_
  refine ok_c (j := 23) rfl (ok_iret (pc := 37) rfl (by decide +kernel) rfl) ?_
  refine ok_c (j := 24) rfl (ok_iload_n (j := ⟨3, by decide⟩) (pc := 38) rfl rfl (by decide +kernel)) ?_
  refine ok_c (j := 25) rfl (ok_bipush (n := 40) (pc := 39) rfl rfl (by decide +kernel) (by decide)) ?_
  refine ok_c (j := 26) rfl (ok_cmple (off := 6) (tg := 47) (pc := 41) rfl rfl (by decide +kernel) rfl (by decide)) ?_
  refine ok_c (j := 27) rfl (ok_bipush (n := (-2)) (pc := 44) rfl rfl (by decide +kernel) (by decide)) ?_
  refine ok_c (j := 28) rfl (ok_iret (pc := 46) rfl (by decide +kernel) rfl) ?_
  refine ok_c (j := 29) rfl (ok_iload_n (j := ⟨3, by decide⟩) (pc := 47) rfl rfl (by decide +kernel)) ?_
  refine ok_c (j := 30) rfl (ok_ifge (off := 6) (tg := 54) (pc := 48) rfl rfl (by decide +kernel) rfl (by decide)) ?_
  refine ok_c (j := 31) rfl (ok_bipush (n := (-14)) (pc := 51) rfl rfl (by decide +kernel) (by decide)) ?_
  refine ok_c (j := 32) rfl (ok_iret (pc := 53) rfl (by decide +kernel) rfl) ?_
  refine ok_c (j := 33) rfl (ok_aload_n (j := ⟨0, by decide⟩) (pc := 54) rfl rfl (by decide +kernel)) ?_
  refine ok_c (j := 34) rfl (ok_getS (f := 5) (ci := 11) (C := RX11) (T := TX11) (N := 14) (ix := 36) (pc := 55) rfl rfl (by decide +kernel) rfl (fun _ => rfl) rfl cw_X11 (by decide) rfl wd_448) ?_
  refine ok_c (j := 35) rfl (ok_iload_n (j := ⟨1, by decide⟩) (pc := 58) rfl rfl (by decide +kernel)) ?_
  refine ok_c (j := 36) rfl (ok_ald (ty := .object RX6) (pc := 59) rfl rfl (by decide +kernel) rfl rfl rfl (fun _ => rfl) rfl) ?_
  refine ok_c (j := 37) rfl (ok_iload_n (j := ⟨2, by decide⟩) (pc := 60) rfl rfl (by decide +kernel)) ?_
  refine ok_c (j := 38) rfl (ok_iload_n (j := ⟨3, by decide⟩) (pc := 61) rfl rfl (by decide +kernel)) ?_
  refine ok_c (j := 39) rfl (ok_virtual (y := yX6_become) (n := 2) (d' := 3) (t := 15) (T := TX6) (N := 3) (ix := 255) is_cv (pc := 62) rfl rfl (by decide +kernel) (by decide) (ct_X6_become l) rfl (fun _ => rfl) ce_fV_rec wd_774 wd_775 wd_776 wd_66) ?_
  refine ok_c (j := 40) rfl (ok_iconst (n := 1) (pc := 65) rfl rfl (by decide +kernel) (by decide)) ?_
  refine ok_c (j := 41) rfl (ok_iret (pc := 66) rfl (by decide +kernel) rfl) ?_
  exact trivial
noncomputable def F_X11_sheet := ce_fI tb_X11_sheet 4 (some 0)
theorem ct_X11_sheet (l : Launch) : ce_callee l yX11_sheet 3 4 0 0 (ce_wI F_X11_sheet) := ⟨_, _, _, ce_ctr_of (pcs := pc_X11_sheet) (by decide +kernel) rfl (ok_X11_sheet l ) ce_fI_run, ce_tw_at wd_773 rfl, by decide, by decide +kernel, by decide +kernel, by decide +kernel⟩
def pc_X11_cell : List Nat := [0, 1, 4, 7, 9, 10, 11, 14, 15, 16, 19, 22, 24, 25, 26, 29, 30, 31, 32, 35, 38, 40, 41, 42, 45, 46, 47, 48, 49, 52, 53]
noncomputable def tb_X11_cell : List ce_Op := [o_iload 1, o_ci 1 F_X11_isSheet 0 0 0 0, o_ifne 5, o_int (-2), o_iret, o_aload 0, o_getS 0 6 (fun _ => 0), o_iload 1, o_ald 6 15 ce_k0, o_ci 1 F_X6_isMissing 0 0 0 0, o_ifeq 13, o_int (-11), o_iret, o_aload 0, o_getS 0 6 (fun _ => 0), o_iload 1, o_ald 6 15 ce_k0, o_iload 2, o_ci 2 F_X6_has 0 0 0 0, o_ifne 22, o_int (-12), o_iret, o_aload 0, o_getS 0 6 (fun _ => 0), o_iload 1, o_ald 6 15 ce_k0, o_iload 2, o_iload 3, o_cv 3 F_X6_put 0 0 0 0, o_int 1, o_iret]
theorem tl_X11_cell : ce_TL tb_X11_cell := by
  unfold tb_X11_cell
  refine tl_c ta_iload ?_
  refine tl_c ta_ci ?_
  refine tl_c ta_ifne ?_
  refine tl_c ta_int ?_
  refine tl_c ta_iret ?_
  refine tl_c ta_aload ?_
  refine tl_c ta_getS ?_
  refine tl_c ta_iload ?_
  refine tl_c ta_ald ?_
  refine tl_c ta_ci ?_
  refine tl_c ta_ifeq ?_
  refine tl_c ta_int ?_
  refine tl_c ta_iret ?_
  refine tl_c ta_aload ?_
  refine tl_c ta_getS ?_
  refine tl_c ta_iload ?_
  refine tl_c ta_ald ?_
  refine tl_c ta_iload ?_
  refine tl_c ta_ci ?_
  refine tl_c ta_ifne ?_
  refine tl_c ta_int ?_
  refine tl_c ta_iret ?_
  refine tl_c ta_aload ?_
  refine tl_c ta_getS ?_
  refine tl_c ta_iload ?_
  refine tl_c ta_ald ?_
  refine tl_c ta_iload ?_
  refine tl_c ta_iload ?_
  refine tl_c ta_cv ?_
  refine tl_c ta_int ?_
  refine tl_c ta_iret ?_
  exact trivial
set_option maxRecDepth 20000 in
theorem ok_X11_cell (l : Launch) : ce_OkL l cX11_cell RX11 4 (some .int) 3 0 0 pc_X11_cell 0 tb_X11_cell := by
  unfold tb_X11_cell
  refine ok_c (j := 1) rfl (ok_iload_n (j := ⟨1, by decide⟩) (pc := 0) rfl rfl (by decide +kernel)) ?_
  refine ok_c (j := 2) rfl (ok_static (y := yX11_isSheet) (n := 1) (d' := 1) (ix := 216) is_ci (pc := 1) rfl rfl (by decide +kernel) (by decide) rfl (ct_X11_isSheet l) wd_696 wd_697 wd_57) ?_
  refine ok_c (j := 3) rfl (ok_ifne (off := 6) (tg := 10) (pc := 4) rfl rfl (by decide +kernel) rfl (by decide)) ?_
  refine ok_c (j := 4) rfl (ok_bipush (n := (-2)) (pc := 7) rfl rfl (by decide +kernel) (by decide)) ?_
  refine ok_c (j := 5) rfl (ok_iret (pc := 9) rfl (by decide +kernel) rfl) ?_
  refine ok_c (j := 6) rfl (ok_aload_n (j := ⟨0, by decide⟩) (pc := 10) rfl rfl (by decide +kernel)) ?_
  refine ok_c (j := 7) rfl (ok_getS (f := 5) (ci := 11) (C := RX11) (T := TX11) (N := 14) (ix := 36) (pc := 11) rfl rfl (by decide +kernel) rfl (fun _ => rfl) rfl cw_X11 (by decide) rfl wd_448) ?_
  refine ok_c (j := 8) rfl (ok_iload_n (j := ⟨1, by decide⟩) (pc := 14) rfl rfl (by decide +kernel)) ?_
  refine ok_c (j := 9) rfl (ok_ald (ty := .object RX6) (pc := 15) rfl rfl (by decide +kernel) rfl rfl rfl (fun _ => rfl) rfl) ?_
  refine ok_c (j := 10) rfl (ok_virtual (y := yX6_isMissing) (n := 0) (d' := 1) (t := 15) (T := TX6) (N := 3) (ix := 219) is_ci (pc := 16) rfl rfl (by decide +kernel) (by decide) (ct_X6_isMissing l) rfl (fun _ => rfl) ce_fI_rec wd_699 wd_700 wd_701 wd_66) ?_
  refine ok_c (j := 11) rfl (ok_ifeq (off := 6) (tg := 25) (pc := 19) rfl rfl (by decide +kernel) rfl (by decide)) ?_
  refine ok_c (j := 12) rfl (ok_bipush (n := (-11)) (pc := 22) rfl rfl (by decide +kernel) (by decide)) ?_
  refine ok_c (j := 13) rfl (ok_iret (pc := 24) rfl (by decide +kernel) rfl) ?_
  refine ok_c (j := 14) rfl (ok_aload_n (j := ⟨0, by decide⟩) (pc := 25) rfl rfl (by decide +kernel)) ?_
  refine ok_c (j := 15) rfl (ok_getS (f := 5) (ci := 11) (C := RX11) (T := TX11) (N := 14) (ix := 36) (pc := 26) rfl rfl (by decide +kernel) rfl (fun _ => rfl) rfl cw_X11 (by decide) rfl wd_448) ?_
  refine ok_c (j := 16) rfl (ok_iload_n (j := ⟨1, by decide⟩) (pc := 29) rfl rfl (by decide +kernel)) ?_
  refine ok_c (j := 17) rfl (ok_ald (ty := .object RX6) (pc := 30) rfl rfl (by decide +kernel) rfl rfl rfl (fun _ => rfl) rfl) ?_
  refine ok_c (j := 18) rfl (ok_iload_n (j := ⟨2, by decide⟩) (pc := 31) rfl rfl (by decide +kernel)) ?_
  refine ok_c (j := 19) rfl (ok_virtual (y := yX6_has) (n := 1) (d' := 1) (t := 15) (T := TX6) (N := 3) (ix := 259) is_ci (pc := 32) rfl rfl (by decide +kernel) (by decide) (ct_X6_has l) rfl (fun _ => rfl) ce_fI_rec wd_783 wd_712 wd_713 wd_66) ?_
  refine ok_c (j := 20) rfl (ok_ifne (off := 6) (tg := 41) (pc := 35) rfl rfl (by decide +kernel) rfl (by decide)) ?_
  refine ok_c (j := 21) rfl (ok_bipush (n := (-12)) (pc := 38) rfl rfl (by decide +kernel) (by decide)) ?_
  refine ok_c (j := 22) rfl (ok_iret (pc := 40) rfl (by decide +kernel) rfl) ?_
  refine ok_c (j := 23) rfl (ok_aload_n (j := ⟨0, by decide⟩) (pc := 41) rfl rfl (by decide +kernel)) ?_
  refine ok_c (j := 24) rfl (ok_getS (f := 5) (ci := 11) (C := RX11) (T := TX11) (N := 14) (ix := 36) (pc := 42) rfl rfl (by decide +kernel) rfl (fun _ => rfl) rfl cw_X11 (by decide) rfl wd_448) ?_
  refine ok_c (j := 25) rfl (ok_iload_n (j := ⟨1, by decide⟩) (pc := 45) rfl rfl (by decide +kernel)) ?_
  refine ok_c (j := 26) rfl (ok_ald (ty := .object RX6) (pc := 46) rfl rfl (by decide +kernel) rfl rfl rfl (fun _ => rfl) rfl) ?_
  refine ok_c (j := 27) rfl (ok_iload_n (j := ⟨2, by decide⟩) (pc := 47) rfl rfl (by decide +kernel)) ?_
  refine ok_c (j := 28) rfl (ok_iload_n (j := ⟨3, by decide⟩) (pc := 48) rfl rfl (by decide +kernel)) ?_
  refine ok_c (j := 29) rfl (ok_virtual (y := yX6_put) (n := 2) (d' := 2) (t := 15) (T := TX6) (N := 3) (ix := 262) is_cv (pc := 49) rfl rfl (by decide +kernel) (by decide) (ct_X6_put l) rfl (fun _ => rfl) ce_fV_rec wd_784 wd_785 wd_786 wd_66) ?_
  refine ok_c (j := 30) rfl (ok_iconst (n := 1) (pc := 52) rfl rfl (by decide +kernel) (by decide)) ?_
  refine ok_c (j := 31) rfl (ok_iret (pc := 53) rfl (by decide +kernel) rfl) ?_
  exact trivial
noncomputable def F_X11_cell := ce_fI tb_X11_cell 4 (some 0)
theorem ct_X11_cell (l : Launch) : ce_callee l yX11_cell 3 3 0 0 (ce_wI F_X11_cell) := ⟨_, _, _, ce_ctr_of (pcs := pc_X11_cell) (by decide +kernel) rfl (ok_X11_cell l ) ce_fI_run, ce_tw_at wd_782 rfl, by decide, by decide +kernel, by decide +kernel, by decide +kernel⟩
def pc_X11_copy : List Nat := [0, 1, 4, 7, 8, 11, 14, 16, 17, 18, 21, 22, 23, 25, 26, 29, 30, 31, 33, 35, 38, 41, 43, 46, 49, 51, 52, 54, 57, 59, 62, 65, 67, 68, 70, 71, 73, 76, 79, 81, 83, 85, 88, 91, 93, 94, 96, 99, 100, 102, 105, 107, 109, 112, 114]
noncomputable def tb_X11_copy : List ce_Op := [o_iload 1, o_ci 1 F_X11_isSheet 0 0 0 0, o_ifeq 6, o_iload 3, o_ci 1 F_X11_isSheet 0 0 0 0, o_ifne 8, o_int (-2), o_iret, o_aload 0, o_getS 0 6 (fun _ => 0), o_iload 1, o_ald 6 15 ce_k0, o_astore 6, o_aload 0, o_getS 0 6 (fun _ => 0), o_iload 3, o_ald 6 15 ce_k0, o_astore 7, o_aload 6, o_ci 1 F_X6_isMissing 0 0 0 0, o_ifne 24, o_aload 7, o_ci 1 F_X6_isMissing 0 0 0 0, o_ifeq 26, o_int (-11), o_iret, o_aload 6, o_getI 15 1, o_aload 7, o_getI 15 1, o_cmpeq 33, o_int (-13), o_iret, o_aload 6, o_iload 2, o_iload 5, o_ci 3 F_X6_hasRun 0 0 0 0, o_ifeq 43, o_aload 7, o_iload 4, o_iload 5, o_ci 3 F_X6_hasRun 0 0 0 0, o_ifne 45, o_int (-12), o_iret, o_aload 6, o_getS 15 16 (ce_k0), o_iload 2, o_aload 7, o_getS 15 16 (ce_k0), o_iload 4, o_iload 5, o_copy 16 16, o_iload 5, o_iret]
theorem tl_X11_copy : ce_TL tb_X11_copy := by
  unfold tb_X11_copy
  refine tl_c ta_iload ?_
  refine tl_c ta_ci ?_
  refine tl_c ta_ifeq ?_
  refine tl_c ta_iload ?_
  refine tl_c ta_ci ?_
  refine tl_c ta_ifne ?_
  refine tl_c ta_int ?_
  refine tl_c ta_iret ?_
  refine tl_c ta_aload ?_
  refine tl_c ta_getS ?_
  refine tl_c ta_iload ?_
  refine tl_c ta_ald ?_
  refine tl_c ta_astore ?_
  refine tl_c ta_aload ?_
  refine tl_c ta_getS ?_
  refine tl_c ta_iload ?_
  refine tl_c ta_ald ?_
  refine tl_c ta_astore ?_
  refine tl_c ta_aload ?_
  refine tl_c ta_ci ?_
  refine tl_c ta_ifne ?_
  refine tl_c ta_aload ?_
  refine tl_c ta_ci ?_
  refine tl_c ta_ifeq ?_
  refine tl_c ta_int ?_
  refine tl_c ta_iret ?_
  refine tl_c ta_aload ?_
  refine tl_c ta_getI ?_
  refine tl_c ta_aload ?_
  refine tl_c ta_getI ?_
  refine tl_c ta_cmpeq ?_
  refine tl_c ta_int ?_
  refine tl_c ta_iret ?_
  refine tl_c ta_aload ?_
  refine tl_c ta_iload ?_
  refine tl_c ta_iload ?_
  refine tl_c ta_ci ?_
  refine tl_c ta_ifeq ?_
  refine tl_c ta_aload ?_
  refine tl_c ta_iload ?_
  refine tl_c ta_iload ?_
  refine tl_c ta_ci ?_
  refine tl_c ta_ifne ?_
  refine tl_c ta_int ?_
  refine tl_c ta_iret ?_
  refine tl_c ta_aload ?_
  refine tl_c ta_getS ?_
  refine tl_c ta_iload ?_
  refine tl_c ta_aload ?_
  refine tl_c ta_getS ?_
  refine tl_c ta_iload ?_
  refine tl_c ta_iload ?_
  refine tl_c ta_copy ?_
  refine tl_c ta_iload ?_
  refine tl_c ta_iret ?_
  exact trivial
set_option maxRecDepth 20000 in
theorem ok_X11_copy (l : Launch) : ce_OkL l cX11_copy RX11 8 (some .int) 2 0 0 pc_X11_copy 0 tb_X11_copy := by
  unfold tb_X11_copy
  refine ok_c (j := 1) rfl (ok_iload_n (j := ⟨1, by decide⟩) (pc := 0) rfl rfl (by decide +kernel)) ?_
  refine ok_c (j := 2) rfl (ok_static (y := yX11_isSheet) (n := 1) (d' := 1) (ix := 216) is_ci (pc := 1) rfl rfl (by decide +kernel) (by decide) rfl (ct_X11_isSheet l) wd_696 wd_697 wd_57) ?_
  refine ok_c (j := 3) rfl (ok_ifeq (off := 10) (tg := 14) (pc := 4) rfl rfl (by decide +kernel) rfl (by decide)) ?_
  refine ok_c (j := 4) rfl (ok_iload_n (j := ⟨3, by decide⟩) (pc := 7) rfl rfl (by decide +kernel)) ?_
  refine ok_c (j := 5) rfl (ok_static (y := yX11_isSheet) (n := 1) (d' := 1) (ix := 216) is_ci (pc := 8) rfl rfl (by decide +kernel) (by decide) rfl (ct_X11_isSheet l) wd_696 wd_697 wd_57) ?_
  refine ok_c (j := 6) rfl (ok_ifne (off := 6) (tg := 17) (pc := 11) rfl rfl (by decide +kernel) rfl (by decide)) ?_
  refine ok_c (j := 7) rfl (ok_bipush (n := (-2)) (pc := 14) rfl rfl (by decide +kernel) (by decide)) ?_
  refine ok_c (j := 8) rfl (ok_iret (pc := 16) rfl (by decide +kernel) rfl) ?_
  refine ok_c (j := 9) rfl (ok_aload_n (j := ⟨0, by decide⟩) (pc := 17) rfl rfl (by decide +kernel)) ?_
  refine ok_c (j := 10) rfl (ok_getS (f := 5) (ci := 11) (C := RX11) (T := TX11) (N := 14) (ix := 36) (pc := 18) rfl rfl (by decide +kernel) rfl (fun _ => rfl) rfl cw_X11 (by decide) rfl wd_448) ?_
  refine ok_c (j := 11) rfl (ok_iload_n (j := ⟨1, by decide⟩) (pc := 21) rfl rfl (by decide +kernel)) ?_
  refine ok_c (j := 12) rfl (ok_ald (ty := .object RX6) (pc := 22) rfl rfl (by decide +kernel) rfl rfl rfl (fun _ => rfl) rfl) ?_
  refine ok_c (j := 13) rfl (ok_astore (j := 6) (pc := 23) rfl rfl (by decide +kernel) (by decide)) ?_
  refine ok_c (j := 14) rfl (ok_aload_n (j := ⟨0, by decide⟩) (pc := 25) rfl rfl (by decide +kernel)) ?_
  refine ok_c (j := 15) rfl (ok_getS (f := 5) (ci := 11) (C := RX11) (T := TX11) (N := 14) (ix := 36) (pc := 26) rfl rfl (by decide +kernel) rfl (fun _ => rfl) rfl cw_X11 (by decide) rfl wd_448) ?_
  refine ok_c (j := 16) rfl (ok_iload_n (j := ⟨3, by decide⟩) (pc := 29) rfl rfl (by decide +kernel)) ?_
  refine ok_c (j := 17) rfl (ok_ald (ty := .object RX6) (pc := 30) rfl rfl (by decide +kernel) rfl rfl rfl (fun _ => rfl) rfl) ?_
  refine ok_c (j := 18) rfl (ok_astore (j := 7) (pc := 31) rfl rfl (by decide +kernel) (by decide)) ?_
  refine ok_c (j := 19) rfl (ok_aload (j := 6) (pc := 33) rfl rfl (by decide +kernel)) ?_
  refine ok_c (j := 20) rfl (ok_virtual (y := yX6_isMissing) (n := 0) (d' := 1) (t := 15) (T := TX6) (N := 3) (ix := 219) is_ci (pc := 35) rfl rfl (by decide +kernel) (by decide) (ct_X6_isMissing l) rfl (fun _ => rfl) ce_fI_rec wd_699 wd_700 wd_701 wd_66) ?_
  refine ok_c (j := 21) rfl (ok_ifne (off := 11) (tg := 49) (pc := 38) rfl rfl (by decide +kernel) rfl (by decide)) ?_
  refine ok_c (j := 22) rfl (ok_aload (j := 7) (pc := 41) rfl rfl (by decide +kernel)) ?_
  refine ok_c (j := 23) rfl (ok_virtual (y := yX6_isMissing) (n := 0) (d' := 1) (t := 15) (T := TX6) (N := 3) (ix := 219) is_ci (pc := 43) rfl rfl (by decide +kernel) (by decide) (ct_X6_isMissing l) rfl (fun _ => rfl) ce_fI_rec wd_699 wd_700 wd_701 wd_66) ?_
  refine ok_c (j := 24) rfl (ok_ifeq (off := 6) (tg := 52) (pc := 46) rfl rfl (by decide +kernel) rfl (by decide)) ?_
  refine ok_c (j := 25) rfl (ok_bipush (n := (-11)) (pc := 49) rfl rfl (by decide +kernel) (by decide)) ?_
  refine ok_c (j := 26) rfl (ok_iret (pc := 51) rfl (by decide +kernel) rfl) ?_
  refine ok_c (j := 27) rfl (ok_aload (j := 6) (pc := 52) rfl rfl (by decide +kernel)) ?_
  refine ok_c (j := 28) rfl (ok_getI (ci := 6) (C := RX6) (T := TX6) (N := 3) (ix := 265) (pc := 54) rfl rfl (by decide +kernel) rfl (fun _ => rfl) rfl cw_X6 (by decide) rfl wd_224) ?_
  refine ok_c (j := 29) rfl (ok_aload (j := 7) (pc := 57) rfl rfl (by decide +kernel)) ?_
  refine ok_c (j := 30) rfl (ok_getI (ci := 6) (C := RX6) (T := TX6) (N := 3) (ix := 265) (pc := 59) rfl rfl (by decide +kernel) rfl (fun _ => rfl) rfl cw_X6 (by decide) rfl wd_224) ?_
  refine ok_c (j := 31) rfl (ok_cmpeq (off := 6) (tg := 68) (pc := 62) rfl rfl (by decide +kernel) rfl (by decide)) ?_
  refine ok_c (j := 32) rfl (ok_bipush (n := (-13)) (pc := 65) rfl rfl (by decide +kernel) (by decide)) ?_
  refine ok_c (j := 33) rfl (ok_iret (pc := 67) rfl (by decide +kernel) rfl) ?_
  refine ok_c (j := 34) rfl (ok_aload (j := 6) (pc := 68) rfl rfl (by decide +kernel)) ?_
  refine ok_c (j := 35) rfl (ok_iload_n (j := ⟨2, by decide⟩) (pc := 70) rfl rfl (by decide +kernel)) ?_
  refine ok_c (j := 36) rfl (ok_iload (j := 5) (pc := 71) rfl rfl (by decide +kernel)) ?_
  refine ok_c (j := 37) rfl (ok_virtual (y := yX6_hasRun) (n := 2) (d' := 1) (t := 15) (T := TX6) (N := 3) (ix := 268) is_ci (pc := 73) rfl rfl (by decide +kernel) (by decide) (ct_X6_hasRun l) rfl (fun _ => rfl) ce_fI_rec wd_792 wd_793 wd_794 wd_66) ?_
  refine ok_c (j := 38) rfl (ok_ifeq (off := 15) (tg := 91) (pc := 76) rfl rfl (by decide +kernel) rfl (by decide)) ?_
  refine ok_c (j := 39) rfl (ok_aload (j := 7) (pc := 79) rfl rfl (by decide +kernel)) ?_
  refine ok_c (j := 40) rfl (ok_iload (j := 4) (pc := 81) rfl rfl (by decide +kernel)) ?_
  refine ok_c (j := 41) rfl (ok_iload (j := 5) (pc := 83) rfl rfl (by decide +kernel)) ?_
  refine ok_c (j := 42) rfl (ok_virtual (y := yX6_hasRun) (n := 2) (d' := 1) (t := 15) (T := TX6) (N := 3) (ix := 268) is_ci (pc := 85) rfl rfl (by decide +kernel) (by decide) (ct_X6_hasRun l) rfl (fun _ => rfl) ce_fI_rec wd_792 wd_793 wd_794 wd_66) ?_
  refine ok_c (j := 43) rfl (ok_ifne (off := 6) (tg := 94) (pc := 88) rfl rfl (by decide +kernel) rfl (by decide)) ?_
  refine ok_c (j := 44) rfl (ok_bipush (n := (-12)) (pc := 91) rfl rfl (by decide +kernel) (by decide)) ?_
  refine ok_c (j := 45) rfl (ok_iret (pc := 93) rfl (by decide +kernel) rfl) ?_
  refine ok_c (j := 46) rfl (ok_aload (j := 6) (pc := 94) rfl rfl (by decide +kernel)) ?_
  refine ok_c (j := 47) rfl (ok_getS (f := 0) (ci := 6) (C := RX6) (T := TX6) (N := 3) (ix := 271) (pc := 96) rfl rfl (by decide +kernel) rfl (fun _ => rfl) rfl cw_X6 (by decide) rfl wd_222) ?_
  refine ok_c (j := 48) rfl (ok_iload_n (j := ⟨2, by decide⟩) (pc := 99) rfl rfl (by decide +kernel)) ?_
  refine ok_c (j := 49) rfl (ok_aload (j := 7) (pc := 100) rfl rfl (by decide +kernel)) ?_
  refine ok_c (j := 50) rfl (ok_getS (f := 0) (ci := 6) (C := RX6) (T := TX6) (N := 3) (ix := 271) (pc := 102) rfl rfl (by decide +kernel) rfl (fun _ => rfl) rfl cw_X6 (by decide) rfl wd_222) ?_
  refine ok_c (j := 51) rfl (ok_iload (j := 4) (pc := 105) rfl rfl (by decide +kernel)) ?_
  refine ok_c (j := 52) rfl (ok_iload (j := 5) (pc := 107) rfl rfl (by decide +kernel)) ?_
  refine ok_c (j := 53) rfl (ok_copy (ix := 275) (pc := 109) rfl rfl (by decide +kernel) (by decide) rfl rfl wd_796 wd_394 wd_393 wd_73) ?_
  refine ok_c (j := 54) rfl (ok_iload (j := 5) (pc := 112) rfl rfl (by decide +kernel)) ?_
  refine ok_c (j := 55) rfl (ok_iret (pc := 114) rfl (by decide +kernel) rfl) ?_
  exact trivial
noncomputable def F_X11_copy := ce_fI tb_X11_copy 8 (some 0)
theorem ct_X11_copy (l : Launch) : ce_callee l yX11_copy 5 2 0 0 (ce_wI F_X11_copy) := ⟨_, _, _, ce_ctr_of (pcs := pc_X11_copy) (by decide +kernel) rfl (ok_X11_copy l ) ce_fI_run, ce_tw_at wd_791 rfl, by decide, by decide +kernel, by decide +kernel, by decide +kernel⟩
def pc_X11_sellers : List Nat := [0, 1, 4, 7, 8, 11, 12, 13, 16, 18, 21, 23, 25, 28, 30, 31, 32, 35, 36, 37, 39, 41, 44, 47, 49, 50, 52, 55, 56, 59, 61, 62, 63, 65, 66, 68, 70, 72, 75, 76, 77, 79, 80, 81, 83, 85, 87, 90, 93, 95, 97, 98, 99, 102, 105, 107, 108, 109, 111, 113, 116, 118, 120, 121, 122, 125, 128, 131, 134, 137, 140, 142]
noncomputable def tb_X11_sellers : List ce_Op := [o_iload 1, o_ci 1 F_X11_isSheet 0 0 0 0, o_ifeq 13, o_iload 2, o_iflt 13, o_iload 2, o_int 3, o_cmpge 13, o_iload 4, o_iflt 13, o_iload 4, o_int 6, o_cmple 15, o_int (-2), o_iret, o_aload 0, o_getS 0 6 (fun _ => 0), o_iload 1, o_ald 6 15 ce_k0, o_astore 5, o_aload 5, o_ci 1 F_X6_isMissing 0 0 0 0, o_ifeq 25, o_int (-11), o_iret, o_aload 5, o_getI 15 1, o_iload 2, o_cmpeq 31, o_int (-13), o_iret, o_int 0, o_istore 6, o_int 0, o_istore 7, o_iload 7, o_iload 4, o_cmpge 70, o_iload 3, o_int 2, o_iload 7, o_bin q_mul, o_bin q_add, o_istore 8, o_aload 5, o_iload 8, o_ci 2 F_X6_has 0 0 0 0, o_ifeq 54, o_aload 5, o_iload 8, o_int 1, o_bin q_add, o_ci 2 F_X6_has 0 0 0 0, o_ifne 56, o_int (-12), o_iret, o_aload 0, o_aload 5, o_iload 8, o_ci 2 F_X6_at 0 0 0 0, o_aload 5, o_iload 8, o_int 1, o_bin q_add, o_ci 2 F_X6_at 0 0 0 0, o_ci 3 F_X11_comes 0 0 0 0, o_iflt 68, o_iinc 6 1, o_iinc 7 1, o_goto 35, o_iload 6, o_iret]
theorem tl_X11_sellers : ce_TL tb_X11_sellers := by
  unfold tb_X11_sellers
  refine tl_c ta_iload ?_
  refine tl_c ta_ci ?_
  refine tl_c ta_ifeq ?_
  refine tl_c ta_iload ?_
  refine tl_c ta_iflt ?_
  refine tl_c ta_iload ?_
  refine tl_c ta_int ?_
  refine tl_c ta_cmpge ?_
  refine tl_c ta_iload ?_
  refine tl_c ta_iflt ?_
  refine tl_c ta_iload ?_
  refine tl_c ta_int ?_
  refine tl_c ta_cmple ?_
  refine tl_c ta_int ?_
  refine tl_c ta_iret ?_
  refine tl_c ta_aload ?_
  refine tl_c ta_getS ?_
  refine tl_c ta_iload ?_
  refine tl_c ta_ald ?_
  refine tl_c ta_astore ?_
  refine tl_c ta_aload ?_
  refine tl_c ta_ci ?_
  refine tl_c ta_ifeq ?_
  refine tl_c ta_int ?_
  refine tl_c ta_iret ?_
  refine tl_c ta_aload ?_
  refine tl_c ta_getI ?_
  refine tl_c ta_iload ?_
  refine tl_c ta_cmpeq ?_
  refine tl_c ta_int ?_
  refine tl_c ta_iret ?_
  refine tl_c ta_int ?_
  refine tl_c ta_istore ?_
  refine tl_c ta_int ?_
  refine tl_c ta_istore ?_
  refine tl_c ta_iload ?_
  refine tl_c ta_iload ?_
  refine tl_c ta_cmpge ?_
  refine tl_c ta_iload ?_
  refine tl_c ta_int ?_
  refine tl_c ta_iload ?_
  refine tl_c ta_bin ?_
  refine tl_c ta_bin ?_
  refine tl_c ta_istore ?_
  refine tl_c ta_aload ?_
  refine tl_c ta_iload ?_
  refine tl_c ta_ci ?_
  refine tl_c ta_ifeq ?_
  refine tl_c ta_aload ?_
  refine tl_c ta_iload ?_
  refine tl_c ta_int ?_
  refine tl_c ta_bin ?_
  refine tl_c ta_ci ?_
  refine tl_c ta_ifne ?_
  refine tl_c ta_int ?_
  refine tl_c ta_iret ?_
  refine tl_c ta_aload ?_
  refine tl_c ta_aload ?_
  refine tl_c ta_iload ?_
  refine tl_c ta_ci ?_
  refine tl_c ta_aload ?_
  refine tl_c ta_iload ?_
  refine tl_c ta_int ?_
  refine tl_c ta_bin ?_
  refine tl_c ta_ci ?_
  refine tl_c ta_ci ?_
  refine tl_c ta_iflt ?_
  refine tl_c ta_iinc ?_
  refine tl_c ta_iinc ?_
  refine tl_c ta_goto ?_
  refine tl_c ta_iload ?_
  refine tl_c ta_iret ?_
  exact trivial
set_option maxRecDepth 20000 in
theorem ok_X11_sellers (l : Launch) : ce_OkL l cX11_sellers RX11 9 (some .int) 7 0 0 pc_X11_sellers 0 tb_X11_sellers := by
  unfold tb_X11_sellers
  refine ok_c (j := 1) rfl (ok_iload_n (j := ⟨1, by decide⟩) (pc := 0) rfl rfl (by decide +kernel)) ?_
  refine ok_c (j := 2) rfl (ok_static (y := yX11_isSheet) (n := 1) (d' := 1) (ix := 216) is_ci (pc := 1) rfl rfl (by decide +kernel) (by decide) rfl (ct_X11_isSheet l) wd_696 wd_697 wd_57) ?_
  refine ok_c (j := 3) rfl (ok_ifeq (off := 24) (tg := 28) (pc := 4) rfl rfl (by decide +kernel) rfl (by decide)) ?_
  refine ok_c (j := 4) rfl (ok_iload_n (j := ⟨2, by decide⟩) (pc := 7) rfl rfl (by decide +kernel)) ?_
  refine ok_c (j := 5) rfl (ok_iflt (off := 20) (tg := 28) (pc := 8) rfl rfl (by decide +kernel) rfl (by decide)) ?_
  refine ok_c (j := 6) rfl (ok_iload_n (j := ⟨2, by decide⟩) (pc := 11) rfl rfl (by decide +kernel)) ?_
  refine ok_c (j := 7) rfl (ok_iconst (n := 3) (pc := 12) rfl rfl (by decide +kernel) (by decide)) ?_
  refine ok_c (j := 8) rfl (ok_cmpge (off := 15) (tg := 28) (pc := 13) rfl rfl (by decide +kernel) rfl (by decide)) ?_
  refine ok_c (j := 9) rfl (ok_iload (j := 4) (pc := 16) rfl rfl (by decide +kernel)) ?_
  refine ok_c (j := 10) rfl (ok_iflt (off := 10) (tg := 28) (pc := 18) rfl rfl (by decide +kernel) rfl (by decide)) ?_
  refine ok_c (j := 11) rfl (ok_iload (j := 4) (pc := 21) rfl rfl (by decide +kernel)) ?_
  refine ok_c (j := 12) rfl (ok_bipush (n := 6) (pc := 23) rfl rfl (by decide +kernel) (by decide)) ?_
  refine ok_c (j := 13) rfl (ok_cmple (off := 6) (tg := 31) (pc := 25) rfl rfl (by decide +kernel) rfl (by decide)) ?_
  refine ok_c (j := 14) rfl (ok_bipush (n := (-2)) (pc := 28) rfl rfl (by decide +kernel) (by decide)) ?_
  refine ok_c (j := 15) rfl (ok_iret (pc := 30) rfl (by decide +kernel) rfl) ?_
  refine ok_c (j := 16) rfl (ok_aload_n (j := ⟨0, by decide⟩) (pc := 31) rfl rfl (by decide +kernel)) ?_
  refine ok_c (j := 17) rfl (ok_getS (f := 5) (ci := 11) (C := RX11) (T := TX11) (N := 14) (ix := 36) (pc := 32) rfl rfl (by decide +kernel) rfl (fun _ => rfl) rfl cw_X11 (by decide) rfl wd_448) ?_
  refine ok_c (j := 18) rfl (ok_iload_n (j := ⟨1, by decide⟩) (pc := 35) rfl rfl (by decide +kernel)) ?_
  refine ok_c (j := 19) rfl (ok_ald (ty := .object RX6) (pc := 36) rfl rfl (by decide +kernel) rfl rfl rfl (fun _ => rfl) rfl) ?_
  refine ok_c (j := 20) rfl (ok_astore (j := 5) (pc := 37) rfl rfl (by decide +kernel) (by decide)) ?_
  refine ok_c (j := 21) rfl (ok_aload (j := 5) (pc := 39) rfl rfl (by decide +kernel)) ?_
  refine ok_c (j := 22) rfl (ok_virtual (y := yX6_isMissing) (n := 0) (d' := 1) (t := 15) (T := TX6) (N := 3) (ix := 219) is_ci (pc := 41) rfl rfl (by decide +kernel) (by decide) (ct_X6_isMissing l) rfl (fun _ => rfl) ce_fI_rec wd_699 wd_700 wd_701 wd_66) ?_
  refine ok_c (j := 23) rfl (ok_ifeq (off := 6) (tg := 50) (pc := 44) rfl rfl (by decide +kernel) rfl (by decide)) ?_
  refine ok_c (j := 24) rfl (ok_bipush (n := (-11)) (pc := 47) rfl rfl (by decide +kernel) (by decide)) ?_
  refine ok_c (j := 25) rfl (ok_iret (pc := 49) rfl (by decide +kernel) rfl) ?_
  refine ok_c (j := 26) rfl (ok_aload (j := 5) (pc := 50) rfl rfl (by decide +kernel)) ?_
  refine ok_c (j := 27) rfl (ok_getI (ci := 6) (C := RX6) (T := TX6) (N := 3) (ix := 265) (pc := 52) rfl rfl (by decide +kernel) rfl (fun _ => rfl) rfl cw_X6 (by decide) rfl wd_224) ?_
  refine ok_c (j := 28) rfl (ok_iload_n (j := ⟨2, by decide⟩) (pc := 55) rfl rfl (by decide +kernel)) ?_
  refine ok_c (j := 29) rfl (ok_cmpeq (off := 6) (tg := 62) (pc := 56) rfl rfl (by decide +kernel) rfl (by decide)) ?_
  refine ok_c (j := 30) rfl (ok_bipush (n := (-13)) (pc := 59) rfl rfl (by decide +kernel) (by decide)) ?_
  refine ok_c (j := 31) rfl (ok_iret (pc := 61) rfl (by decide +kernel) rfl) ?_
  refine ok_c (j := 32) rfl (ok_iconst (n := 0) (pc := 62) rfl rfl (by decide +kernel) (by decide)) ?_
  refine ok_c (j := 33) rfl (ok_istore (j := 6) (pc := 63) rfl rfl (by decide +kernel) (by decide)) ?_
  refine ok_c (j := 34) rfl (ok_iconst (n := 0) (pc := 65) rfl rfl (by decide +kernel) (by decide)) ?_
  refine ok_c (j := 35) rfl (ok_istore (j := 7) (pc := 66) rfl rfl (by decide +kernel) (by decide)) ?_
  refine ok_c (j := 36) rfl (ok_iload (j := 7) (pc := 68) rfl rfl (by decide +kernel)) ?_
  refine ok_c (j := 37) rfl (ok_iload (j := 4) (pc := 70) rfl rfl (by decide +kernel)) ?_
  refine ok_c (j := 38) rfl (ok_cmpge (off := 68) (tg := 140) (pc := 72) rfl rfl (by decide +kernel) rfl (by decide)) ?_
  refine ok_c (j := 39) rfl (ok_iload_n (j := ⟨3, by decide⟩) (pc := 75) rfl rfl (by decide +kernel)) ?_
  refine ok_c (j := 40) rfl (ok_iconst (n := 2) (pc := 76) rfl rfl (by decide +kernel) (by decide)) ?_
  refine ok_c (j := 41) rfl (ok_iload (j := 7) (pc := 77) rfl rfl (by decide +kernel)) ?_
  refine ok_c (j := 42) rfl (ok_imul (pc := 79) rfl rfl (by decide +kernel)) ?_
  refine ok_c (j := 43) rfl (ok_iadd (pc := 80) rfl rfl (by decide +kernel)) ?_
  refine ok_c (j := 44) rfl (ok_istore (j := 8) (pc := 81) rfl rfl (by decide +kernel) (by decide)) ?_
  refine ok_c (j := 45) rfl (ok_aload (j := 5) (pc := 83) rfl rfl (by decide +kernel)) ?_
  refine ok_c (j := 46) rfl (ok_iload (j := 8) (pc := 85) rfl rfl (by decide +kernel)) ?_
  refine ok_c (j := 47) rfl (ok_virtual (y := yX6_has) (n := 1) (d' := 1) (t := 15) (T := TX6) (N := 3) (ix := 259) is_ci (pc := 87) rfl rfl (by decide +kernel) (by decide) (ct_X6_has l) rfl (fun _ => rfl) ce_fI_rec wd_783 wd_712 wd_713 wd_66) ?_
  refine ok_c (j := 48) rfl (ok_ifeq (off := 15) (tg := 105) (pc := 90) rfl rfl (by decide +kernel) rfl (by decide)) ?_
  refine ok_c (j := 49) rfl (ok_aload (j := 5) (pc := 93) rfl rfl (by decide +kernel)) ?_
  refine ok_c (j := 50) rfl (ok_iload (j := 8) (pc := 95) rfl rfl (by decide +kernel)) ?_
  refine ok_c (j := 51) rfl (ok_iconst (n := 1) (pc := 97) rfl rfl (by decide +kernel) (by decide)) ?_
  refine ok_c (j := 52) rfl (ok_iadd (pc := 98) rfl rfl (by decide +kernel)) ?_
  refine ok_c (j := 53) rfl (ok_virtual (y := yX6_has) (n := 1) (d' := 1) (t := 15) (T := TX6) (N := 3) (ix := 259) is_ci (pc := 99) rfl rfl (by decide +kernel) (by decide) (ct_X6_has l) rfl (fun _ => rfl) ce_fI_rec wd_783 wd_712 wd_713 wd_66) ?_
  refine ok_c (j := 54) rfl (ok_ifne (off := 6) (tg := 108) (pc := 102) rfl rfl (by decide +kernel) rfl (by decide)) ?_
  refine ok_c (j := 55) rfl (ok_bipush (n := (-12)) (pc := 105) rfl rfl (by decide +kernel) (by decide)) ?_
  refine ok_c (j := 56) rfl (ok_iret (pc := 107) rfl (by decide +kernel) rfl) ?_
  refine ok_c (j := 57) rfl (ok_aload_n (j := ⟨0, by decide⟩) (pc := 108) rfl rfl (by decide +kernel)) ?_
  refine ok_c (j := 58) rfl (ok_aload (j := 5) (pc := 109) rfl rfl (by decide +kernel)) ?_
  refine ok_c (j := 59) rfl (ok_iload (j := 8) (pc := 111) rfl rfl (by decide +kernel)) ?_
  refine ok_c (j := 60) rfl (ok_virtual (y := yX6_at) (n := 1) (d' := 2) (t := 15) (T := TX6) (N := 3) (ix := 228) is_ci (pc := 113) rfl rfl (by decide +kernel) (by decide) (ct_X6_at l) rfl (fun _ => rfl) ce_fI_rec wd_707 wd_708 wd_709 wd_66) ?_
  refine ok_c (j := 61) rfl (ok_aload (j := 5) (pc := 116) rfl rfl (by decide +kernel)) ?_
  refine ok_c (j := 62) rfl (ok_iload (j := 8) (pc := 118) rfl rfl (by decide +kernel)) ?_
  refine ok_c (j := 63) rfl (ok_iconst (n := 1) (pc := 120) rfl rfl (by decide +kernel) (by decide)) ?_
  refine ok_c (j := 64) rfl (ok_iadd (pc := 121) rfl rfl (by decide +kernel)) ?_
  refine ok_c (j := 65) rfl (ok_virtual (y := yX6_at) (n := 1) (d' := 2) (t := 15) (T := TX6) (N := 3) (ix := 228) is_ci (pc := 122) rfl rfl (by decide +kernel) (by decide) (ct_X6_at l) rfl (fun _ => rfl) ce_fI_rec wd_707 wd_708 wd_709 wd_66) ?_
  refine ok_c (j := 66) rfl (ok_virtual (y := yX11_comes) (n := 2) (d' := 6) (t := 0) (T := TX11) (N := 14) (ix := 118) is_ci (pc := 125) rfl rfl (by decide +kernel) (by decide) (ct_X11_comes l) rfl (fun _ => rfl) ce_fI_rec wd_490 wd_492 wd_14 wd_57) ?_
  refine ok_c (j := 67) rfl (ok_iflt (off := 6) (tg := 134) (pc := 128) rfl rfl (by decide +kernel) rfl (by decide)) ?_
  refine ok_c (j := 68) rfl (ok_iinc (n := 1) (pc := 131) rfl rfl (by decide +kernel) (by decide) (by decide)) ?_
  refine ok_c (j := 69) rfl (ok_iinc (n := 1) (pc := 134) rfl rfl (by decide +kernel) (by decide) (by decide)) ?_
  refine ok_c (j := 70) rfl (ok_goto (off := (-69)) (tg := 68) (pc := 137) rfl (by decide +kernel) rfl (by decide)) ?_
  refine ok_c (j := 71) rfl (ok_iload (j := 6) (pc := 140) rfl rfl (by decide +kernel)) ?_
  refine ok_c (j := 72) rfl (ok_iret (pc := 142) rfl (by decide +kernel) rfl) ?_
  exact trivial
noncomputable def F_X11_sellers := ce_fI tb_X11_sellers 9 (some 0)
theorem ct_X11_sellers (l : Launch) : ce_callee l yX11_sellers 4 7 0 0 (ce_wI F_X11_sellers) := ⟨_, _, _, ce_ctr_of (pcs := pc_X11_sellers) (by decide +kernel) rfl (ok_X11_sellers l ) ce_fI_run, ce_tw_at wd_800 rfl, by decide, by decide +kernel, by decide +kernel, by decide +kernel⟩
def pc_X11_taken : List Nat := [0, 1, 4, 5, 7, 10, 12, 13, 14, 15, 18, 21, 23, 24, 25, 28, 29, 30, 33, 34, 37, 40, 41, 44, 45, 46, 49, 52, 54]
noncomputable def tb_X11_taken : List ce_Op := [o_iload 2, o_iflt 5, o_iload 2, o_int 6, o_cmplt 7, o_int (-2), o_iret, o_aload 0, o_iload 1, o_ci 2 F_X11_isSeller 0 0 0 0, o_ifne 13, o_int (-11), o_iret, o_aload 0, o_getS 0 2 (fun _ => 0), o_iload 1, o_ald 2 11 ce_k3, o_getM 11 0 10, o_iload 2, o_ci 2 F_X11_isUnder 0 0 0 0, o_ifeq 27, o_aload 0, o_getS 0 2 (fun _ => 0), o_iload 1, o_ald 2 11 ce_k3, o_getI 11 3, o_goto 28, o_int (-13), o_iret]
theorem tl_X11_taken : ce_TL tb_X11_taken := by
  unfold tb_X11_taken
  refine tl_c ta_iload ?_
  refine tl_c ta_iflt ?_
  refine tl_c ta_iload ?_
  refine tl_c ta_int ?_
  refine tl_c ta_cmplt ?_
  refine tl_c ta_int ?_
  refine tl_c ta_iret ?_
  refine tl_c ta_aload ?_
  refine tl_c ta_iload ?_
  refine tl_c ta_ci ?_
  refine tl_c ta_ifne ?_
  refine tl_c ta_int ?_
  refine tl_c ta_iret ?_
  refine tl_c ta_aload ?_
  refine tl_c ta_getS ?_
  refine tl_c ta_iload ?_
  refine tl_c ta_ald ?_
  refine tl_c ta_getM ?_
  refine tl_c ta_iload ?_
  refine tl_c ta_ci ?_
  refine tl_c ta_ifeq ?_
  refine tl_c ta_aload ?_
  refine tl_c ta_getS ?_
  refine tl_c ta_iload ?_
  refine tl_c ta_ald ?_
  refine tl_c ta_getI ?_
  refine tl_c ta_goto ?_
  refine tl_c ta_int ?_
  refine tl_c ta_iret ?_
  exact trivial
set_option maxRecDepth 20000 in
theorem ok_X11_taken (l : Launch) : ce_OkL l cX11_taken RX11 3 (some .int) 2 0 0 pc_X11_taken 0 tb_X11_taken := by
  unfold tb_X11_taken
  refine ok_c (j := 1) rfl (ok_iload_n (j := ⟨2, by decide⟩) (pc := 0) rfl rfl (by decide +kernel)) ?_
  refine ok_c (j := 2) rfl (ok_iflt (off := 9) (tg := 10) (pc := 1) rfl rfl (by decide +kernel) rfl (by decide)) ?_
  refine ok_c (j := 3) rfl (ok_iload_n (j := ⟨2, by decide⟩) (pc := 4) rfl rfl (by decide +kernel)) ?_
  refine ok_c (j := 4) rfl (ok_bipush (n := 6) (pc := 5) rfl rfl (by decide +kernel) (by decide)) ?_
  refine ok_c (j := 5) rfl (ok_cmplt (off := 6) (tg := 13) (pc := 7) rfl rfl (by decide +kernel) rfl (by decide)) ?_
  refine ok_c (j := 6) rfl (ok_bipush (n := (-2)) (pc := 10) rfl rfl (by decide +kernel) (by decide)) ?_
  refine ok_c (j := 7) rfl (ok_iret (pc := 12) rfl (by decide +kernel) rfl) ?_
  refine ok_c (j := 8) rfl (ok_aload_n (j := ⟨0, by decide⟩) (pc := 13) rfl rfl (by decide +kernel)) ?_
  refine ok_c (j := 9) rfl (ok_iload_n (j := ⟨1, by decide⟩) (pc := 14) rfl rfl (by decide +kernel)) ?_
  refine ok_c (j := 10) rfl (ok_virtual (y := yX11_isSeller) (n := 1) (d' := 1) (t := 0) (T := TX11) (N := 14) (ix := 138) is_ci (pc := 15) rfl rfl (by decide +kernel) (by decide) (ct_X11_isSeller l) rfl (fun _ => rfl) ce_fI_rec wd_526 wd_528 wd_16 wd_57) ?_
  refine ok_c (j := 11) rfl (ok_ifne (off := 6) (tg := 24) (pc := 18) rfl rfl (by decide +kernel) rfl (by decide)) ?_
  refine ok_c (j := 12) rfl (ok_bipush (n := (-11)) (pc := 21) rfl rfl (by decide +kernel) (by decide)) ?_
  refine ok_c (j := 13) rfl (ok_iret (pc := 23) rfl (by decide +kernel) rfl) ?_
  refine ok_c (j := 14) rfl (ok_aload_n (j := ⟨0, by decide⟩) (pc := 24) rfl rfl (by decide +kernel)) ?_
  refine ok_c (j := 15) rfl (ok_getS (f := 1) (ci := 11) (C := RX11) (T := TX11) (N := 14) (ix := 17) (pc := 25) rfl rfl (by decide +kernel) rfl (fun _ => rfl) rfl cw_X11 (by decide) rfl wd_444) ?_
  refine ok_c (j := 16) rfl (ok_iload_n (j := ⟨1, by decide⟩) (pc := 28) rfl rfl (by decide +kernel)) ?_
  refine ok_c (j := 17) rfl (ok_ald (ty := .object RX5) (pc := 29) rfl rfl (by decide +kernel) rfl rfl rfl (fun _ => rfl) rfl) ?_
  refine ok_c (j := 18) rfl (ok_getM (ci := 5) (C := RX5) (T := TX5) (N := 8) (ix := 171) (pc := 30) rfl rfl (by decide +kernel) rfl (fun _ => rfl) rfl cw_X5 (by decide) rfl wd_181) ?_
  refine ok_c (j := 19) rfl (ok_iload_n (j := ⟨2, by decide⟩) (pc := 33) rfl rfl (by decide +kernel)) ?_
  refine ok_c (j := 20) rfl (ok_static (y := yX11_isUnder) (n := 2) (d' := 1) (ix := 281) is_ci (pc := 34) rfl rfl (by decide +kernel) (by decide) rfl (ct_X11_isUnder l) wd_805 wd_806 wd_57) ?_
  refine ok_c (j := 21) rfl (ok_ifeq (off := 15) (tg := 52) (pc := 37) rfl rfl (by decide +kernel) rfl (by decide)) ?_
  refine ok_c (j := 22) rfl (ok_aload_n (j := ⟨0, by decide⟩) (pc := 40) rfl rfl (by decide +kernel)) ?_
  refine ok_c (j := 23) rfl (ok_getS (f := 1) (ci := 11) (C := RX11) (T := TX11) (N := 14) (ix := 17) (pc := 41) rfl rfl (by decide +kernel) rfl (fun _ => rfl) rfl cw_X11 (by decide) rfl wd_444) ?_
  refine ok_c (j := 24) rfl (ok_iload_n (j := ⟨1, by decide⟩) (pc := 44) rfl rfl (by decide +kernel)) ?_
  refine ok_c (j := 25) rfl (ok_ald (ty := .object RX5) (pc := 45) rfl rfl (by decide +kernel) rfl rfl rfl (fun _ => rfl) rfl) ?_
  refine ok_c (j := 26) rfl (ok_getI (ci := 5) (C := RX5) (T := TX5) (N := 8) (ix := 155) (pc := 46) rfl rfl (by decide +kernel) rfl (fun _ => rfl) rfl cw_X5 (by decide) rfl wd_188) ?_
  refine ok_c (j := 27) rfl (ok_goto (off := 5) (tg := 54) (pc := 49) rfl (by decide +kernel) rfl (by decide)) ?_
  refine ok_c (j := 28) rfl (ok_bipush (n := (-13)) (pc := 52) rfl rfl (by decide +kernel) (by decide)) ?_
  refine ok_c (j := 29) rfl (ok_iret (pc := 54) rfl (by decide +kernel) rfl) ?_
  exact trivial
noncomputable def F_X11_taken := ce_fI tb_X11_taken 3 (some 0)
theorem ct_X11_taken (l : Launch) : ce_callee l yX11_taken 2 2 0 0 (ce_wI F_X11_taken) := ⟨_, _, _, ce_ctr_of (pcs := pc_X11_taken) (by decide +kernel) rfl (ok_X11_taken l ) ce_fI_run, ce_tw_at wd_804 rfl, by decide, by decide +kernel, by decide +kernel, by decide +kernel⟩
