def pc_X6_isMissing : List Nat := [0, 1, 4, 5, 8, 9, 12, 13]
noncomputable def tb_X6_isMissing : List ce_Op := [o_aload 0, o_getI 15 1, o_int (-1), o_cmpne 6, o_int 1, o_goto 7, o_int 0, o_zret]
theorem tl_X6_isMissing : ce_TL tb_X6_isMissing := by
  unfold tb_X6_isMissing
  refine tl_c ta_aload ?_
  refine tl_c ta_getI ?_
  refine tl_c ta_int ?_
  refine tl_c ta_cmpne ?_
  refine tl_c ta_int ?_
  refine tl_c ta_goto ?_
  refine tl_c ta_int ?_
  refine tl_c ta_zret ?_
  exact trivial
set_option maxRecDepth 20000 in
theorem ok_X6_isMissing (l : Launch) : ce_OkL l cX6_isMissing RX6 1 (some .boolean) 1 0 0 pc_X6_isMissing 0 tb_X6_isMissing := by
  unfold tb_X6_isMissing
  refine ok_c (j := 1) rfl (ok_aload_n (j := ⟨0, by decide⟩) (pc := 0) rfl rfl (by decide +kernel)) ?_
  refine ok_c (j := 2) rfl (ok_getI (ci := 6) (C := RX6) (T := TX6) (N := 3) (ix := 15) (pc := 1) rfl rfl (by decide +kernel) rfl (fun _ => rfl) rfl cw_X6 (by decide) rfl wd_223) ?_
  refine ok_c (j := 3) rfl (ok_iconst (n := (-1)) (pc := 4) rfl rfl (by decide +kernel) (by decide)) ?_
  refine ok_c (j := 4) rfl (ok_cmpne (off := 7) (tg := 12) (pc := 5) rfl rfl (by decide +kernel) rfl (by decide)) ?_
  refine ok_c (j := 5) rfl (ok_iconst (n := 1) (pc := 8) rfl rfl (by decide +kernel) (by decide)) ?_
  refine ok_c (j := 6) rfl (ok_goto (off := 4) (tg := 13) (pc := 9) rfl (by decide +kernel) rfl (by decide)) ?_
  refine ok_c (j := 7) rfl (ok_iconst (n := 0) (pc := 12) rfl rfl (by decide +kernel) (by decide)) ?_
  refine ok_c (j := 8) rfl (ok_zret (pc := 13) rfl (by decide +kernel) rfl) ?_
  exact trivial
noncomputable def F_X6_isMissing := ce_fI tb_X6_isMissing 1 (some 15)
theorem ct_X6_isMissing (l : Launch) : ce_callee l yX6_isMissing 0 1 0 0 (ce_wI F_X6_isMissing) := ⟨_, _, _, ce_ctr_of (pcs := pc_X6_isMissing) (by decide +kernel) rfl (ok_X6_isMissing l ) ce_fI_run, ce_tw_at wd_702 rfl, by decide, by decide +kernel, by decide +kernel, by decide +kernel⟩
def pc_X6_become : List Nat := [0, 1, 2, 5, 6, 7, 8, 10, 13, 16, 17, 18, 19, 21, 24, 25, 28, 29, 30, 31, 34, 37]
noncomputable def tb_X6_become : List ce_Op := [o_aload 0, o_iload 1, o_putI 15 1, o_aload 0, o_iload 2, o_int 0, o_int 40, o_ci 3 F_X11_within 0 0 0 0, o_putI 15 2, o_int 0, o_istore 3, o_iload 3, o_int 40, o_cmpge 21, o_aload 0, o_getS 15 16 (ce_k0), o_iload 3, o_int 0, o_ist 16, o_iinc 3 1, o_goto 11, o_vret]
theorem tl_X6_become : ce_TL tb_X6_become := by
  unfold tb_X6_become
  refine tl_c ta_aload ?_
  refine tl_c ta_iload ?_
  refine tl_c ta_putI ?_
  refine tl_c ta_aload ?_
  refine tl_c ta_iload ?_
  refine tl_c ta_int ?_
  refine tl_c ta_int ?_
  refine tl_c ta_ci ?_
  refine tl_c ta_putI ?_
  refine tl_c ta_int ?_
  refine tl_c ta_istore ?_
  refine tl_c ta_iload ?_
  refine tl_c ta_int ?_
  refine tl_c ta_cmpge ?_
  refine tl_c ta_aload ?_
  refine tl_c ta_getS ?_
  refine tl_c ta_iload ?_
  refine tl_c ta_int ?_
  refine tl_c ta_ist ?_
  refine tl_c ta_iinc ?_
  refine tl_c ta_goto ?_
  refine tl_c ta_vret ?_
  exact trivial
set_option maxRecDepth 20000 in
theorem ok_X6_become (l : Launch) : ce_OkL l cX6_become RX6 4 none 3 0 0 pc_X6_become 0 tb_X6_become := by
  unfold tb_X6_become
  refine ok_c (j := 1) rfl (ok_aload_n (j := ⟨0, by decide⟩) (pc := 0) rfl rfl (by decide +kernel)) ?_
  refine ok_c (j := 2) rfl (ok_iload_n (j := ⟨1, by decide⟩) (pc := 1) rfl rfl (by decide +kernel)) ?_
  refine ok_c (j := 3) rfl (ok_putI (ci := 6) (C := RX6) (T := TX6) (N := 3) (ty := tyX6) (ix := 15) (pc := 2) rfl rfl (by decide +kernel) rfl (fun _ => rfl) rfl cw_X6 tyX6_ok nmX6 (by decide) rfl rfl rfl wd_223) ?_
  refine ok_c (j := 4) rfl (ok_aload_n (j := ⟨0, by decide⟩) (pc := 5) rfl rfl (by decide +kernel)) ?_
  refine ok_c (j := 5) rfl (ok_iload_n (j := ⟨2, by decide⟩) (pc := 6) rfl rfl (by decide +kernel)) ?_
  refine ok_c (j := 6) rfl (ok_iconst (n := 0) (pc := 7) rfl rfl (by decide +kernel) (by decide)) ?_
  refine ok_c (j := 7) rfl (ok_bipush (n := 40) (pc := 8) rfl rfl (by decide +kernel) (by decide)) ?_
  refine ok_c (j := 8) rfl (ok_nest (y := yX11_within) (host := RX11) (n := 3) (d' := 2) (ix := 22) is_ci (pc := 10) rfl rfl (by decide +kernel) (by decide) (ct_X11_within l) (fun _ _ _ h => h.2.1.2.2) wd_384 wd_57) ?_
  refine ok_c (j := 9) rfl (ok_putI (ci := 6) (C := RX6) (T := TX6) (N := 3) (ty := tyX6) (ix := 19) (pc := 13) rfl rfl (by decide +kernel) rfl (fun _ => rfl) rfl cw_X6 tyX6_ok nmX6 (by decide) rfl rfl rfl wd_225) ?_
  refine ok_c (j := 10) rfl (ok_iconst (n := 0) (pc := 16) rfl rfl (by decide +kernel) (by decide)) ?_
  refine ok_c (j := 11) rfl (ok_istore_n (j := ⟨3, by decide⟩) (pc := 17) rfl rfl (by decide +kernel) (by decide)) ?_
  refine ok_c (j := 12) rfl (ok_iload_n (j := ⟨3, by decide⟩) (pc := 18) rfl rfl (by decide +kernel)) ?_
  refine ok_c (j := 13) rfl (ok_bipush (n := 40) (pc := 19) rfl rfl (by decide +kernel) (by decide)) ?_
  refine ok_c (j := 14) rfl (ok_cmpge (off := 16) (tg := 37) (pc := 21) rfl rfl (by decide +kernel) rfl (by decide)) ?_
  refine ok_c (j := 15) rfl (ok_aload_n (j := ⟨0, by decide⟩) (pc := 24) rfl rfl (by decide +kernel)) ?_
  refine ok_c (j := 16) rfl (ok_getS (f := 0) (ci := 6) (C := RX6) (T := TX6) (N := 3) (ix := 9) (pc := 25) rfl rfl (by decide +kernel) rfl (fun _ => rfl) rfl cw_X6 (by decide) rfl wd_221) ?_
  refine ok_c (j := 17) rfl (ok_iload_n (j := ⟨3, by decide⟩) (pc := 28) rfl rfl (by decide +kernel)) ?_
  refine ok_c (j := 18) rfl (ok_iconst (n := 0) (pc := 29) rfl rfl (by decide +kernel) (by decide)) ?_
  refine ok_c (j := 19) rfl (ok_ist (pc := 30) rfl rfl (by decide +kernel) rfl) ?_
  refine ok_c (j := 20) rfl (ok_iinc (n := 1) (pc := 31) rfl rfl (by decide +kernel) (by decide) (by decide)) ?_
  refine ok_c (j := 21) rfl (ok_goto (off := (-16)) (tg := 18) (pc := 34) rfl (by decide +kernel) rfl (by decide)) ?_
  refine ok_c (j := 22) rfl (ok_vret (pc := 37) rfl (by decide +kernel) rfl) ?_
  exact trivial
noncomputable def F_X6_become := ce_fV tb_X6_become 4 (some 15)
theorem ct_X6_become (l : Launch) : ce_callee l yX6_become 2 3 0 0 (ce_wV F_X6_become) := ⟨_, _, _, ce_ctr_of (pcs := pc_X6_become) (by decide +kernel) rfl (ok_X6_become l ) ce_fV_run, ce_tw_at wd_777 rfl, by decide, by decide +kernel, by decide +kernel, by decide +kernel⟩
def pc_X6_has : List Nat := [0, 1, 4, 5, 6, 9, 12, 13, 15, 18, 19, 22, 23]
noncomputable def tb_X6_has : List ce_Op := [o_iload 1, o_iflt 11, o_iload 1, o_aload 0, o_getI 15 2, o_cmpge 11, o_iload 1, o_int 40, o_cmpge 11, o_int 1, o_goto 12, o_int 0, o_zret]
theorem tl_X6_has : ce_TL tb_X6_has := by
  unfold tb_X6_has
  refine tl_c ta_iload ?_
  refine tl_c ta_iflt ?_
  refine tl_c ta_iload ?_
  refine tl_c ta_aload ?_
  refine tl_c ta_getI ?_
  refine tl_c ta_cmpge ?_
  refine tl_c ta_iload ?_
  refine tl_c ta_int ?_
  refine tl_c ta_cmpge ?_
  refine tl_c ta_int ?_
  refine tl_c ta_goto ?_
  refine tl_c ta_int ?_
  refine tl_c ta_zret ?_
  exact trivial
set_option maxRecDepth 20000 in
theorem ok_X6_has (l : Launch) : ce_OkL l cX6_has RX6 2 (some .boolean) 1 0 0 pc_X6_has 0 tb_X6_has := by
  unfold tb_X6_has
  refine ok_c (j := 1) rfl (ok_iload_n (j := ⟨1, by decide⟩) (pc := 0) rfl rfl (by decide +kernel)) ?_
  refine ok_c (j := 2) rfl (ok_iflt (off := 21) (tg := 22) (pc := 1) rfl rfl (by decide +kernel) rfl (by decide)) ?_
  refine ok_c (j := 3) rfl (ok_iload_n (j := ⟨1, by decide⟩) (pc := 4) rfl rfl (by decide +kernel)) ?_
  refine ok_c (j := 4) rfl (ok_aload_n (j := ⟨0, by decide⟩) (pc := 5) rfl rfl (by decide +kernel)) ?_
  refine ok_c (j := 5) rfl (ok_getI (ci := 6) (C := RX6) (T := TX6) (N := 3) (ix := 19) (pc := 6) rfl rfl (by decide +kernel) rfl (fun _ => rfl) rfl cw_X6 (by decide) rfl wd_225) ?_
  refine ok_c (j := 6) rfl (ok_cmpge (off := 13) (tg := 22) (pc := 9) rfl rfl (by decide +kernel) rfl (by decide)) ?_
  refine ok_c (j := 7) rfl (ok_iload_n (j := ⟨1, by decide⟩) (pc := 12) rfl rfl (by decide +kernel)) ?_
  refine ok_c (j := 8) rfl (ok_bipush (n := 40) (pc := 13) rfl rfl (by decide +kernel) (by decide)) ?_
  refine ok_c (j := 9) rfl (ok_cmpge (off := 7) (tg := 22) (pc := 15) rfl rfl (by decide +kernel) rfl (by decide)) ?_
  refine ok_c (j := 10) rfl (ok_iconst (n := 1) (pc := 18) rfl rfl (by decide +kernel) (by decide)) ?_
  refine ok_c (j := 11) rfl (ok_goto (off := 4) (tg := 23) (pc := 19) rfl (by decide +kernel) rfl (by decide)) ?_
  refine ok_c (j := 12) rfl (ok_iconst (n := 0) (pc := 22) rfl rfl (by decide +kernel) (by decide)) ?_
  refine ok_c (j := 13) rfl (ok_zret (pc := 23) rfl (by decide +kernel) rfl) ?_
  exact trivial
noncomputable def F_X6_has := ce_fI tb_X6_has 2 (some 15)
theorem ct_X6_has (l : Launch) : ce_callee l yX6_has 1 1 0 0 (ce_wI F_X6_has) := ⟨_, _, _, ce_ctr_of (pcs := pc_X6_has) (by decide +kernel) rfl (ok_X6_has l ) ce_fI_run, ce_tw_at wd_714 rfl, by decide, by decide +kernel, by decide +kernel, by decide +kernel⟩
def pc_X6_hasRun : List Nat := [0, 1, 4, 5, 8, 9, 10, 13, 14, 15, 18, 19, 22, 23]
noncomputable def tb_X6_hasRun : List ce_Op := [o_iload 2, o_iflt 12, o_iload 1, o_iflt 12, o_iload 1, o_aload 0, o_getI 15 2, o_iload 2, o_bin q_sub, o_cmpgt 12, o_int 1, o_goto 13, o_int 0, o_zret]
theorem tl_X6_hasRun : ce_TL tb_X6_hasRun := by
  unfold tb_X6_hasRun
  refine tl_c ta_iload ?_
  refine tl_c ta_iflt ?_
  refine tl_c ta_iload ?_
  refine tl_c ta_iflt ?_
  refine tl_c ta_iload ?_
  refine tl_c ta_aload ?_
  refine tl_c ta_getI ?_
  refine tl_c ta_iload ?_
  refine tl_c ta_bin ?_
  refine tl_c ta_cmpgt ?_
  refine tl_c ta_int ?_
  refine tl_c ta_goto ?_
  refine tl_c ta_int ?_
  refine tl_c ta_zret ?_
  exact trivial
set_option maxRecDepth 20000 in
theorem ok_X6_hasRun (l : Launch) : ce_OkL l cX6_hasRun RX6 3 (some .boolean) 1 0 0 pc_X6_hasRun 0 tb_X6_hasRun := by
  unfold tb_X6_hasRun
  refine ok_c (j := 1) rfl (ok_iload_n (j := ⟨2, by decide⟩) (pc := 0) rfl rfl (by decide +kernel)) ?_
  refine ok_c (j := 2) rfl (ok_iflt (off := 21) (tg := 22) (pc := 1) rfl rfl (by decide +kernel) rfl (by decide)) ?_
  refine ok_c (j := 3) rfl (ok_iload_n (j := ⟨1, by decide⟩) (pc := 4) rfl rfl (by decide +kernel)) ?_
  refine ok_c (j := 4) rfl (ok_iflt (off := 17) (tg := 22) (pc := 5) rfl rfl (by decide +kernel) rfl (by decide)) ?_
  refine ok_c (j := 5) rfl (ok_iload_n (j := ⟨1, by decide⟩) (pc := 8) rfl rfl (by decide +kernel)) ?_
  refine ok_c (j := 6) rfl (ok_aload_n (j := ⟨0, by decide⟩) (pc := 9) rfl rfl (by decide +kernel)) ?_
  refine ok_c (j := 7) rfl (ok_getI (ci := 6) (C := RX6) (T := TX6) (N := 3) (ix := 19) (pc := 10) rfl rfl (by decide +kernel) rfl (fun _ => rfl) rfl cw_X6 (by decide) rfl wd_225) ?_
  refine ok_c (j := 8) rfl (ok_iload_n (j := ⟨2, by decide⟩) (pc := 13) rfl rfl (by decide +kernel)) ?_
  refine ok_c (j := 9) rfl (ok_isub (pc := 14) rfl rfl (by decide +kernel)) ?_
  refine ok_c (j := 10) rfl (ok_cmpgt (off := 7) (tg := 22) (pc := 15) rfl rfl (by decide +kernel) rfl (by decide)) ?_
  refine ok_c (j := 11) rfl (ok_iconst (n := 1) (pc := 18) rfl rfl (by decide +kernel) (by decide)) ?_
  refine ok_c (j := 12) rfl (ok_goto (off := 4) (tg := 23) (pc := 19) rfl (by decide +kernel) rfl (by decide)) ?_
  refine ok_c (j := 13) rfl (ok_iconst (n := 0) (pc := 22) rfl rfl (by decide +kernel) (by decide)) ?_
  refine ok_c (j := 14) rfl (ok_zret (pc := 23) rfl (by decide +kernel) rfl) ?_
  exact trivial
noncomputable def F_X6_hasRun := ce_fI tb_X6_hasRun 3 (some 15)
theorem ct_X6_hasRun (l : Launch) : ce_callee l yX6_hasRun 2 1 0 0 (ce_wI F_X6_hasRun) := ⟨_, _, _, ce_ctr_of (pcs := pc_X6_hasRun) (by decide +kernel) rfl (ok_X6_hasRun l ) ce_fI_run, ce_tw_at wd_795 rfl, by decide, by decide +kernel, by decide +kernel, by decide +kernel⟩
def pc_X6_at : List Nat := [0, 1, 2, 5, 8, 9, 12, 13, 14, 17, 18]
noncomputable def tb_X6_at : List ce_Op := [o_aload 0, o_iload 1, o_ci 2 F_X6_has 0 0 0 0, o_ifeq 9, o_aload 0, o_getS 15 16 (ce_k0), o_iload 1, o_ild 16, o_goto 10, o_int 0, o_iret]
theorem tl_X6_at : ce_TL tb_X6_at := by
  unfold tb_X6_at
  refine tl_c ta_aload ?_
  refine tl_c ta_iload ?_
  refine tl_c ta_ci ?_
  refine tl_c ta_ifeq ?_
  refine tl_c ta_aload ?_
  refine tl_c ta_getS ?_
  refine tl_c ta_iload ?_
  refine tl_c ta_ild ?_
  refine tl_c ta_goto ?_
  refine tl_c ta_int ?_
  refine tl_c ta_iret ?_
  exact trivial
set_option maxRecDepth 20000 in
theorem ok_X6_at (l : Launch) : ce_OkL l cX6_at RX6 2 (some .int) 2 0 0 pc_X6_at 0 tb_X6_at := by
  unfold tb_X6_at
  refine ok_c (j := 1) rfl (ok_aload_n (j := ⟨0, by decide⟩) (pc := 0) rfl rfl (by decide +kernel)) ?_
  refine ok_c (j := 2) rfl (ok_iload_n (j := ⟨1, by decide⟩) (pc := 1) rfl rfl (by decide +kernel)) ?_
  refine ok_c (j := 3) rfl (ok_virtual (y := yX6_has) (n := 1) (d' := 1) (t := 15) (T := TX6) (N := 3) (ix := 26) is_ci (pc := 2) rfl rfl (by decide +kernel) (by decide) (ct_X6_has l) rfl (fun _ => rfl) ce_fI_rec wd_711 wd_712 wd_713 wd_66) ?_
  refine ok_c (j := 4) rfl (ok_ifeq (off := 12) (tg := 17) (pc := 5) rfl rfl (by decide +kernel) rfl (by decide)) ?_
  refine ok_c (j := 5) rfl (ok_aload_n (j := ⟨0, by decide⟩) (pc := 8) rfl rfl (by decide +kernel)) ?_
  refine ok_c (j := 6) rfl (ok_getS (f := 0) (ci := 6) (C := RX6) (T := TX6) (N := 3) (ix := 9) (pc := 9) rfl rfl (by decide +kernel) rfl (fun _ => rfl) rfl cw_X6 (by decide) rfl wd_221) ?_
  refine ok_c (j := 7) rfl (ok_iload_n (j := ⟨1, by decide⟩) (pc := 12) rfl rfl (by decide +kernel)) ?_
  refine ok_c (j := 8) rfl (ok_ild (pc := 13) rfl rfl (by decide +kernel) rfl) ?_
  refine ok_c (j := 9) rfl (ok_goto (off := 4) (tg := 18) (pc := 14) rfl (by decide +kernel) rfl (by decide)) ?_
  refine ok_c (j := 10) rfl (ok_iconst (n := 0) (pc := 17) rfl rfl (by decide +kernel) (by decide)) ?_
  refine ok_c (j := 11) rfl (ok_iret (pc := 18) rfl (by decide +kernel) rfl) ?_
  exact trivial
noncomputable def F_X6_at := ce_fI tb_X6_at 2 (some 15)
theorem ct_X6_at (l : Launch) : ce_callee l yX6_at 1 2 0 0 (ce_wI F_X6_at) := ⟨_, _, _, ce_ctr_of (pcs := pc_X6_at) (by decide +kernel) rfl (ok_X6_at l ) ce_fI_run, ce_tw_at wd_710 rfl, by decide, by decide +kernel, by decide +kernel, by decide +kernel⟩
def pc_X6_put : List Nat := [0, 1, 2, 5, 8, 9, 12, 13, 14, 17, 20, 21, 22, 25, 26, 29, 30, 33, 34, 35, 38, 39, 40]
noncomputable def tb_X6_put : List ce_Op := [o_aload 0, o_iload 1, o_ci 2 F_X6_has 0 0 0 0, o_ifeq 22, o_aload 0, o_getS 15 16 (ce_k0), o_iload 1, o_aload 0, o_getI 15 1, o_ifne 13, o_iload 2, o_un q_i2b, o_goto 21, o_aload 0, o_getI 15 1, o_int 1, o_cmpne 20, o_iload 2, o_un q_i2s, o_goto 21, o_iload 2, o_ist 16, o_vret]
theorem tl_X6_put : ce_TL tb_X6_put := by
  unfold tb_X6_put
  refine tl_c ta_aload ?_
  refine tl_c ta_iload ?_
  refine tl_c ta_ci ?_
  refine tl_c ta_ifeq ?_
  refine tl_c ta_aload ?_
  refine tl_c ta_getS ?_
  refine tl_c ta_iload ?_
  refine tl_c ta_aload ?_
  refine tl_c ta_getI ?_
  refine tl_c ta_ifne ?_
  refine tl_c ta_iload ?_
  refine tl_c ta_un ?_
  refine tl_c ta_goto ?_
  refine tl_c ta_aload ?_
  refine tl_c ta_getI ?_
  refine tl_c ta_int ?_
  refine tl_c ta_cmpne ?_
  refine tl_c ta_iload ?_
  refine tl_c ta_un ?_
  refine tl_c ta_goto ?_
  refine tl_c ta_iload ?_
  refine tl_c ta_ist ?_
  refine tl_c ta_vret ?_
  exact trivial
set_option maxRecDepth 20000 in
theorem ok_X6_put (l : Launch) : ce_OkL l cX6_put RX6 3 none 2 0 0 pc_X6_put 0 tb_X6_put := by
  unfold tb_X6_put
  refine ok_c (j := 1) rfl (ok_aload_n (j := ⟨0, by decide⟩) (pc := 0) rfl rfl (by decide +kernel)) ?_
  refine ok_c (j := 2) rfl (ok_iload_n (j := ⟨1, by decide⟩) (pc := 1) rfl rfl (by decide +kernel)) ?_
  refine ok_c (j := 3) rfl (ok_virtual (y := yX6_has) (n := 1) (d' := 1) (t := 15) (T := TX6) (N := 3) (ix := 26) is_ci (pc := 2) rfl rfl (by decide +kernel) (by decide) (ct_X6_has l) rfl (fun _ => rfl) ce_fI_rec wd_711 wd_712 wd_713 wd_66) ?_
  refine ok_c (j := 4) rfl (ok_ifeq (off := 35) (tg := 40) (pc := 5) rfl rfl (by decide +kernel) rfl (by decide)) ?_
  refine ok_c (j := 5) rfl (ok_aload_n (j := ⟨0, by decide⟩) (pc := 8) rfl rfl (by decide +kernel)) ?_
  refine ok_c (j := 6) rfl (ok_getS (f := 0) (ci := 6) (C := RX6) (T := TX6) (N := 3) (ix := 9) (pc := 9) rfl rfl (by decide +kernel) rfl (fun _ => rfl) rfl cw_X6 (by decide) rfl wd_221) ?_
  refine ok_c (j := 7) rfl (ok_iload_n (j := ⟨1, by decide⟩) (pc := 12) rfl rfl (by decide +kernel)) ?_
  refine ok_c (j := 8) rfl (ok_aload_n (j := ⟨0, by decide⟩) (pc := 13) rfl rfl (by decide +kernel)) ?_
  refine ok_c (j := 9) rfl (ok_getI (ci := 6) (C := RX6) (T := TX6) (N := 3) (ix := 15) (pc := 14) rfl rfl (by decide +kernel) rfl (fun _ => rfl) rfl cw_X6 (by decide) rfl wd_223) ?_
  refine ok_c (j := 10) rfl (ok_ifne (off := 8) (tg := 25) (pc := 17) rfl rfl (by decide +kernel) rfl (by decide)) ?_
  refine ok_c (j := 11) rfl (ok_iload_n (j := ⟨2, by decide⟩) (pc := 20) rfl rfl (by decide +kernel)) ?_
  refine ok_c (j := 12) rfl (ok_i2b (pc := 21) rfl rfl (by decide +kernel)) ?_
  refine ok_c (j := 13) rfl (ok_goto (off := 17) (tg := 39) (pc := 22) rfl (by decide +kernel) rfl (by decide)) ?_
  refine ok_c (j := 14) rfl (ok_aload_n (j := ⟨0, by decide⟩) (pc := 25) rfl rfl (by decide +kernel)) ?_
  refine ok_c (j := 15) rfl (ok_getI (ci := 6) (C := RX6) (T := TX6) (N := 3) (ix := 15) (pc := 26) rfl rfl (by decide +kernel) rfl (fun _ => rfl) rfl cw_X6 (by decide) rfl wd_223) ?_
  refine ok_c (j := 16) rfl (ok_iconst (n := 1) (pc := 29) rfl rfl (by decide +kernel) (by decide)) ?_
  refine ok_c (j := 17) rfl (ok_cmpne (off := 8) (tg := 38) (pc := 30) rfl rfl (by decide +kernel) rfl (by decide)) ?_
  refine ok_c (j := 18) rfl (ok_iload_n (j := ⟨2, by decide⟩) (pc := 33) rfl rfl (by decide +kernel)) ?_
  refine ok_c (j := 19) rfl (ok_i2s (pc := 34) rfl rfl (by decide +kernel)) ?_
  refine ok_c (j := 20) rfl (ok_goto (off := 4) (tg := 39) (pc := 35) rfl (by decide +kernel) rfl (by decide)) ?_
  refine ok_c (j := 21) rfl (ok_iload_n (j := ⟨2, by decide⟩) (pc := 38) rfl rfl (by decide +kernel)) ?_
  refine ok_c (j := 22) rfl (ok_ist (pc := 39) rfl rfl (by decide +kernel) rfl) ?_
  refine ok_c (j := 23) rfl (ok_vret (pc := 40) rfl (by decide +kernel) rfl) ?_
  exact trivial
noncomputable def F_X6_put := ce_fV tb_X6_put 3 (some 15)
theorem ct_X6_put (l : Launch) : ce_callee l yX6_put 2 2 0 0 (ce_wV F_X6_put) := ⟨_, _, _, ce_ctr_of (pcs := pc_X6_put) (by decide +kernel) rfl (ok_X6_put l ) ce_fV_run, ce_tw_at wd_787 rfl, by decide, by decide +kernel, by decide +kernel, by decide +kernel⟩
