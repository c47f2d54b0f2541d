def pc_X9_add : List Nat := [0, 1, 4, 7, 10, 11, 14, 15, 18, 19, 20, 21, 22, 25, 26, 27, 30]
noncomputable def tb_X9_add : List ce_Op := [o_aload 0, o_getI 7 0, o_int 160, o_cmpge 16, o_aload 0, o_getS 7 8 (fun _ => 0), o_aload 0, o_getI 7 0, o_iload 1, o_ist 8, o_aload 0, o_dup, o_getI 7 0, o_int 1, o_bin q_add, o_putI 7 0, o_vret]
theorem tl_X9_add : ce_TL tb_X9_add := by
  unfold tb_X9_add
  refine tl_c ta_aload ?_
  refine tl_c ta_getI ?_
  refine tl_c ta_int ?_
  refine tl_c ta_cmpge ?_
  refine tl_c ta_aload ?_
  refine tl_c ta_getS ?_
  refine tl_c ta_aload ?_
  refine tl_c ta_getI ?_
  refine tl_c ta_iload ?_
  refine tl_c ta_ist ?_
  refine tl_c ta_aload ?_
  refine tl_c ta_dup ?_
  refine tl_c ta_getI ?_
  refine tl_c ta_int ?_
  refine tl_c ta_bin ?_
  refine tl_c ta_putI ?_
  refine tl_c ta_vret ?_
  exact trivial
set_option maxRecDepth 20000 in
theorem ok_X9_add (l : Launch) : ce_OkL l cX9_add RX9 2 none 1 0 0 pc_X9_add 0 tb_X9_add := by
  unfold tb_X9_add
  refine ok_c (j := 1) rfl (ok_aload_n (j := ⟨0, by decide⟩) (pc := 0) rfl rfl (by decide +kernel)) ?_
  refine ok_c (j := 2) rfl (ok_getI (ci := 9) (C := RX9) (T := TX9) (N := 11) (ix := 9) (pc := 1) rfl rfl (by decide +kernel) rfl (fun _ => rfl) rfl cw_X9 (by decide) rfl wd_96) ?_
  refine ok_c (j := 3) rfl (ok_sipush (n := 160) (pc := 4) rfl rfl (by decide +kernel) (by decide)) ?_
  refine ok_c (j := 4) rfl (ok_cmpge (off := 23) (tg := 30) (pc := 7) rfl rfl (by decide +kernel) rfl (by decide)) ?_
  refine ok_c (j := 5) rfl (ok_aload_n (j := ⟨0, by decide⟩) (pc := 10) rfl rfl (by decide +kernel)) ?_
  refine ok_c (j := 6) rfl (ok_getS (f := 1) (ci := 9) (C := RX9) (T := TX9) (N := 11) (ix := 15) (pc := 11) rfl rfl (by decide +kernel) rfl (fun _ => rfl) rfl cw_X9 (by decide) rfl wd_98) ?_
  refine ok_c (j := 7) rfl (ok_aload_n (j := ⟨0, by decide⟩) (pc := 14) rfl rfl (by decide +kernel)) ?_
  refine ok_c (j := 8) rfl (ok_getI (ci := 9) (C := RX9) (T := TX9) (N := 11) (ix := 9) (pc := 15) rfl rfl (by decide +kernel) rfl (fun _ => rfl) rfl cw_X9 (by decide) rfl wd_96) ?_
  refine ok_c (j := 9) rfl (ok_iload_n (j := ⟨1, by decide⟩) (pc := 18) rfl rfl (by decide +kernel)) ?_
  refine ok_c (j := 10) rfl (ok_ist (pc := 19) rfl rfl (by decide +kernel) rfl) ?_
  refine ok_c (j := 11) rfl (ok_aload_n (j := ⟨0, by decide⟩) (pc := 20) rfl rfl (by decide +kernel)) ?_
  refine ok_c (j := 12) rfl (ok_dup (pc := 21) rfl rfl (by decide +kernel)) ?_
  refine ok_c (j := 13) rfl (ok_getI (ci := 9) (C := RX9) (T := TX9) (N := 11) (ix := 9) (pc := 22) rfl rfl (by decide +kernel) rfl (fun _ => rfl) rfl cw_X9 (by decide) rfl wd_96) ?_
  refine ok_c (j := 14) rfl (ok_iconst (n := 1) (pc := 25) rfl rfl (by decide +kernel) (by decide)) ?_
  refine ok_c (j := 15) rfl (ok_iadd (pc := 26) rfl rfl (by decide +kernel)) ?_
  refine ok_c (j := 16) rfl (ok_putI (ci := 9) (C := RX9) (T := TX9) (N := 11) (ty := tyX9) (ix := 9) (pc := 27) rfl rfl (by decide +kernel) rfl (fun _ => rfl) rfl cw_X9 tyX9_ok nmX9 (by decide) rfl rfl rfl wd_96) ?_
  refine ok_c (j := 17) rfl (ok_vret (pc := 30) rfl (by decide +kernel) rfl) ?_
  exact trivial
noncomputable def F_X9_add := ce_fV tb_X9_add 2 (some 7)
theorem ct_X9_add (l : Launch) : ce_callee l yX9_add 1 1 0 0 (ce_wV F_X9_add) := ⟨_, _, _, ce_ctr_of (pcs := pc_X9_add) (by decide +kernel) rfl (ok_X9_add l ) ce_fV_run, ce_tw_at wd_286 rfl, by decide, by decide +kernel, by decide +kernel, by decide +kernel⟩
def pc_X9_isBlank : List Nat := [0, 1, 3, 6, 7, 9, 12, 13, 16, 17]
noncomputable def tb_X9_isBlank : List ce_Op := [o_iload 0, o_int 32, o_cmpeq 6, o_iload 0, o_int 10, o_cmpne 8, o_int 1, o_goto 9, o_int 0, o_zret]
theorem tl_X9_isBlank : ce_TL tb_X9_isBlank := by
  unfold tb_X9_isBlank
  refine tl_c ta_iload ?_
  refine tl_c ta_int ?_
  refine tl_c ta_cmpeq ?_
  refine tl_c ta_iload ?_
  refine tl_c ta_int ?_
  refine tl_c ta_cmpne ?_
  refine tl_c ta_int ?_
  refine tl_c ta_goto ?_
  refine tl_c ta_int ?_
  refine tl_c ta_zret ?_
  exact trivial
set_option maxRecDepth 20000 in
theorem ok_X9_isBlank (l : Launch) : ce_OkL l cX9_isBlank RX9 1 (some .boolean) 1 0 0 pc_X9_isBlank 0 tb_X9_isBlank := by
  unfold tb_X9_isBlank
  refine ok_c (j := 1) rfl (ok_iload_n (j := ⟨0, by decide⟩) (pc := 0) rfl rfl (by decide +kernel)) ?_
  refine ok_c (j := 2) rfl (ok_bipush (n := 32) (pc := 1) rfl rfl (by decide +kernel) (by decide)) ?_
  refine ok_c (j := 3) rfl (ok_cmpeq (off := 9) (tg := 12) (pc := 3) rfl rfl (by decide +kernel) rfl (by decide)) ?_
  refine ok_c (j := 4) rfl (ok_iload_n (j := ⟨0, by decide⟩) (pc := 6) rfl rfl (by decide +kernel)) ?_
  refine ok_c (j := 5) rfl (ok_bipush (n := 10) (pc := 7) rfl rfl (by decide +kernel) (by decide)) ?_
  refine ok_c (j := 6) rfl (ok_cmpne (off := 7) (tg := 16) (pc := 9) rfl rfl (by decide +kernel) rfl (by decide)) ?_
  refine ok_c (j := 7) rfl (ok_iconst (n := 1) (pc := 12) rfl rfl (by decide +kernel) (by decide)) ?_
  refine ok_c (j := 8) rfl (ok_goto (off := 4) (tg := 17) (pc := 13) rfl (by decide +kernel) rfl (by decide)) ?_
  refine ok_c (j := 9) rfl (ok_iconst (n := 0) (pc := 16) rfl rfl (by decide +kernel) (by decide)) ?_
  refine ok_c (j := 10) rfl (ok_zret (pc := 17) rfl (by decide +kernel) rfl) ?_
  exact trivial
noncomputable def F_X9_isBlank := ce_fI tb_X9_isBlank 1 none
theorem ct_X9_isBlank (l : Launch) : ce_callee l yX9_isBlank 1 1 0 0 (ce_wI F_X9_isBlank) := ⟨_, _, _, ce_ctr_of (pcs := pc_X9_isBlank) (by decide +kernel) rfl (ok_X9_isBlank l ) ce_fI_run, ce_tw_at wd_297 rfl, by decide, by decide +kernel, by decide +kernel, by decide +kernel⟩
def pc_X9_isSmallLetter : List Nat := [0, 1, 3, 6, 7, 9, 12, 13, 16, 17]
noncomputable def tb_X9_isSmallLetter : List ce_Op := [o_iload 0, o_int 97, o_cmplt 8, o_iload 0, o_int 122, o_cmpgt 8, o_int 1, o_goto 9, o_int 0, o_zret]
theorem tl_X9_isSmallLetter : ce_TL tb_X9_isSmallLetter := by
  unfold tb_X9_isSmallLetter
  refine tl_c ta_iload ?_
  refine tl_c ta_int ?_
  refine tl_c ta_cmplt ?_
  refine tl_c ta_iload ?_
  refine tl_c ta_int ?_
  refine tl_c ta_cmpgt ?_
  refine tl_c ta_int ?_
  refine tl_c ta_goto ?_
  refine tl_c ta_int ?_
  refine tl_c ta_zret ?_
  exact trivial
set_option maxRecDepth 20000 in
theorem ok_X9_isSmallLetter (l : Launch) : ce_OkL l cX9_isSmallLetter RX9 1 (some .boolean) 1 0 0 pc_X9_isSmallLetter 0 tb_X9_isSmallLetter := by
  unfold tb_X9_isSmallLetter
  refine ok_c (j := 1) rfl (ok_iload_n (j := ⟨0, by decide⟩) (pc := 0) rfl rfl (by decide +kernel)) ?_
  refine ok_c (j := 2) rfl (ok_bipush (n := 97) (pc := 1) rfl rfl (by decide +kernel) (by decide)) ?_
  refine ok_c (j := 3) rfl (ok_cmplt (off := 13) (tg := 16) (pc := 3) rfl rfl (by decide +kernel) rfl (by decide)) ?_
  refine ok_c (j := 4) rfl (ok_iload_n (j := ⟨0, by decide⟩) (pc := 6) rfl rfl (by decide +kernel)) ?_
  refine ok_c (j := 5) rfl (ok_bipush (n := 122) (pc := 7) rfl rfl (by decide +kernel) (by decide)) ?_
  refine ok_c (j := 6) rfl (ok_cmpgt (off := 7) (tg := 16) (pc := 9) rfl rfl (by decide +kernel) rfl (by decide)) ?_
  refine ok_c (j := 7) rfl (ok_iconst (n := 1) (pc := 12) rfl rfl (by decide +kernel) (by decide)) ?_
  refine ok_c (j := 8) rfl (ok_goto (off := 4) (tg := 17) (pc := 13) rfl (by decide +kernel) rfl (by decide)) ?_
  refine ok_c (j := 9) rfl (ok_iconst (n := 0) (pc := 16) rfl rfl (by decide +kernel) (by decide)) ?_
  refine ok_c (j := 10) rfl (ok_zret (pc := 17) rfl (by decide +kernel) rfl) ?_
  exact trivial
noncomputable def F_X9_isSmallLetter := ce_fI tb_X9_isSmallLetter 1 none
theorem ct_X9_isSmallLetter (l : Launch) : ce_callee l yX9_isSmallLetter 1 1 0 0 (ce_wI F_X9_isSmallLetter) := ⟨_, _, _, ce_ctr_of (pcs := pc_X9_isSmallLetter) (by decide +kernel) rfl (ok_X9_isSmallLetter l ) ce_fI_run, ce_tw_at wd_300 rfl, by decide, by decide +kernel, by decide +kernel, by decide +kernel⟩
def pc_X9_isDigit : List Nat := [0, 1, 3, 6, 7, 9, 12, 13, 16, 17]
noncomputable def tb_X9_isDigit : List ce_Op := [o_iload 0, o_int 48, o_cmplt 8, o_iload 0, o_int 57, o_cmpgt 8, o_int 1, o_goto 9, o_int 0, o_zret]
theorem tl_X9_isDigit : ce_TL tb_X9_isDigit := by
  unfold tb_X9_isDigit
  refine tl_c ta_iload ?_
  refine tl_c ta_int ?_
  refine tl_c ta_cmplt ?_
  refine tl_c ta_iload ?_
  refine tl_c ta_int ?_
  refine tl_c ta_cmpgt ?_
  refine tl_c ta_int ?_
  refine tl_c ta_goto ?_
  refine tl_c ta_int ?_
  refine tl_c ta_zret ?_
  exact trivial
set_option maxRecDepth 20000 in
theorem ok_X9_isDigit (l : Launch) : ce_OkL l cX9_isDigit RX9 1 (some .boolean) 1 0 0 pc_X9_isDigit 0 tb_X9_isDigit := by
  unfold tb_X9_isDigit
  refine ok_c (j := 1) rfl (ok_iload_n (j := ⟨0, by decide⟩) (pc := 0) rfl rfl (by decide +kernel)) ?_
  refine ok_c (j := 2) rfl (ok_bipush (n := 48) (pc := 1) rfl rfl (by decide +kernel) (by decide)) ?_
  refine ok_c (j := 3) rfl (ok_cmplt (off := 13) (tg := 16) (pc := 3) rfl rfl (by decide +kernel) rfl (by decide)) ?_
  refine ok_c (j := 4) rfl (ok_iload_n (j := ⟨0, by decide⟩) (pc := 6) rfl rfl (by decide +kernel)) ?_
  refine ok_c (j := 5) rfl (ok_bipush (n := 57) (pc := 7) rfl rfl (by decide +kernel) (by decide)) ?_
  refine ok_c (j := 6) rfl (ok_cmpgt (off := 7) (tg := 16) (pc := 9) rfl rfl (by decide +kernel) rfl (by decide)) ?_
  refine ok_c (j := 7) rfl (ok_iconst (n := 1) (pc := 12) rfl rfl (by decide +kernel) (by decide)) ?_
  refine ok_c (j := 8) rfl (ok_goto (off := 4) (tg := 17) (pc := 13) rfl (by decide +kernel) rfl (by decide)) ?_
  refine ok_c (j := 9) rfl (ok_iconst (n := 0) (pc := 16) rfl rfl (by decide +kernel) (by decide)) ?_
  refine ok_c (j := 10) rfl (ok_zret (pc := 17) rfl (by decide +kernel) rfl) ?_
  exact trivial
noncomputable def F_X9_isDigit := ce_fI tb_X9_isDigit 1 none
theorem ct_X9_isDigit (l : Launch) : ce_callee l yX9_isDigit 1 1 0 0 (ce_wI F_X9_isDigit) := ⟨_, _, _, ce_ctr_of (pcs := pc_X9_isDigit) (by decide +kernel) rfl (ok_X9_isDigit l ) ce_fI_run, ce_tw_at wd_325 rfl, by decide, by decide +kernel, by decide +kernel, by decide +kernel⟩
def pc_X9_signToken : List Nat := [0, 1, 104, 105, 106, 108, 109, 111, 112, 114, 115, 117, 118, 120, 121, 123, 124, 126, 127, 129]
noncomputable def tb_X9_signToken : List ce_Op := [o_iload 0, o_sw [(40, 2), (41, 4), (42, 12), (43, 8), (44, 18), (45, 10), (46, 18), (47, 18), (48, 18), (49, 18), (50, 18), (51, 18), (52, 18), (53, 18), (54, 18), (55, 18), (56, 18), (57, 18), (58, 18), (59, 6), (60, 14), (61, 16)] 18, o_int 5, o_iret, o_int 6, o_iret, o_int 7, o_iret, o_int (-13), o_iret, o_int (-14), o_iret, o_int (-15), o_iret, o_int (-11), o_iret, o_int (-12), o_iret, o_int 8, o_iret]
theorem tl_X9_signToken : ce_TL tb_X9_signToken := by
  unfold tb_X9_signToken
  refine tl_c ta_iload ?_
  refine tl_c ta_sw ?_
  refine tl_c ta_int ?_
  refine tl_c ta_iret ?_
  refine tl_c ta_int ?_
  refine tl_c ta_iret ?_
  refine tl_c ta_int ?_
  refine tl_c ta_iret ?_
  refine tl_c ta_int ?_
  refine tl_c ta_iret ?_
  refine tl_c ta_int ?_
  refine tl_c ta_iret ?_
  refine tl_c ta_int ?_
  refine tl_c ta_iret ?_
  refine tl_c ta_int ?_
  refine tl_c ta_iret ?_
  refine tl_c ta_int ?_
  refine tl_c ta_iret ?_
  refine tl_c ta_int ?_
  refine tl_c ta_iret ?_
  exact trivial
set_option maxRecDepth 20000 in
theorem ok_X9_signToken (l : Launch) : ce_OkL l cX9_signToken RX9 1 (some .int) 1 0 0 pc_X9_signToken 0 tb_X9_signToken := by
  unfold tb_X9_signToken
  refine ok_c (j := 1) rfl (ok_iload_n (j := ⟨0, by decide⟩) (pc := 0) rfl rfl (by decide +kernel)) ?_
  refine ok_c (j := 2) rfl (ok_sw (lo := 40) (hi := 61) (dflt := 126) (offs := #[103, 105, 117, 111, 126, 114, 126, 126, 126, 126, 126, 126, 126, 126, 126, 126, 126, 126, 126, 108, 120, 123]) (len := 103) (pc := 1) rfl (by decide +kernel) (by decide +kernel) (by decide) (by decide)) ?_
  refine ok_c (j := 3) rfl (ok_iconst (n := 5) (pc := 104) rfl rfl (by decide +kernel) (by decide)) ?_
  refine ok_c (j := 4) rfl (ok_iret (pc := 105) rfl (by decide +kernel) rfl) ?_
  refine ok_c (j := 5) rfl (ok_bipush (n := 6) (pc := 106) rfl rfl (by decide +kernel) (by decide)) ?_
  refine ok_c (j := 6) rfl (ok_iret (pc := 108) rfl (by decide +kernel) rfl) ?_
  refine ok_c (j := 7) rfl (ok_bipush (n := 7) (pc := 109) rfl rfl (by decide +kernel) (by decide)) ?_
  refine ok_c (j := 8) rfl (ok_iret (pc := 111) rfl (by decide +kernel) rfl) ?_
  refine ok_c (j := 9) rfl (ok_bipush (n := (-13)) (pc := 112) rfl rfl (by decide +kernel) (by decide)) ?_
  refine ok_c (j := 10) rfl (ok_iret (pc := 114) rfl (by decide +kernel) rfl) ?_
  refine ok_c (j := 11) rfl (ok_bipush (n := (-14)) (pc := 115) rfl rfl (by decide +kernel) (by decide)) ?_
  refine ok_c (j := 12) rfl (ok_iret (pc := 117) rfl (by decide +kernel) rfl) ?_
  refine ok_c (j := 13) rfl (ok_bipush (n := (-15)) (pc := 118) rfl rfl (by decide +kernel) (by decide)) ?_
  refine ok_c (j := 14) rfl (ok_iret (pc := 120) rfl (by decide +kernel) rfl) ?_
  refine ok_c (j := 15) rfl (ok_bipush (n := (-11)) (pc := 121) rfl rfl (by decide +kernel) (by decide)) ?_
  refine ok_c (j := 16) rfl (ok_iret (pc := 123) rfl (by decide +kernel) rfl) ?_
  refine ok_c (j := 17) rfl (ok_bipush (n := (-12)) (pc := 124) rfl rfl (by decide +kernel) (by decide)) ?_
  refine ok_c (j := 18) rfl (ok_iret (pc := 126) rfl (by decide +kernel) rfl) ?_
  refine ok_c (j := 19) rfl (ok_bipush (n := 8) (pc := 127) rfl rfl (by decide +kernel) (by decide)) ?_
  refine ok_c (j := 20) rfl (ok_iret (pc := 129) rfl (by decide +kernel) rfl) ?_
  exact trivial
noncomputable def F_X9_signToken := ce_fI tb_X9_signToken 1 none
theorem ct_X9_signToken (l : Launch) : ce_callee l yX9_signToken 1 1 0 0 (ce_wI F_X9_signToken) := ⟨_, _, _, ce_ctr_of (pcs := pc_X9_signToken) (by decide +kernel) rfl (ok_X9_signToken l ) ce_fI_run, ce_tw_at wd_332 rfl, by decide, by decide +kernel, by decide +kernel, by decide +kernel⟩
def pc_X9_numberToken : List Nat := [0, 1, 2, 5, 6, 9, 10, 13, 16, 17, 20, 21, 24, 25, 28, 31, 32, 34, 35, 38, 39, 40, 43, 44, 47, 48, 49, 51, 52, 55, 56, 57, 60, 61, 62, 65, 68, 69, 72, 73, 76, 77, 78, 81, 82, 85, 87]
noncomputable def tb_X9_numberToken : List ce_Op := [o_aload 0, o_int 0, o_putI 7 6, o_aload 0, o_getI 7 3, o_aload 0, o_getI 7 0, o_cmpge 36, o_aload 0, o_getS 7 8 (fun _ => 0), o_aload 0, o_getI 7 3, o_ild 8, o_ci 1 F_X9_isDigit 0 0 0 0, o_ifeq 36, o_aload 0, o_int 10, o_aload 0, o_getI 7 6, o_bin q_mul, o_aload 0, o_getS 7 8 (fun _ => 0), o_aload 0, o_getI 7 3, o_ild 8, o_bin q_add, o_int 48, o_bin q_sub, o_putI 7 6, o_aload 0, o_dup, o_getI 7 3, o_int 1, o_bin q_add, o_putI 7 3, o_goto 3, o_aload 0, o_getI 7 3, o_aload 0, o_getI 7 5, o_bin q_sub, o_int 4, o_cmpgt 45, o_int 1, o_goto 46, o_int 8, o_iret]
theorem tl_X9_numberToken : ce_TL tb_X9_numberToken := by
  unfold tb_X9_numberToken
  refine tl_c ta_aload ?_
  refine tl_c ta_int ?_
  refine tl_c ta_putI ?_
  refine tl_c ta_aload ?_
  refine tl_c ta_getI ?_
  refine tl_c ta_aload ?_
  refine tl_c ta_getI ?_
  refine tl_c ta_cmpge ?_
  refine tl_c ta_aload ?_
  refine tl_c ta_getS ?_
  refine tl_c ta_aload ?_
  refine tl_c ta_getI ?_
  refine tl_c ta_ild ?_
  refine tl_c ta_ci ?_
  refine tl_c ta_ifeq ?_
  refine tl_c ta_aload ?_
  refine tl_c ta_int ?_
  refine tl_c ta_aload ?_
  refine tl_c ta_getI ?_
  refine tl_c ta_bin ?_
  refine tl_c ta_aload ?_
  refine tl_c ta_getS ?_
  refine tl_c ta_aload ?_
  refine tl_c ta_getI ?_
  refine tl_c ta_ild ?_
  refine tl_c ta_bin ?_
  refine tl_c ta_int ?_
  refine tl_c ta_bin ?_
  refine tl_c ta_putI ?_
  refine tl_c ta_aload ?_
  refine tl_c ta_dup ?_
  refine tl_c ta_getI ?_
  refine tl_c ta_int ?_
  refine tl_c ta_bin ?_
  refine tl_c ta_putI ?_
  refine tl_c ta_goto ?_
  refine tl_c ta_aload ?_
  refine tl_c ta_getI ?_
  refine tl_c ta_aload ?_
  refine tl_c ta_getI ?_
  refine tl_c ta_bin ?_
  refine tl_c ta_int ?_
  refine tl_c ta_cmpgt ?_
  refine tl_c ta_int ?_
  refine tl_c ta_goto ?_
  refine tl_c ta_int ?_
  refine tl_c ta_iret ?_
  exact trivial
set_option maxRecDepth 20000 in
theorem ok_X9_numberToken (l : Launch) : ce_OkL l cX9_numberToken RX9 1 (some .int) 2 0 0 pc_X9_numberToken 0 tb_X9_numberToken := by
  unfold tb_X9_numberToken
  refine ok_c (j := 1) rfl (ok_aload_n (j := ⟨0, by decide⟩) (pc := 0) rfl rfl (by decide +kernel)) ?_
  refine ok_c (j := 2) rfl (ok_iconst (n := 0) (pc := 1) rfl rfl (by decide +kernel) (by decide)) ?_
  refine ok_c (j := 3) rfl (ok_putI (ci := 9) (C := RX9) (T := TX9) (N := 11) (ty := tyX9) (ix := 31) (pc := 2) rfl rfl (by decide +kernel) rfl (fun _ => rfl) rfl cw_X9 tyX9_ok nmX9 (by decide) rfl rfl rfl wd_103) ?_
  refine ok_c (j := 4) rfl (ok_aload_n (j := ⟨0, by decide⟩) (pc := 5) rfl rfl (by decide +kernel)) ?_
  refine ok_c (j := 5) rfl (ok_getI (ci := 9) (C := RX9) (T := TX9) (N := 11) (ix := 22) (pc := 6) rfl rfl (by decide +kernel) rfl (fun _ => rfl) rfl cw_X9 (by decide) rfl wd_100) ?_
  refine ok_c (j := 6) rfl (ok_aload_n (j := ⟨0, by decide⟩) (pc := 9) rfl rfl (by decide +kernel)) ?_
  refine ok_c (j := 7) rfl (ok_getI (ci := 9) (C := RX9) (T := TX9) (N := 11) (ix := 9) (pc := 10) rfl rfl (by decide +kernel) rfl (fun _ => rfl) rfl cw_X9 (by decide) rfl wd_96) ?_
  refine ok_c (j := 8) rfl (ok_cmpge (off := 55) (tg := 68) (pc := 13) rfl rfl (by decide +kernel) rfl (by decide)) ?_
  refine ok_c (j := 9) rfl (ok_aload_n (j := ⟨0, by decide⟩) (pc := 16) rfl rfl (by decide +kernel)) ?_
  refine ok_c (j := 10) rfl (ok_getS (f := 1) (ci := 9) (C := RX9) (T := TX9) (N := 11) (ix := 15) (pc := 17) rfl rfl (by decide +kernel) rfl (fun _ => rfl) rfl cw_X9 (by decide) rfl wd_98) ?_
  refine ok_c (j := 11) rfl (ok_aload_n (j := ⟨0, by decide⟩) (pc := 20) rfl rfl (by decide +kernel)) ?_
  refine ok_c (j := 12) rfl (ok_getI (ci := 9) (C := RX9) (T := TX9) (N := 11) (ix := 22) (pc := 21) rfl rfl (by decide +kernel) rfl (fun _ => rfl) rfl cw_X9 (by decide) rfl wd_100) ?_
  refine ok_c (j := 13) rfl (ok_ild (pc := 24) rfl rfl (by decide +kernel) rfl) ?_
  refine ok_c (j := 14) rfl (ok_static (y := yX9_isDigit) (n := 1) (d' := 1) (ix := 96) is_ci (pc := 25) rfl rfl (by decide +kernel) (by decide) rfl (ct_X9_isDigit l) wd_323 wd_324 wd_58) ?_
  refine ok_c (j := 15) rfl (ok_ifeq (off := 40) (tg := 68) (pc := 28) rfl rfl (by decide +kernel) rfl (by decide)) ?_
  refine ok_c (j := 16) rfl (ok_aload_n (j := ⟨0, by decide⟩) (pc := 31) rfl rfl (by decide +kernel)) ?_
  refine ok_c (j := 17) rfl (ok_bipush (n := 10) (pc := 32) rfl rfl (by decide +kernel) (by decide)) ?_
  refine ok_c (j := 18) rfl (ok_aload_n (j := ⟨0, by decide⟩) (pc := 34) rfl rfl (by decide +kernel)) ?_
  refine ok_c (j := 19) rfl (ok_getI (ci := 9) (C := RX9) (T := TX9) (N := 11) (ix := 31) (pc := 35) rfl rfl (by decide +kernel) rfl (fun _ => rfl) rfl cw_X9 (by decide) rfl wd_103) ?_
  refine ok_c (j := 20) rfl (ok_imul (pc := 38) rfl rfl (by decide +kernel)) ?_
  refine ok_c (j := 21) rfl (ok_aload_n (j := ⟨0, by decide⟩) (pc := 39) rfl rfl (by decide +kernel)) ?_
  refine ok_c (j := 22) rfl (ok_getS (f := 1) (ci := 9) (C := RX9) (T := TX9) (N := 11) (ix := 15) (pc := 40) rfl rfl (by decide +kernel) rfl (fun _ => rfl) rfl cw_X9 (by decide) rfl wd_98) ?_
  refine ok_c (j := 23) rfl (ok_aload_n (j := ⟨0, by decide⟩) (pc := 43) rfl rfl (by decide +kernel)) ?_
  refine ok_c (j := 24) rfl (ok_getI (ci := 9) (C := RX9) (T := TX9) (N := 11) (ix := 22) (pc := 44) rfl rfl (by decide +kernel) rfl (fun _ => rfl) rfl cw_X9 (by decide) rfl wd_100) ?_
  refine ok_c (j := 25) rfl (ok_ild (pc := 47) rfl rfl (by decide +kernel) rfl) ?_
  refine ok_c (j := 26) rfl (ok_iadd (pc := 48) rfl rfl (by decide +kernel)) ?_
  refine ok_c (j := 27) rfl (ok_bipush (n := 48) (pc := 49) rfl rfl (by decide +kernel) (by decide)) ?_
  refine ok_c (j := 28) rfl (ok_isub (pc := 51) rfl rfl (by decide +kernel)) ?_
  refine ok_c (j := 29) rfl (ok_putI (ci := 9) (C := RX9) (T := TX9) (N := 11) (ty := tyX9) (ix := 31) (pc := 52) rfl rfl (by decide +kernel) rfl (fun _ => rfl) rfl cw_X9 tyX9_ok nmX9 (by decide) rfl rfl rfl wd_103) ?_
  refine ok_c (j := 30) rfl (ok_aload_n (j := ⟨0, by decide⟩) (pc := 55) rfl rfl (by decide +kernel)) ?_
  refine ok_c (j := 31) rfl (ok_dup (pc := 56) rfl rfl (by decide +kernel)) ?_
  refine ok_c (j := 32) rfl (ok_getI (ci := 9) (C := RX9) (T := TX9) (N := 11) (ix := 22) (pc := 57) rfl rfl (by decide +kernel) rfl (fun _ => rfl) rfl cw_X9 (by decide) rfl wd_100) ?_
  refine ok_c (j := 33) rfl (ok_iconst (n := 1) (pc := 60) rfl rfl (by decide +kernel) (by decide)) ?_
  refine ok_c (j := 34) rfl (ok_iadd (pc := 61) rfl rfl (by decide +kernel)) ?_
  refine ok_c (j := 35) rfl (ok_putI (ci := 9) (C := RX9) (T := TX9) (N := 11) (ty := tyX9) (ix := 22) (pc := 62) rfl rfl (by decide +kernel) rfl (fun _ => rfl) rfl cw_X9 tyX9_ok nmX9 (by decide) rfl rfl rfl wd_100) ?_
  refine ok_c (j := 36) rfl (ok_goto (off := (-60)) (tg := 5) (pc := 65) rfl (by decide +kernel) rfl (by decide)) ?_
  refine ok_c (j := 37) rfl (ok_aload_n (j := ⟨0, by decide⟩) (pc := 68) rfl rfl (by decide +kernel)) ?_
  refine ok_c (j := 38) rfl (ok_getI (ci := 9) (C := RX9) (T := TX9) (N := 11) (ix := 22) (pc := 69) rfl rfl (by decide +kernel) rfl (fun _ => rfl) rfl cw_X9 (by decide) rfl wd_100) ?_
  refine ok_c (j := 39) rfl (ok_aload_n (j := ⟨0, by decide⟩) (pc := 72) rfl rfl (by decide +kernel)) ?_
  refine ok_c (j := 40) rfl (ok_getI (ci := 9) (C := RX9) (T := TX9) (N := 11) (ix := 28) (pc := 73) rfl rfl (by decide +kernel) rfl (fun _ => rfl) rfl cw_X9 (by decide) rfl wd_102) ?_
  refine ok_c (j := 41) rfl (ok_isub (pc := 76) rfl rfl (by decide +kernel)) ?_
  refine ok_c (j := 42) rfl (ok_iconst (n := 4) (pc := 77) rfl rfl (by decide +kernel) (by decide)) ?_
  refine ok_c (j := 43) rfl (ok_cmpgt (off := 7) (tg := 85) (pc := 78) rfl rfl (by decide +kernel) rfl (by decide)) ?_
  refine ok_c (j := 44) rfl (ok_iconst (n := 1) (pc := 81) rfl rfl (by decide +kernel) (by decide)) ?_
  refine ok_c (j := 45) rfl (ok_goto (off := 5) (tg := 87) (pc := 82) rfl (by decide +kernel) rfl (by decide)) ?_
  refine ok_c (j := 46) rfl (ok_bipush (n := 8) (pc := 85) rfl rfl (by decide +kernel) (by decide)) ?_
  refine ok_c (j := 47) rfl (ok_iret (pc := 87) rfl (by decide +kernel) rfl) ?_
  exact trivial
noncomputable def F_X9_numberToken := ce_fI tb_X9_numberToken 1 (some 7)
theorem ct_X9_numberToken (l : Launch) : ce_callee l yX9_numberToken 0 2 0 0 (ce_wI F_X9_numberToken) := ⟨_, _, _, ce_ctr_of (pcs := pc_X9_numberToken) (by decide +kernel) rfl (ok_X9_numberToken l ) ce_fI_run, ce_tw_at wd_329 rfl, by decide, by decide +kernel, by decide +kernel, by decide +kernel⟩
def pc_X9_fail : List Nat := [0, 1, 4, 5, 8, 9, 10, 13, 16, 17, 19, 22]
noncomputable def tb_X9_fail : List ce_Op := [o_aload 0, o_getI 7 10, o_int (-1), o_cmpne 8, o_aload 0, o_aload 0, o_getI 7 5, o_putI 7 10, o_aload 0, o_int 8, o_putI 7 4, o_vret]
theorem tl_X9_fail : ce_TL tb_X9_fail := by
  unfold tb_X9_fail
  refine tl_c ta_aload ?_
  refine tl_c ta_getI ?_
  refine tl_c ta_int ?_
  refine tl_c ta_cmpne ?_
  refine tl_c ta_aload ?_
  refine tl_c ta_aload ?_
  refine tl_c ta_getI ?_
  refine tl_c ta_putI ?_
  refine tl_c ta_aload ?_
  refine tl_c ta_int ?_
  refine tl_c ta_putI ?_
  refine tl_c ta_vret ?_
  exact trivial
set_option maxRecDepth 20000 in
theorem ok_X9_fail (l : Launch) : ce_OkL l cX9_fail RX9 1 none 1 0 0 pc_X9_fail 0 tb_X9_fail := by
  unfold tb_X9_fail
  refine ok_c (j := 1) rfl (ok_aload_n (j := ⟨0, by decide⟩) (pc := 0) rfl rfl (by decide +kernel)) ?_
  refine ok_c (j := 2) rfl (ok_getI (ci := 9) (C := RX9) (T := TX9) (N := 11) (ix := 43) (pc := 1) rfl rfl (by decide +kernel) rfl (fun _ => rfl) rfl cw_X9 (by decide) rfl wd_107) ?_
  refine ok_c (j := 3) rfl (ok_iconst (n := (-1)) (pc := 4) rfl rfl (by decide +kernel) (by decide)) ?_
  refine ok_c (j := 4) rfl (ok_cmpne (off := 11) (tg := 16) (pc := 5) rfl rfl (by decide +kernel) rfl (by decide)) ?_
  refine ok_c (j := 5) rfl (ok_aload_n (j := ⟨0, by decide⟩) (pc := 8) rfl rfl (by decide +kernel)) ?_
  refine ok_c (j := 6) rfl (ok_aload_n (j := ⟨0, by decide⟩) (pc := 9) rfl rfl (by decide +kernel)) ?_
  refine ok_c (j := 7) rfl (ok_getI (ci := 9) (C := RX9) (T := TX9) (N := 11) (ix := 28) (pc := 10) rfl rfl (by decide +kernel) rfl (fun _ => rfl) rfl cw_X9 (by decide) rfl wd_102) ?_
  refine ok_c (j := 8) rfl (ok_putI (ci := 9) (C := RX9) (T := TX9) (N := 11) (ty := tyX9) (ix := 43) (pc := 13) rfl rfl (by decide +kernel) rfl (fun _ => rfl) rfl cw_X9 tyX9_ok nmX9 (by decide) rfl rfl rfl wd_107) ?_
  refine ok_c (j := 9) rfl (ok_aload_n (j := ⟨0, by decide⟩) (pc := 16) rfl rfl (by decide +kernel)) ?_
  refine ok_c (j := 10) rfl (ok_bipush (n := 8) (pc := 17) rfl rfl (by decide +kernel) (by decide)) ?_
  refine ok_c (j := 11) rfl (ok_putI (ci := 9) (C := RX9) (T := TX9) (N := 11) (ty := tyX9) (ix := 25) (pc := 19) rfl rfl (by decide +kernel) rfl (fun _ => rfl) rfl cw_X9 tyX9_ok nmX9 (by decide) rfl rfl rfl wd_101) ?_
  refine ok_c (j := 12) rfl (ok_vret (pc := 22) rfl (by decide +kernel) rfl) ?_
  exact trivial
noncomputable def F_X9_fail := ce_fV tb_X9_fail 1 (some 7)
theorem ct_X9_fail (l : Launch) : ce_callee l yX9_fail 0 1 0 0 (ce_wV F_X9_fail) := ⟨_, _, _, ce_ctr_of (pcs := pc_X9_fail) (by decide +kernel) rfl (ok_X9_fail l ) ce_fV_run, ce_tw_at wd_344 rfl, by decide, by decide +kernel, by decide +kernel, by decide +kernel⟩
def pc_X9_emit : List Nat := [0, 1, 4, 7, 10, 11, 14, 15, 18, 19, 20, 21, 22, 25, 26, 27, 30]
noncomputable def tb_X9_emit : List ce_Op := [o_aload 0, o_getI 7 7, o_int 160, o_cmpge 16, o_aload 0, o_getS 7 9 (fun _ => 0), o_aload 0, o_getI 7 7, o_iload 1, o_ist 9, o_aload 0, o_dup, o_getI 7 7, o_int 1, o_bin q_add, o_putI 7 7, o_vret]
theorem tl_X9_emit : ce_TL tb_X9_emit := by
  unfold tb_X9_emit
  refine tl_c ta_aload ?_
  refine tl_c ta_getI ?_
  refine tl_c ta_int ?_
  refine tl_c ta_cmpge ?_
  refine tl_c ta_aload ?_
  refine tl_c ta_getS ?_
  refine tl_c ta_aload ?_
  refine tl_c ta_getI ?_
  refine tl_c ta_iload ?_
  refine tl_c ta_ist ?_
  refine tl_c ta_aload ?_
  refine tl_c ta_dup ?_
  refine tl_c ta_getI ?_
  refine tl_c ta_int ?_
  refine tl_c ta_bin ?_
  refine tl_c ta_putI ?_
  refine tl_c ta_vret ?_
  exact trivial
set_option maxRecDepth 20000 in
theorem ok_X9_emit (l : Launch) : ce_OkL l cX9_emit RX9 2 none 1 0 0 pc_X9_emit 0 tb_X9_emit := by
  unfold tb_X9_emit
  refine ok_c (j := 1) rfl (ok_aload_n (j := ⟨0, by decide⟩) (pc := 0) rfl rfl (by decide +kernel)) ?_
  refine ok_c (j := 2) rfl (ok_getI (ci := 9) (C := RX9) (T := TX9) (N := 11) (ix := 34) (pc := 1) rfl rfl (by decide +kernel) rfl (fun _ => rfl) rfl cw_X9 (by decide) rfl wd_104) ?_
  refine ok_c (j := 3) rfl (ok_sipush (n := 160) (pc := 4) rfl rfl (by decide +kernel) (by decide)) ?_
  refine ok_c (j := 4) rfl (ok_cmpge (off := 23) (tg := 30) (pc := 7) rfl rfl (by decide +kernel) rfl (by decide)) ?_
  refine ok_c (j := 5) rfl (ok_aload_n (j := ⟨0, by decide⟩) (pc := 10) rfl rfl (by decide +kernel)) ?_
  refine ok_c (j := 6) rfl (ok_getS (f := 2) (ci := 9) (C := RX9) (T := TX9) (N := 11) (ix := 19) (pc := 11) rfl rfl (by decide +kernel) rfl (fun _ => rfl) rfl cw_X9 (by decide) rfl wd_99) ?_
  refine ok_c (j := 7) rfl (ok_aload_n (j := ⟨0, by decide⟩) (pc := 14) rfl rfl (by decide +kernel)) ?_
  refine ok_c (j := 8) rfl (ok_getI (ci := 9) (C := RX9) (T := TX9) (N := 11) (ix := 34) (pc := 15) rfl rfl (by decide +kernel) rfl (fun _ => rfl) rfl cw_X9 (by decide) rfl wd_104) ?_
  refine ok_c (j := 9) rfl (ok_iload_n (j := ⟨1, by decide⟩) (pc := 18) rfl rfl (by decide +kernel)) ?_
  refine ok_c (j := 10) rfl (ok_ist (pc := 19) rfl rfl (by decide +kernel) rfl) ?_
  refine ok_c (j := 11) rfl (ok_aload_n (j := ⟨0, by decide⟩) (pc := 20) rfl rfl (by decide +kernel)) ?_
  refine ok_c (j := 12) rfl (ok_dup (pc := 21) rfl rfl (by decide +kernel)) ?_
  refine ok_c (j := 13) rfl (ok_getI (ci := 9) (C := RX9) (T := TX9) (N := 11) (ix := 34) (pc := 22) rfl rfl (by decide +kernel) rfl (fun _ => rfl) rfl cw_X9 (by decide) rfl wd_104) ?_
  refine ok_c (j := 14) rfl (ok_iconst (n := 1) (pc := 25) rfl rfl (by decide +kernel) (by decide)) ?_
  refine ok_c (j := 15) rfl (ok_iadd (pc := 26) rfl rfl (by decide +kernel)) ?_
  refine ok_c (j := 16) rfl (ok_putI (ci := 9) (C := RX9) (T := TX9) (N := 11) (ty := tyX9) (ix := 34) (pc := 27) rfl rfl (by decide +kernel) rfl (fun _ => rfl) rfl cw_X9 tyX9_ok nmX9 (by decide) rfl rfl rfl wd_104) ?_
  refine ok_c (j := 17) rfl (ok_vret (pc := 30) rfl (by decide +kernel) rfl) ?_
  exact trivial
noncomputable def F_X9_emit := ce_fV tb_X9_emit 2 (some 7)
theorem ct_X9_emit (l : Launch) : ce_callee l yX9_emit 1 1 0 0 (ce_wV F_X9_emit) := ⟨_, _, _, ce_ctr_of (pcs := pc_X9_emit) (by decide +kernel) rfl (ok_X9_emit l ) ce_fV_run, ce_tw_at wd_360 rfl, by decide, by decide +kernel, by decide +kernel, by decide +kernel⟩
def pc_X9_spells : List Nat := [0, 1, 4, 5, 8, 9, 10, 13, 16, 17, 18, 19, 20, 21, 22, 25, 28, 29, 32, 33, 36, 37, 38, 39, 40, 41, 44, 47, 48, 49, 52, 55, 56]
noncomputable def tb_X9_spells : List ce_Op := [o_aload 0, o_getI 7 3, o_aload 0, o_getI 7 5, o_bin q_sub, o_aload 1, o_ci 1 (ce_str F_J0_length_8abf5) 0 0 0 0, o_cmpeq 10, o_int 0, o_zret, o_int 0, o_istore 2, o_iload 2, o_aload 1, o_ci 1 (ce_str F_J0_length_8abf5) 0 0 0 0, o_cmpge 31, o_aload 0, o_getS 7 8 (fun _ => 0), o_aload 0, o_getI 7 5, o_iload 2, o_bin q_add, o_ild 8, o_aload 1, o_iload 2, o_ci 2 (ce_str F_J0_charAt_5068e) 0 0 0 0, o_cmpeq 29, o_int 0, o_zret, o_iinc 2 1, o_goto 12, o_int 1, o_zret]
theorem tl_X9_spells : ce_TL tb_X9_spells := by
  unfold tb_X9_spells
  refine tl_c ta_aload ?_
  refine tl_c ta_getI ?_
  refine tl_c ta_aload ?_
  refine tl_c ta_getI ?_
  refine tl_c ta_bin ?_
  refine tl_c ta_aload ?_
  refine tl_c ta_ci ?_
  refine tl_c ta_cmpeq ?_
  refine tl_c ta_int ?_
  refine tl_c ta_zret ?_
  refine tl_c ta_int ?_
  refine tl_c ta_istore ?_
  refine tl_c ta_iload ?_
  refine tl_c ta_aload ?_
  refine tl_c ta_ci ?_
  refine tl_c ta_cmpge ?_
  refine tl_c ta_aload ?_
  refine tl_c ta_getS ?_
  refine tl_c ta_aload ?_
  refine tl_c ta_getI ?_
  refine tl_c ta_iload ?_
  refine tl_c ta_bin ?_
  refine tl_c ta_ild ?_
  refine tl_c ta_aload ?_
  refine tl_c ta_iload ?_
  refine tl_c ta_ci ?_
  refine tl_c ta_cmpeq ?_
  refine tl_c ta_int ?_
  refine tl_c ta_zret ?_
  refine tl_c ta_iinc ?_
  refine tl_c ta_goto ?_
  refine tl_c ta_int ?_
  refine tl_c ta_zret ?_
  exact trivial
set_option maxRecDepth 20000 in
theorem ok_X9_spells (l : Launch) : ce_OkL l cX9_spells RX9 3 (some .boolean) 5 0 0 pc_X9_spells 0 tb_X9_spells := by
  unfold tb_X9_spells
  refine ok_c (j := 1) rfl (ok_aload_n (j := ⟨0, by decide⟩) (pc := 0) rfl rfl (by decide +kernel)) ?_
  refine ok_c (j := 2) rfl (ok_getI (ci := 9) (C := RX9) (T := TX9) (N := 11) (ix := 22) (pc := 1) rfl rfl (by decide +kernel) rfl (fun _ => rfl) rfl cw_X9 (by decide) rfl wd_100) ?_
  refine ok_c (j := 3) rfl (ok_aload_n (j := ⟨0, by decide⟩) (pc := 4) rfl rfl (by decide +kernel)) ?_
  refine ok_c (j := 4) rfl (ok_getI (ci := 9) (C := RX9) (T := TX9) (N := 11) (ix := 28) (pc := 5) rfl rfl (by decide +kernel) rfl (fun _ => rfl) rfl cw_X9 (by decide) rfl wd_102) ?_
  refine ok_c (j := 5) rfl (ok_isub (pc := 8) rfl rfl (by decide +kernel)) ?_
  refine ok_c (j := 6) rfl (ok_aload_n (j := ⟨1, by decide⟩) (pc := 9) rfl rfl (by decide +kernel)) ?_
  refine ok_c (j := 7) rfl (ok_strV (y := yJ0_length_8abf5) (n := 0) (d' := 2) (ix := 134) is_ci (pc := 10) rfl rfl (by decide +kernel) (by decide) (ce_strC (ct_J0_length_8abf5 l)) rfl ce_str_rec wd_310 wd_236 wd_237 wd_67) ?_
  refine ok_c (j := 8) rfl (ok_cmpeq (off := 5) (tg := 18) (pc := 13) rfl rfl (by decide +kernel) rfl (by decide)) ?_
  refine ok_c (j := 9) rfl (ok_iconst (n := 0) (pc := 16) rfl rfl (by decide +kernel) (by decide)) ?_
  refine ok_c (j := 10) rfl (ok_zret (pc := 17) rfl (by decide +kernel) rfl) ?_
  refine ok_c (j := 11) rfl (ok_iconst (n := 0) (pc := 18) rfl rfl (by decide +kernel) (by decide)) ?_
  refine ok_c (j := 12) rfl (ok_istore_n (j := ⟨2, by decide⟩) (pc := 19) rfl rfl (by decide +kernel) (by decide)) ?_
  refine ok_c (j := 13) rfl (ok_iload_n (j := ⟨2, by decide⟩) (pc := 20) rfl rfl (by decide +kernel)) ?_
  refine ok_c (j := 14) rfl (ok_aload_n (j := ⟨1, by decide⟩) (pc := 21) rfl rfl (by decide +kernel)) ?_
  refine ok_c (j := 15) rfl (ok_strV (y := yJ0_length_8abf5) (n := 0) (d' := 2) (ix := 134) is_ci (pc := 22) rfl rfl (by decide +kernel) (by decide) (ce_strC (ct_J0_length_8abf5 l)) rfl ce_str_rec wd_310 wd_236 wd_237 wd_67) ?_
  refine ok_c (j := 16) rfl (ok_cmpge (off := 30) (tg := 55) (pc := 25) rfl rfl (by decide +kernel) rfl (by decide)) ?_
  refine ok_c (j := 17) rfl (ok_aload_n (j := ⟨0, by decide⟩) (pc := 28) rfl rfl (by decide +kernel)) ?_
  refine ok_c (j := 18) rfl (ok_getS (f := 1) (ci := 9) (C := RX9) (T := TX9) (N := 11) (ix := 15) (pc := 29) rfl rfl (by decide +kernel) rfl (fun _ => rfl) rfl cw_X9 (by decide) rfl wd_98) ?_
  refine ok_c (j := 19) rfl (ok_aload_n (j := ⟨0, by decide⟩) (pc := 32) rfl rfl (by decide +kernel)) ?_
  refine ok_c (j := 20) rfl (ok_getI (ci := 9) (C := RX9) (T := TX9) (N := 11) (ix := 28) (pc := 33) rfl rfl (by decide +kernel) rfl (fun _ => rfl) rfl cw_X9 (by decide) rfl wd_102) ?_
  refine ok_c (j := 21) rfl (ok_iload_n (j := ⟨2, by decide⟩) (pc := 36) rfl rfl (by decide +kernel)) ?_
  refine ok_c (j := 22) rfl (ok_iadd (pc := 37) rfl rfl (by decide +kernel)) ?_
  refine ok_c (j := 23) rfl (ok_ild (pc := 38) rfl rfl (by decide +kernel) rfl) ?_
  refine ok_c (j := 24) rfl (ok_aload_n (j := ⟨1, by decide⟩) (pc := 39) rfl rfl (by decide +kernel)) ?_
  refine ok_c (j := 25) rfl (ok_iload_n (j := ⟨2, by decide⟩) (pc := 40) rfl rfl (by decide +kernel)) ?_
  refine ok_c (j := 26) rfl (ok_strV (y := yJ0_charAt_5068e) (n := 1) (d' := 4) (ix := 139) is_ci (pc := 41) rfl rfl (by decide +kernel) (by decide) (ce_strC (ct_J0_charAt_5068e l)) rfl ce_str_rec wd_311 wd_246 wd_247 wd_67) ?_
  refine ok_c (j := 27) rfl (ok_cmpeq (off := 5) (tg := 49) (pc := 44) rfl rfl (by decide +kernel) rfl (by decide)) ?_
  refine ok_c (j := 28) rfl (ok_iconst (n := 0) (pc := 47) rfl rfl (by decide +kernel) (by decide)) ?_
  refine ok_c (j := 29) rfl (ok_zret (pc := 48) rfl (by decide +kernel) rfl) ?_
  refine ok_c (j := 30) rfl (ok_iinc (n := 1) (pc := 49) rfl rfl (by decide +kernel) (by decide) (by decide)) ?_
  refine ok_c (j := 31) rfl (ok_goto (off := (-32)) (tg := 20) (pc := 52) rfl (by decide +kernel) rfl (by decide)) ?_
  refine ok_c (j := 32) rfl (ok_iconst (n := 1) (pc := 55) rfl rfl (by decide +kernel) (by decide)) ?_
  refine ok_c (j := 33) rfl (ok_zret (pc := 56) rfl (by decide +kernel) rfl) ?_
  exact trivial
noncomputable def F_X9_spells := ce_fI tb_X9_spells 3 (some 7)
theorem ct_X9_spells (l : Launch) : ce_callee l yX9_spells 1 5 0 0 (ce_wI F_X9_spells) := ⟨_, _, _, ce_ctr_of (pcs := pc_X9_spells) (by decide +kernel) rfl (ok_X9_spells l ) ce_fI_run, ce_tw_at wd_309 rfl, by decide, by decide +kernel, by decide +kernel, by decide +kernel⟩
def pc_X9_wordToken : List Nat := [0, 1, 3, 6, 9, 10, 11, 12, 14, 17, 20, 21, 22, 23, 25, 28, 31, 32, 33, 34, 36, 39, 42, 44, 45, 46, 48, 51, 54, 56, 57, 58, 60, 63, 66, 68, 69, 70, 72, 75, 78, 79, 80, 81, 83, 86, 89, 91, 92, 93, 95, 98, 101, 103, 104, 105, 107, 110, 113, 115, 116, 117, 119, 122, 125, 127, 128, 129, 131, 134, 137, 139, 140, 142]
noncomputable def tb_X9_wordToken : List ce_Op := [o_aload 0, o_ldcS 0, o_ci 2 F_X9_spells 0 0 0 0, o_ifeq 6, o_int 2, o_iret, o_aload 0, o_ldcS 1, o_ci 2 F_X9_spells 0 0 0 0, o_ifeq 12, o_int 3, o_iret, o_aload 0, o_ldcS 2, o_ci 2 F_X9_spells 0 0 0 0, o_ifeq 18, o_int 4, o_iret, o_aload 0, o_ldcS 3, o_ci 2 F_X9_spells 0 0 0 0, o_ifeq 24, o_int (-9), o_iret, o_aload 0, o_ldcS 4, o_ci 2 F_X9_spells 0 0 0 0, o_ifeq 30, o_int (-10), o_iret, o_aload 0, o_ldcS 5, o_ci 2 F_X9_spells 0 0 0 0, o_ifeq 36, o_int (-7), o_iret, o_aload 0, o_ldcS 6, o_ci 2 F_X9_spells 0 0 0 0, o_ifeq 42, o_int (-1), o_iret, o_aload 0, o_ldcS 7, o_ci 2 F_X9_spells 0 0 0 0, o_ifeq 48, o_int (-2), o_iret, o_aload 0, o_ldcS 8, o_ci 2 F_X9_spells 0 0 0 0, o_ifeq 54, o_int (-3), o_iret, o_aload 0, o_ldcS 9, o_ci 2 F_X9_spells 0 0 0 0, o_ifeq 60, o_int (-4), o_iret, o_aload 0, o_ldcS 10, o_ci 2 F_X9_spells 0 0 0 0, o_ifeq 66, o_int (-5), o_iret, o_aload 0, o_ldcS 11, o_ci 2 F_X9_spells 0 0 0 0, o_ifeq 72, o_int (-6), o_iret, o_int 8, o_iret]
theorem tl_X9_wordToken : ce_TL tb_X9_wordToken := by
  unfold tb_X9_wordToken
  refine tl_c ta_aload ?_
  refine tl_c ta_ldcS ?_
  refine tl_c ta_ci ?_
  refine tl_c ta_ifeq ?_
  refine tl_c ta_int ?_
  refine tl_c ta_iret ?_
  refine tl_c ta_aload ?_
  refine tl_c ta_ldcS ?_
  refine tl_c ta_ci ?_
  refine tl_c ta_ifeq ?_
  refine tl_c ta_int ?_
  refine tl_c ta_iret ?_
  refine tl_c ta_aload ?_
  refine tl_c ta_ldcS ?_
  refine tl_c ta_ci ?_
  refine tl_c ta_ifeq ?_
  refine tl_c ta_int ?_
  refine tl_c ta_iret ?_
  refine tl_c ta_aload ?_
  refine tl_c ta_ldcS ?_
  refine tl_c ta_ci ?_
  refine tl_c ta_ifeq ?_
  refine tl_c ta_int ?_
  refine tl_c ta_iret ?_
  refine tl_c ta_aload ?_
  refine tl_c ta_ldcS ?_
  refine tl_c ta_ci ?_
  refine tl_c ta_ifeq ?_
  refine tl_c ta_int ?_
  refine tl_c ta_iret ?_
  refine tl_c ta_aload ?_
  refine tl_c ta_ldcS ?_
  refine tl_c ta_ci ?_
  refine tl_c ta_ifeq ?_
  refine tl_c ta_int ?_
  refine tl_c ta_iret ?_
  refine tl_c ta_aload ?_
  refine tl_c ta_ldcS ?_
  refine tl_c ta_ci ?_
  refine tl_c ta_ifeq ?_
  refine tl_c ta_int ?_
  refine tl_c ta_iret ?_
  refine tl_c ta_aload ?_
  refine tl_c ta_ldcS ?_
  refine tl_c ta_ci ?_
  refine tl_c ta_ifeq ?_
  refine tl_c ta_int ?_
  refine tl_c ta_iret ?_
  refine tl_c ta_aload ?_
  refine tl_c ta_ldcS ?_
  refine tl_c ta_ci ?_
  refine tl_c ta_ifeq ?_
  refine tl_c ta_int ?_
  refine tl_c ta_iret ?_
  refine tl_c ta_aload ?_
  refine tl_c ta_ldcS ?_
  refine tl_c ta_ci ?_
  refine tl_c ta_ifeq ?_
  refine tl_c ta_int ?_
  refine tl_c ta_iret ?_
  refine tl_c ta_aload ?_
  refine tl_c ta_ldcS ?_
  refine tl_c ta_ci ?_
  refine tl_c ta_ifeq ?_
  refine tl_c ta_int ?_
  refine tl_c ta_iret ?_
  refine tl_c ta_aload ?_
  refine tl_c ta_ldcS ?_
  refine tl_c ta_ci ?_
  refine tl_c ta_ifeq ?_
  refine tl_c ta_int ?_
  refine tl_c ta_iret ?_
  refine tl_c ta_int ?_
  refine tl_c ta_iret ?_
  exact trivial
set_option maxRecDepth 20000 in
theorem ok_X9_wordToken (l : Launch) : ce_OkL l cX9_wordToken RX9 1 (some .int) 6 0 0 pc_X9_wordToken 0 tb_X9_wordToken := by
  unfold tb_X9_wordToken
  refine ok_c (j := 1) rfl (ok_aload_n (j := ⟨0, by decide⟩) (pc := 0) rfl rfl (by decide +kernel)) ?_
  refine ok_c (j := 2) rfl (ok_ldcS (ix := 106) (pc := 1) rfl rfl (by decide +kernel) rfl) ?_
  refine ok_c (j := 3) rfl (ok_virtual (y := yX9_spells) (n := 1) (d' := 5) (t := 7) (T := TX9) (N := 11) (ix := 108) is_ci (pc := 3) rfl rfl (by decide +kernel) (by decide) (ct_X9_spells l) rfl (fun _ => rfl) ce_fI_rec wd_306 wd_308 wd_2 wd_58) ?_
  refine ok_c (j := 4) rfl (ok_ifeq (off := 5) (tg := 11) (pc := 6) rfl rfl (by decide +kernel) rfl (by decide)) ?_
  refine ok_c (j := 5) rfl (ok_iconst (n := 2) (pc := 9) rfl rfl (by decide +kernel) (by decide)) ?_
  refine ok_c (j := 6) rfl (ok_iret (pc := 10) rfl (by decide +kernel) rfl) ?_
  refine ok_c (j := 7) rfl (ok_aload_n (j := ⟨0, by decide⟩) (pc := 11) rfl rfl (by decide +kernel)) ?_
  refine ok_c (j := 8) rfl (ok_ldcS (ix := 112) (pc := 12) rfl rfl (by decide +kernel) rfl) ?_
  refine ok_c (j := 9) rfl (ok_virtual (y := yX9_spells) (n := 1) (d' := 5) (t := 7) (T := TX9) (N := 11) (ix := 108) is_ci (pc := 14) rfl rfl (by decide +kernel) (by decide) (ct_X9_spells l) rfl (fun _ => rfl) ce_fI_rec wd_306 wd_308 wd_2 wd_58) ?_
  refine ok_c (j := 10) rfl (ok_ifeq (off := 5) (tg := 22) (pc := 17) rfl rfl (by decide +kernel) rfl (by decide)) ?_
  refine ok_c (j := 11) rfl (ok_iconst (n := 3) (pc := 20) rfl rfl (by decide +kernel) (by decide)) ?_
  refine ok_c (j := 12) rfl (ok_iret (pc := 21) rfl (by decide +kernel) rfl) ?_
  refine ok_c (j := 13) rfl (ok_aload_n (j := ⟨0, by decide⟩) (pc := 22) rfl rfl (by decide +kernel)) ?_
  refine ok_c (j := 14) rfl (ok_ldcS (ix := 114) (pc := 23) rfl rfl (by decide +kernel) rfl) ?_
  refine ok_c (j := 15) rfl (ok_virtual (y := yX9_spells) (n := 1) (d' := 5) (t := 7) (T := TX9) (N := 11) (ix := 108) is_ci (pc := 25) rfl rfl (by decide +kernel) (by decide) (ct_X9_spells l) rfl (fun _ => rfl) ce_fI_rec wd_306 wd_308 wd_2 wd_58) ?_
  refine ok_c (j := 16) rfl (ok_ifeq (off := 5) (tg := 33) (pc := 28) rfl rfl (by decide +kernel) rfl (by decide)) ?_
  refine ok_c (j := 17) rfl (ok_iconst (n := 4) (pc := 31) rfl rfl (by decide +kernel) (by decide)) ?_
  refine ok_c (j := 18) rfl (ok_iret (pc := 32) rfl (by decide +kernel) rfl) ?_
  refine ok_c (j := 19) rfl (ok_aload_n (j := ⟨0, by decide⟩) (pc := 33) rfl rfl (by decide +kernel)) ?_
  refine ok_c (j := 20) rfl (ok_ldcS (ix := 116) (pc := 34) rfl rfl (by decide +kernel) rfl) ?_
  refine ok_c (j := 21) rfl (ok_virtual (y := yX9_spells) (n := 1) (d' := 5) (t := 7) (T := TX9) (N := 11) (ix := 108) is_ci (pc := 36) rfl rfl (by decide +kernel) (by decide) (ct_X9_spells l) rfl (fun _ => rfl) ce_fI_rec wd_306 wd_308 wd_2 wd_58) ?_
  refine ok_c (j := 22) rfl (ok_ifeq (off := 6) (tg := 45) (pc := 39) rfl rfl (by decide +kernel) rfl (by decide)) ?_
  refine ok_c (j := 23) rfl (ok_bipush (n := (-9)) (pc := 42) rfl rfl (by decide +kernel) (by decide)) ?_
  refine ok_c (j := 24) rfl (ok_iret (pc := 44) rfl (by decide +kernel) rfl) ?_
  refine ok_c (j := 25) rfl (ok_aload_n (j := ⟨0, by decide⟩) (pc := 45) rfl rfl (by decide +kernel)) ?_
  refine ok_c (j := 26) rfl (ok_ldcS (ix := 118) (pc := 46) rfl rfl (by decide +kernel) rfl) ?_
  refine ok_c (j := 27) rfl (ok_virtual (y := yX9_spells) (n := 1) (d' := 5) (t := 7) (T := TX9) (N := 11) (ix := 108) is_ci (pc := 48) rfl rfl (by decide +kernel) (by decide) (ct_X9_spells l) rfl (fun _ => rfl) ce_fI_rec wd_306 wd_308 wd_2 wd_58) ?_
  refine ok_c (j := 28) rfl (ok_ifeq (off := 6) (tg := 57) (pc := 51) rfl rfl (by decide +kernel) rfl (by decide)) ?_
  refine ok_c (j := 29) rfl (ok_bipush (n := (-10)) (pc := 54) rfl rfl (by decide +kernel) (by decide)) ?_
  refine ok_c (j := 30) rfl (ok_iret (pc := 56) rfl (by decide +kernel) rfl) ?_
  refine ok_c (j := 31) rfl (ok_aload_n (j := ⟨0, by decide⟩) (pc := 57) rfl rfl (by decide +kernel)) ?_
  refine ok_c (j := 32) rfl (ok_ldcS (ix := 120) (pc := 58) rfl rfl (by decide +kernel) rfl) ?_
  refine ok_c (j := 33) rfl (ok_virtual (y := yX9_spells) (n := 1) (d' := 5) (t := 7) (T := TX9) (N := 11) (ix := 108) is_ci (pc := 60) rfl rfl (by decide +kernel) (by decide) (ct_X9_spells l) rfl (fun _ => rfl) ce_fI_rec wd_306 wd_308 wd_2 wd_58) ?_
  refine ok_c (j := 34) rfl (ok_ifeq (off := 6) (tg := 69) (pc := 63) rfl rfl (by decide +kernel) rfl (by decide)) ?_
  refine ok_c (j := 35) rfl (ok_bipush (n := (-7)) (pc := 66) rfl rfl (by decide +kernel) (by decide)) ?_
  refine ok_c (j := 36) rfl (ok_iret (pc := 68) rfl (by decide +kernel) rfl) ?_
  refine ok_c (j := 37) rfl (ok_aload_n (j := ⟨0, by decide⟩) (pc := 69) rfl rfl (by decide +kernel)) ?_
  refine ok_c (j := 38) rfl (ok_ldcS (ix := 122) (pc := 70) rfl rfl (by decide +kernel) rfl) ?_
  refine ok_c (j := 39) rfl (ok_virtual (y := yX9_spells) (n := 1) (d' := 5) (t := 7) (T := TX9) (N := 11) (ix := 108) is_ci (pc := 72) rfl rfl (by decide +kernel) (by decide) (ct_X9_spells l) rfl (fun _ => rfl) ce_fI_rec wd_306 wd_308 wd_2 wd_58) ?_
  refine ok_c (j := 40) rfl (ok_ifeq (off := 5) (tg := 80) (pc := 75) rfl rfl (by decide +kernel) rfl (by decide)) ?_
  refine ok_c (j := 41) rfl (ok_iconst (n := (-1)) (pc := 78) rfl rfl (by decide +kernel) (by decide)) ?_
  refine ok_c (j := 42) rfl (ok_iret (pc := 79) rfl (by decide +kernel) rfl) ?_
  refine ok_c (j := 43) rfl (ok_aload_n (j := ⟨0, by decide⟩) (pc := 80) rfl rfl (by decide +kernel)) ?_
  refine ok_c (j := 44) rfl (ok_ldcS (ix := 124) (pc := 81) rfl rfl (by decide +kernel) rfl) ?_
  refine ok_c (j := 45) rfl (ok_virtual (y := yX9_spells) (n := 1) (d' := 5) (t := 7) (T := TX9) (N := 11) (ix := 108) is_ci (pc := 83) rfl rfl (by decide +kernel) (by decide) (ct_X9_spells l) rfl (fun _ => rfl) ce_fI_rec wd_306 wd_308 wd_2 wd_58) ?_
  refine ok_c (j := 46) rfl (ok_ifeq (off := 6) (tg := 92) (pc := 86) rfl rfl (by decide +kernel) rfl (by decide)) ?_
  refine ok_c (j := 47) rfl (ok_bipush (n := (-2)) (pc := 89) rfl rfl (by decide +kernel) (by decide)) ?_
  refine ok_c (j := 48) rfl (ok_iret (pc := 91) rfl (by decide +kernel) rfl) ?_
  refine ok_c (j := 49) rfl (ok_aload_n (j := ⟨0, by decide⟩) (pc := 92) rfl rfl (by decide +kernel)) ?_
  refine ok_c (j := 50) rfl (ok_ldcS (ix := 126) (pc := 93) rfl rfl (by decide +kernel) rfl) ?_
  refine ok_c (j := 51) rfl (ok_virtual (y := yX9_spells) (n := 1) (d' := 5) (t := 7) (T := TX9) (N := 11) (ix := 108) is_ci (pc := 95) rfl rfl (by decide +kernel) (by decide) (ct_X9_spells l) rfl (fun _ => rfl) ce_fI_rec wd_306 wd_308 wd_2 wd_58) ?_
  refine ok_c (j := 52) rfl (ok_ifeq (off := 6) (tg := 104) (pc := 98) rfl rfl (by decide +kernel) rfl (by decide)) ?_
  refine ok_c (j := 53) rfl (ok_bipush (n := (-3)) (pc := 101) rfl rfl (by decide +kernel) (by decide)) ?_
  refine ok_c (j := 54) rfl (ok_iret (pc := 103) rfl (by decide +kernel) rfl) ?_
  refine ok_c (j := 55) rfl (ok_aload_n (j := ⟨0, by decide⟩) (pc := 104) rfl rfl (by decide +kernel)) ?_
  refine ok_c (j := 56) rfl (ok_ldcS (ix := 128) (pc := 105) rfl rfl (by decide +kernel) rfl) ?_
  refine ok_c (j := 57) rfl (ok_virtual (y := yX9_spells) (n := 1) (d' := 5) (t := 7) (T := TX9) (N := 11) (ix := 108) is_ci (pc := 107) rfl rfl (by decide +kernel) (by decide) (ct_X9_spells l) rfl (fun _ => rfl) ce_fI_rec wd_306 wd_308 wd_2 wd_58) ?_
  refine ok_c (j := 58) rfl (ok_ifeq (off := 6) (tg := 116) (pc := 110) rfl rfl (by decide +kernel) rfl (by decide)) ?_
  refine ok_c (j := 59) rfl (ok_bipush (n := (-4)) (pc := 113) rfl rfl (by decide +kernel) (by decide)) ?_
  refine ok_c (j := 60) rfl (ok_iret (pc := 115) rfl (by decide +kernel) rfl) ?_
  refine ok_c (j := 61) rfl (ok_aload_n (j := ⟨0, by decide⟩) (pc := 116) rfl rfl (by decide +kernel)) ?_
  refine ok_c (j := 62) rfl (ok_ldcS (ix := 130) (pc := 117) rfl rfl (by decide +kernel) rfl) ?_
  refine ok_c (j := 63) rfl (ok_virtual (y := yX9_spells) (n := 1) (d' := 5) (t := 7) (T := TX9) (N := 11) (ix := 108) is_ci (pc := 119) rfl rfl (by decide +kernel) (by decide) (ct_X9_spells l) rfl (fun _ => rfl) ce_fI_rec wd_306 wd_308 wd_2 wd_58) ?_
  refine ok_c (j := 64) rfl (ok_ifeq (off := 6) (tg := 128) (pc := 122) rfl rfl (by decide +kernel) rfl (by decide)) ?_
  refine ok_c (j := 65) rfl (ok_bipush (n := (-5)) (pc := 125) rfl rfl (by decide +kernel) (by decide)) ?_
  refine ok_c (j := 66) rfl (ok_iret (pc := 127) rfl (by decide +kernel) rfl) ?_
  refine ok_c (j := 67) rfl (ok_aload_n (j := ⟨0, by decide⟩) (pc := 128) rfl rfl (by decide +kernel)) ?_
  refine ok_c (j := 68) rfl (ok_ldcS (ix := 132) (pc := 129) rfl rfl (by decide +kernel) rfl) ?_
  refine ok_c (j := 69) rfl (ok_virtual (y := yX9_spells) (n := 1) (d' := 5) (t := 7) (T := TX9) (N := 11) (ix := 108) is_ci (pc := 131) rfl rfl (by decide +kernel) (by decide) (ct_X9_spells l) rfl (fun _ => rfl) ce_fI_rec wd_306 wd_308 wd_2 wd_58) ?_
  refine ok_c (j := 70) rfl (ok_ifeq (off := 6) (tg := 140) (pc := 134) rfl rfl (by decide +kernel) rfl (by decide)) ?_
  refine ok_c (j := 71) rfl (ok_bipush (n := (-6)) (pc := 137) rfl rfl (by decide +kernel) (by decide)) ?_
  refine ok_c (j := 72) rfl (ok_iret (pc := 139) rfl (by decide +kernel) rfl) ?_
  refine ok_c (j := 73) rfl (ok_bipush (n := 8) (pc := 140) rfl rfl (by decide +kernel) (by decide)) ?_
  refine ok_c (j := 74) rfl (ok_iret (pc := 142) rfl (by decide +kernel) rfl) ?_
  exact trivial
noncomputable def F_X9_wordToken := ce_fI tb_X9_wordToken 1 (some 7)
theorem ct_X9_wordToken (l : Launch) : ce_callee l yX9_wordToken 0 6 0 0 (ce_wI F_X9_wordToken) := ⟨_, _, _, ce_ctr_of (pcs := pc_X9_wordToken) (by decide +kernel) rfl (ok_X9_wordToken l ) ce_fI_run, ce_tw_at wd_304 rfl, by decide, by decide +kernel, by decide +kernel, by decide +kernel⟩
def pc_X9_advance : List Nat := [0, 1, 4, 5, 8, 11, 12, 15, 16, 19, 20, 23, 26, 27, 28, 31, 32, 33, 36, 39, 40, 41, 44, 47, 48, 51, 52, 55, 58, 59, 60, 63, 66, 67, 70, 71, 74, 75, 78, 81, 82, 85, 86, 89, 92, 93, 96, 97, 100, 101, 104, 107, 108, 109, 112, 113, 114, 117, 120, 121, 122, 125, 128, 131, 132, 135, 136, 139, 140, 143, 146, 147, 148, 151, 154, 157, 158, 159, 162, 163, 166, 167, 170, 173, 174, 175, 178, 179, 180, 183]
noncomputable def tb_X9_advance : List ce_Op := [o_aload 0, o_getI 7 3, o_aload 0, o_getI 7 0, o_cmpge 19, o_aload 0, o_getS 7 8 (fun _ => 0), o_aload 0, o_getI 7 3, o_ild 8, o_ci 1 F_X9_isBlank 0 0 0 0, o_ifeq 19, o_aload 0, o_dup, o_getI 7 3, o_int 1, o_bin q_add, o_putI 7 3, o_goto 0, o_aload 0, o_aload 0, o_getI 7 3, o_putI 7 5, o_aload 0, o_getI 7 3, o_aload 0, o_getI 7 0, o_cmplt 32, o_aload 0, o_int 0, o_putI 7 4, o_goto 89, o_aload 0, o_getS 7 8 (fun _ => 0), o_aload 0, o_getI 7 3, o_ild 8, o_ci 1 F_X9_isSmallLetter 0 0 0 0, o_ifeq 63, o_aload 0, o_getI 7 3, o_aload 0, o_getI 7 0, o_cmpge 58, o_aload 0, o_getS 7 8 (fun _ => 0), o_aload 0, o_getI 7 3, o_ild 8, o_ci 1 F_X9_isSmallLetter 0 0 0 0, o_ifeq 58, o_aload 0, o_dup, o_getI 7 3, o_int 1, o_bin q_add, o_putI 7 3, o_goto 39, o_aload 0, o_aload 0, o_ci 1 F_X9_wordToken 0 0 0 0, o_putI 7 4, o_goto 89, o_aload 0, o_getS 7 8 (fun _ => 0), o_aload 0, o_getI 7 3, o_ild 8, o_ci 1 F_X9_isDigit 0 0 0 0, o_ifeq 75, o_aload 0, o_aload 0, o_ci 1 F_X9_numberToken 0 0 0 0, o_putI 7 4, o_goto 89, o_aload 0, o_aload 0, o_getS 7 8 (fun _ => 0), o_aload 0, o_getI 7 3, o_ild 8, o_ci 1 F_X9_signToken 0 0 0 0, o_putI 7 4, o_aload 0, o_dup, o_getI 7 3, o_int 1, o_bin q_add, o_putI 7 3, o_vret]
theorem tl_X9_advance : ce_TL tb_X9_advance := by
  unfold tb_X9_advance
  refine tl_c ta_aload ?_
  refine tl_c ta_getI ?_
  refine tl_c ta_aload ?_
  refine tl_c ta_getI ?_
  refine tl_c ta_cmpge ?_
  refine tl_c ta_aload ?_
  refine tl_c ta_getS ?_
  refine tl_c ta_aload ?_
  refine tl_c ta_getI ?_
  refine tl_c ta_ild ?_
  refine tl_c ta_ci ?_
  refine tl_c ta_ifeq ?_
  refine tl_c ta_aload ?_
  refine tl_c ta_dup ?_
  refine tl_c ta_getI ?_
  refine tl_c ta_int ?_
  refine tl_c ta_bin ?_
  refine tl_c ta_putI ?_
  refine tl_c ta_goto ?_
  refine tl_c ta_aload ?_
  refine tl_c ta_aload ?_
  refine tl_c ta_getI ?_
  refine tl_c ta_putI ?_
  refine tl_c ta_aload ?_
  refine tl_c ta_getI ?_
  refine tl_c ta_aload ?_
  refine tl_c ta_getI ?_
  refine tl_c ta_cmplt ?_
  refine tl_c ta_aload ?_
  refine tl_c ta_int ?_
  refine tl_c ta_putI ?_
  refine tl_c ta_goto ?_
  refine tl_c ta_aload ?_
  refine tl_c ta_getS ?_
  refine tl_c ta_aload ?_
  refine tl_c ta_getI ?_
  refine tl_c ta_ild ?_
  refine tl_c ta_ci ?_
  refine tl_c ta_ifeq ?_
  refine tl_c ta_aload ?_
  refine tl_c ta_getI ?_
  refine tl_c ta_aload ?_
  refine tl_c ta_getI ?_
  refine tl_c ta_cmpge ?_
  refine tl_c ta_aload ?_
  refine tl_c ta_getS ?_
  refine tl_c ta_aload ?_
  refine tl_c ta_getI ?_
  refine tl_c ta_ild ?_
  refine tl_c ta_ci ?_
  refine tl_c ta_ifeq ?_
  refine tl_c ta_aload ?_
  refine tl_c ta_dup ?_
  refine tl_c ta_getI ?_
  refine tl_c ta_int ?_
  refine tl_c ta_bin ?_
  refine tl_c ta_putI ?_
  refine tl_c ta_goto ?_
  refine tl_c ta_aload ?_
  refine tl_c ta_aload ?_
  refine tl_c ta_ci ?_
  refine tl_c ta_putI ?_
  refine tl_c ta_goto ?_
  refine tl_c ta_aload ?_
  refine tl_c ta_getS ?_
  refine tl_c ta_aload ?_
  refine tl_c ta_getI ?_
  refine tl_c ta_ild ?_
  refine tl_c ta_ci ?_
  refine tl_c ta_ifeq ?_
  refine tl_c ta_aload ?_
  refine tl_c ta_aload ?_
  refine tl_c ta_ci ?_
  refine tl_c ta_putI ?_
  refine tl_c ta_goto ?_
  refine tl_c ta_aload ?_
  refine tl_c ta_aload ?_
  refine tl_c ta_getS ?_
  refine tl_c ta_aload ?_
  refine tl_c ta_getI ?_
  refine tl_c ta_ild ?_
  refine tl_c ta_ci ?_
  refine tl_c ta_putI ?_
  refine tl_c ta_aload ?_
  refine tl_c ta_dup ?_
  refine tl_c ta_getI ?_
  refine tl_c ta_int ?_
  refine tl_c ta_bin ?_
  refine tl_c ta_putI ?_
  refine tl_c ta_vret ?_
  exact trivial
set_option maxRecDepth 20000 in
theorem ok_X9_advance (l : Launch) : ce_OkL l cX9_advance RX9 1 none 7 0 0 pc_X9_advance 0 tb_X9_advance := by
  unfold tb_X9_advance
  refine ok_c (j := 1) rfl (ok_aload_n (j := ⟨0, by decide⟩) (pc := 0) rfl rfl (by decide +kernel)) ?_
  refine ok_c (j := 2) rfl (ok_getI (ci := 9) (C := RX9) (T := TX9) (N := 11) (ix := 22) (pc := 1) rfl rfl (by decide +kernel) rfl (fun _ => rfl) rfl cw_X9 (by decide) rfl wd_100) ?_
  refine ok_c (j := 3) rfl (ok_aload_n (j := ⟨0, by decide⟩) (pc := 4) rfl rfl (by decide +kernel)) ?_
  refine ok_c (j := 4) rfl (ok_getI (ci := 9) (C := RX9) (T := TX9) (N := 11) (ix := 9) (pc := 5) rfl rfl (by decide +kernel) rfl (fun _ => rfl) rfl cw_X9 (by decide) rfl wd_96) ?_
  refine ok_c (j := 5) rfl (ok_cmpge (off := 31) (tg := 39) (pc := 8) rfl rfl (by decide +kernel) rfl (by decide)) ?_
  refine ok_c (j := 6) rfl (ok_aload_n (j := ⟨0, by decide⟩) (pc := 11) rfl rfl (by decide +kernel)) ?_
  refine ok_c (j := 7) rfl (ok_getS (f := 1) (ci := 9) (C := RX9) (T := TX9) (N := 11) (ix := 15) (pc := 12) rfl rfl (by decide +kernel) rfl (fun _ => rfl) rfl cw_X9 (by decide) rfl wd_98) ?_
  refine ok_c (j := 8) rfl (ok_aload_n (j := ⟨0, by decide⟩) (pc := 15) rfl rfl (by decide +kernel)) ?_
  refine ok_c (j := 9) rfl (ok_getI (ci := 9) (C := RX9) (T := TX9) (N := 11) (ix := 22) (pc := 16) rfl rfl (by decide +kernel) rfl (fun _ => rfl) rfl cw_X9 (by decide) rfl wd_100) ?_
  refine ok_c (j := 10) rfl (ok_ild (pc := 19) rfl rfl (by decide +kernel) rfl) ?_
  refine ok_c (j := 11) rfl (ok_static (y := yX9_isBlank) (n := 1) (d' := 1) (ix := 85) is_ci (pc := 20) rfl rfl (by decide +kernel) (by decide) rfl (ct_X9_isBlank l) wd_295 wd_296 wd_58) ?_
  refine ok_c (j := 12) rfl (ok_ifeq (off := 16) (tg := 39) (pc := 23) rfl rfl (by decide +kernel) rfl (by decide)) ?_
  refine ok_c (j := 13) rfl (ok_aload_n (j := ⟨0, by decide⟩) (pc := 26) rfl rfl (by decide +kernel)) ?_
  refine ok_c (j := 14) rfl (ok_dup (pc := 27) rfl rfl (by decide +kernel)) ?_
  refine ok_c (j := 15) rfl (ok_getI (ci := 9) (C := RX9) (T := TX9) (N := 11) (ix := 22) (pc := 28) rfl rfl (by decide +kernel) rfl (fun _ => rfl) rfl cw_X9 (by decide) rfl wd_100) ?_
  refine ok_c (j := 16) rfl (ok_iconst (n := 1) (pc := 31) rfl rfl (by decide +kernel) (by decide)) ?_
  refine ok_c (j := 17) rfl (ok_iadd (pc := 32) rfl rfl (by decide +kernel)) ?_
  refine ok_c (j := 18) rfl (ok_putI (ci := 9) (C := RX9) (T := TX9) (N := 11) (ty := tyX9) (ix := 22) (pc := 33) rfl rfl (by decide +kernel) rfl (fun _ => rfl) rfl cw_X9 tyX9_ok nmX9 (by decide) rfl rfl rfl wd_100) ?_
  refine ok_c (j := 19) rfl (ok_goto (off := (-36)) (tg := 0) (pc := 36) rfl (by decide +kernel) rfl (by decide)) ?_
  refine ok_c (j := 20) rfl (ok_aload_n (j := ⟨0, by decide⟩) (pc := 39) rfl rfl (by decide +kernel)) ?_
  refine ok_c (j := 21) rfl (ok_aload_n (j := ⟨0, by decide⟩) (pc := 40) rfl rfl (by decide +kernel)) ?_
  refine ok_c (j := 22) rfl (ok_getI (ci := 9) (C := RX9) (T := TX9) (N := 11) (ix := 22) (pc := 41) rfl rfl (by decide +kernel) rfl (fun _ => rfl) rfl cw_X9 (by decide) rfl wd_100) ?_
  refine ok_c (j := 23) rfl (ok_putI (ci := 9) (C := RX9) (T := TX9) (N := 11) (ty := tyX9) (ix := 28) (pc := 44) rfl rfl (by decide +kernel) rfl (fun _ => rfl) rfl cw_X9 tyX9_ok nmX9 (by decide) rfl rfl rfl wd_102) ?_
  refine ok_c (j := 24) rfl (ok_aload_n (j := ⟨0, by decide⟩) (pc := 47) rfl rfl (by decide +kernel)) ?_
  refine ok_c (j := 25) rfl (ok_getI (ci := 9) (C := RX9) (T := TX9) (N := 11) (ix := 22) (pc := 48) rfl rfl (by decide +kernel) rfl (fun _ => rfl) rfl cw_X9 (by decide) rfl wd_100) ?_
  refine ok_c (j := 26) rfl (ok_aload_n (j := ⟨0, by decide⟩) (pc := 51) rfl rfl (by decide +kernel)) ?_
  refine ok_c (j := 27) rfl (ok_getI (ci := 9) (C := RX9) (T := TX9) (N := 11) (ix := 9) (pc := 52) rfl rfl (by decide +kernel) rfl (fun _ => rfl) rfl cw_X9 (by decide) rfl wd_96) ?_
  refine ok_c (j := 28) rfl (ok_cmplt (off := 11) (tg := 66) (pc := 55) rfl rfl (by decide +kernel) rfl (by decide)) ?_
  refine ok_c (j := 29) rfl (ok_aload_n (j := ⟨0, by decide⟩) (pc := 58) rfl rfl (by decide +kernel)) ?_
  refine ok_c (j := 30) rfl (ok_iconst (n := 0) (pc := 59) rfl rfl (by decide +kernel) (by decide)) ?_
  refine ok_c (j := 31) rfl (ok_putI (ci := 9) (C := RX9) (T := TX9) (N := 11) (ty := tyX9) (ix := 25) (pc := 60) rfl rfl (by decide +kernel) rfl (fun _ => rfl) rfl cw_X9 tyX9_ok nmX9 (by decide) rfl rfl rfl wd_101) ?_
  refine ok_c (j := 32) rfl (ok_goto (off := 120) (tg := 183) (pc := 63) rfl (by decide +kernel) rfl (by decide)) ?_
  refine ok_c (j := 33) rfl (ok_aload_n (j := ⟨0, by decide⟩) (pc := 66) rfl rfl (by decide +kernel)) ?_
  refine ok_c (j := 34) rfl (ok_getS (f := 1) (ci := 9) (C := RX9) (T := TX9) (N := 11) (ix := 15) (pc := 67) rfl rfl (by decide +kernel) rfl (fun _ => rfl) rfl cw_X9 (by decide) rfl wd_98) ?_
  refine ok_c (j := 35) rfl (ok_aload_n (j := ⟨0, by decide⟩) (pc := 70) rfl rfl (by decide +kernel)) ?_
  refine ok_c (j := 36) rfl (ok_getI (ci := 9) (C := RX9) (T := TX9) (N := 11) (ix := 22) (pc := 71) rfl rfl (by decide +kernel) rfl (fun _ => rfl) rfl cw_X9 (by decide) rfl wd_100) ?_
  refine ok_c (j := 37) rfl (ok_ild (pc := 74) rfl rfl (by decide +kernel) rfl) ?_
  refine ok_c (j := 38) rfl (ok_static (y := yX9_isSmallLetter) (n := 1) (d' := 1) (ix := 89) is_ci (pc := 75) rfl rfl (by decide +kernel) (by decide) rfl (ct_X9_isSmallLetter l) wd_298 wd_299 wd_58) ?_
  refine ok_c (j := 39) rfl (ok_ifeq (off := 53) (tg := 131) (pc := 78) rfl rfl (by decide +kernel) rfl (by decide)) ?_
  refine ok_c (j := 40) rfl (ok_aload_n (j := ⟨0, by decide⟩) (pc := 81) rfl rfl (by decide +kernel)) ?_
  refine ok_c (j := 41) rfl (ok_getI (ci := 9) (C := RX9) (T := TX9) (N := 11) (ix := 22) (pc := 82) rfl rfl (by decide +kernel) rfl (fun _ => rfl) rfl cw_X9 (by decide) rfl wd_100) ?_
  refine ok_c (j := 42) rfl (ok_aload_n (j := ⟨0, by decide⟩) (pc := 85) rfl rfl (by decide +kernel)) ?_
  refine ok_c (j := 43) rfl (ok_getI (ci := 9) (C := RX9) (T := TX9) (N := 11) (ix := 9) (pc := 86) rfl rfl (by decide +kernel) rfl (fun _ => rfl) rfl cw_X9 (by decide) rfl wd_96) ?_
  refine ok_c (j := 44) rfl (ok_cmpge (off := 31) (tg := 120) (pc := 89) rfl rfl (by decide +kernel) rfl (by decide)) ?_
  refine ok_c (j := 45) rfl (ok_aload_n (j := ⟨0, by decide⟩) (pc := 92) rfl rfl (by decide +kernel)) ?_
  refine ok_c (j := 46) rfl (ok_getS (f := 1) (ci := 9) (C := RX9) (T := TX9) (N := 11) (ix := 15) (pc := 93) rfl rfl (by decide +kernel) rfl (fun _ => rfl) rfl cw_X9 (by decide) rfl wd_98) ?_
  refine ok_c (j := 47) rfl (ok_aload_n (j := ⟨0, by decide⟩) (pc := 96) rfl rfl (by decide +kernel)) ?_
  refine ok_c (j := 48) rfl (ok_getI (ci := 9) (C := RX9) (T := TX9) (N := 11) (ix := 22) (pc := 97) rfl rfl (by decide +kernel) rfl (fun _ => rfl) rfl cw_X9 (by decide) rfl wd_100) ?_
  refine ok_c (j := 49) rfl (ok_ild (pc := 100) rfl rfl (by decide +kernel) rfl) ?_
  refine ok_c (j := 50) rfl (ok_static (y := yX9_isSmallLetter) (n := 1) (d' := 1) (ix := 89) is_ci (pc := 101) rfl rfl (by decide +kernel) (by decide) rfl (ct_X9_isSmallLetter l) wd_298 wd_299 wd_58) ?_
  refine ok_c (j := 51) rfl (ok_ifeq (off := 16) (tg := 120) (pc := 104) rfl rfl (by decide +kernel) rfl (by decide)) ?_
  refine ok_c (j := 52) rfl (ok_aload_n (j := ⟨0, by decide⟩) (pc := 107) rfl rfl (by decide +kernel)) ?_
  refine ok_c (j := 53) rfl (ok_dup (pc := 108) rfl rfl (by decide +kernel)) ?_
  refine ok_c (j := 54) rfl (ok_getI (ci := 9) (C := RX9) (T := TX9) (N := 11) (ix := 22) (pc := 109) rfl rfl (by decide +kernel) rfl (fun _ => rfl) rfl cw_X9 (by decide) rfl wd_100) ?_
  refine ok_c (j := 55) rfl (ok_iconst (n := 1) (pc := 112) rfl rfl (by decide +kernel) (by decide)) ?_
  refine ok_c (j := 56) rfl (ok_iadd (pc := 113) rfl rfl (by decide +kernel)) ?_
  refine ok_c (j := 57) rfl (ok_putI (ci := 9) (C := RX9) (T := TX9) (N := 11) (ty := tyX9) (ix := 22) (pc := 114) rfl rfl (by decide +kernel) rfl (fun _ => rfl) rfl cw_X9 tyX9_ok nmX9 (by decide) rfl rfl rfl wd_100) ?_
  refine ok_c (j := 58) rfl (ok_goto (off := (-36)) (tg := 81) (pc := 117) rfl (by decide +kernel) rfl (by decide)) ?_
  refine ok_c (j := 59) rfl (ok_aload_n (j := ⟨0, by decide⟩) (pc := 120) rfl rfl (by decide +kernel)) ?_
  refine ok_c (j := 60) rfl (ok_aload_n (j := ⟨0, by decide⟩) (pc := 121) rfl rfl (by decide +kernel)) ?_
  refine ok_c (j := 61) rfl (ok_virtual (y := yX9_wordToken) (n := 0) (d' := 6) (t := 7) (T := TX9) (N := 11) (ix := 92) is_ci (pc := 122) rfl rfl (by decide +kernel) (by decide) (ct_X9_wordToken l) rfl (fun _ => rfl) ce_fI_rec wd_301 wd_303 wd_1 wd_58) ?_
  refine ok_c (j := 62) rfl (ok_putI (ci := 9) (C := RX9) (T := TX9) (N := 11) (ty := tyX9) (ix := 25) (pc := 125) rfl rfl (by decide +kernel) rfl (fun _ => rfl) rfl cw_X9 tyX9_ok nmX9 (by decide) rfl rfl rfl wd_101) ?_
  refine ok_c (j := 63) rfl (ok_goto (off := 55) (tg := 183) (pc := 128) rfl (by decide +kernel) rfl (by decide)) ?_
  refine ok_c (j := 64) rfl (ok_aload_n (j := ⟨0, by decide⟩) (pc := 131) rfl rfl (by decide +kernel)) ?_
  refine ok_c (j := 65) rfl (ok_getS (f := 1) (ci := 9) (C := RX9) (T := TX9) (N := 11) (ix := 15) (pc := 132) rfl rfl (by decide +kernel) rfl (fun _ => rfl) rfl cw_X9 (by decide) rfl wd_98) ?_
  refine ok_c (j := 66) rfl (ok_aload_n (j := ⟨0, by decide⟩) (pc := 135) rfl rfl (by decide +kernel)) ?_
  refine ok_c (j := 67) rfl (ok_getI (ci := 9) (C := RX9) (T := TX9) (N := 11) (ix := 22) (pc := 136) rfl rfl (by decide +kernel) rfl (fun _ => rfl) rfl cw_X9 (by decide) rfl wd_100) ?_
  refine ok_c (j := 68) rfl (ok_ild (pc := 139) rfl rfl (by decide +kernel) rfl) ?_
  refine ok_c (j := 69) rfl (ok_static (y := yX9_isDigit) (n := 1) (d' := 1) (ix := 96) is_ci (pc := 140) rfl rfl (by decide +kernel) (by decide) rfl (ct_X9_isDigit l) wd_323 wd_324 wd_58) ?_
  refine ok_c (j := 70) rfl (ok_ifeq (off := 14) (tg := 157) (pc := 143) rfl rfl (by decide +kernel) rfl (by decide)) ?_
  refine ok_c (j := 71) rfl (ok_aload_n (j := ⟨0, by decide⟩) (pc := 146) rfl rfl (by decide +kernel)) ?_
  refine ok_c (j := 72) rfl (ok_aload_n (j := ⟨0, by decide⟩) (pc := 147) rfl rfl (by decide +kernel)) ?_
  refine ok_c (j := 73) rfl (ok_virtual (y := yX9_numberToken) (n := 0) (d' := 2) (t := 7) (T := TX9) (N := 11) (ix := 99) is_ci (pc := 148) rfl rfl (by decide +kernel) (by decide) (ct_X9_numberToken l) rfl (fun _ => rfl) ce_fI_rec wd_326 wd_328 wd_3 wd_58) ?_
  refine ok_c (j := 74) rfl (ok_putI (ci := 9) (C := RX9) (T := TX9) (N := 11) (ty := tyX9) (ix := 25) (pc := 151) rfl rfl (by decide +kernel) rfl (fun _ => rfl) rfl cw_X9 tyX9_ok nmX9 (by decide) rfl rfl rfl wd_101) ?_
  refine ok_c (j := 75) rfl (ok_goto (off := 29) (tg := 183) (pc := 154) rfl (by decide +kernel) rfl (by decide)) ?_
  refine ok_c (j := 76) rfl (ok_aload_n (j := ⟨0, by decide⟩) (pc := 157) rfl rfl (by decide +kernel)) ?_
  refine ok_c (j := 77) rfl (ok_aload_n (j := ⟨0, by decide⟩) (pc := 158) rfl rfl (by decide +kernel)) ?_
  refine ok_c (j := 78) rfl (ok_getS (f := 1) (ci := 9) (C := RX9) (T := TX9) (N := 11) (ix := 15) (pc := 159) rfl rfl (by decide +kernel) rfl (fun _ => rfl) rfl cw_X9 (by decide) rfl wd_98) ?_
  refine ok_c (j := 79) rfl (ok_aload_n (j := ⟨0, by decide⟩) (pc := 162) rfl rfl (by decide +kernel)) ?_
  refine ok_c (j := 80) rfl (ok_getI (ci := 9) (C := RX9) (T := TX9) (N := 11) (ix := 22) (pc := 163) rfl rfl (by decide +kernel) rfl (fun _ => rfl) rfl cw_X9 (by decide) rfl wd_100) ?_
  refine ok_c (j := 81) rfl (ok_ild (pc := 166) rfl rfl (by decide +kernel) rfl) ?_
  refine ok_c (j := 82) rfl (ok_static (y := yX9_signToken) (n := 1) (d' := 1) (ix := 102) is_ci (pc := 167) rfl rfl (by decide +kernel) (by decide) rfl (ct_X9_signToken l) wd_330 wd_331 wd_58) ?_
  refine ok_c (j := 83) rfl (ok_putI (ci := 9) (C := RX9) (T := TX9) (N := 11) (ty := tyX9) (ix := 25) (pc := 170) rfl rfl (by decide +kernel) rfl (fun _ => rfl) rfl cw_X9 tyX9_ok nmX9 (by decide) rfl rfl rfl wd_101) ?_
  refine ok_c (j := 84) rfl (ok_aload_n (j := ⟨0, by decide⟩) (pc := 173) rfl rfl (by decide +kernel)) ?_
  refine ok_c (j := 85) rfl (ok_dup (pc := 174) rfl rfl (by decide +kernel)) ?_
  refine ok_c (j := 86) rfl (ok_getI (ci := 9) (C := RX9) (T := TX9) (N := 11) (ix := 22) (pc := 175) rfl rfl (by decide +kernel) rfl (fun _ => rfl) rfl cw_X9 (by decide) rfl wd_100) ?_
  refine ok_c (j := 87) rfl (ok_iconst (n := 1) (pc := 178) rfl rfl (by decide +kernel) (by decide)) ?_
  refine ok_c (j := 88) rfl (ok_iadd (pc := 179) rfl rfl (by decide +kernel)) ?_
  refine ok_c (j := 89) rfl (ok_putI (ci := 9) (C := RX9) (T := TX9) (N := 11) (ty := tyX9) (ix := 22) (pc := 180) rfl rfl (by decide +kernel) rfl (fun _ => rfl) rfl cw_X9 tyX9_ok nmX9 (by decide) rfl rfl rfl wd_100) ?_
  refine ok_c (j := 90) rfl (ok_vret (pc := 183) rfl (by decide +kernel) rfl) ?_
  exact trivial
noncomputable def F_X9_advance := ce_fV tb_X9_advance 1 (some 7)
theorem ct_X9_advance (l : Launch) : ce_callee l yX9_advance 0 7 0 0 (ce_wV F_X9_advance) := ⟨_, _, _, ce_ctr_of (pcs := pc_X9_advance) (by decide +kernel) rfl (ok_X9_advance l ) ce_fV_run, ce_tw_at wd_294 rfl, by decide, by decide +kernel, by decide +kernel, by decide +kernel⟩
def pc_X9_expect : List Nat := [0, 1, 4, 5, 8, 9, 12, 15, 16, 19]
noncomputable def tb_X9_expect : List ce_Op := [o_aload 0, o_getI 7 4, o_iload 1, o_cmpne 7, o_aload 0, o_cv 1 F_X9_advance 0 0 0 0, o_goto 9, o_aload 0, o_cv 1 F_X9_fail 0 0 0 0, o_vret]
theorem tl_X9_expect : ce_TL tb_X9_expect := by
  unfold tb_X9_expect
  refine tl_c ta_aload ?_
  refine tl_c ta_getI ?_
  refine tl_c ta_iload ?_
  refine tl_c ta_cmpne ?_
  refine tl_c ta_aload ?_
  refine tl_c ta_cv ?_
  refine tl_c ta_goto ?_
  refine tl_c ta_aload ?_
  refine tl_c ta_cv ?_
  refine tl_c ta_vret ?_
  exact trivial
set_option maxRecDepth 20000 in
theorem ok_X9_expect (l : Launch) : ce_OkL l cX9_expect RX9 2 none 8 0 0 pc_X9_expect 0 tb_X9_expect := by
  unfold tb_X9_expect
  refine ok_c (j := 1) rfl (ok_aload_n (j := ⟨0, by decide⟩) (pc := 0) rfl rfl (by decide +kernel)) ?_
  refine ok_c (j := 2) rfl (ok_getI (ci := 9) (C := RX9) (T := TX9) (N := 11) (ix := 25) (pc := 1) rfl rfl (by decide +kernel) rfl (fun _ => rfl) rfl cw_X9 (by decide) rfl wd_101) ?_
  refine ok_c (j := 3) rfl (ok_iload_n (j := ⟨1, by decide⟩) (pc := 4) rfl rfl (by decide +kernel)) ?_
  refine ok_c (j := 4) rfl (ok_cmpne (off := 10) (tg := 15) (pc := 5) rfl rfl (by decide +kernel) rfl (by decide)) ?_
  refine ok_c (j := 5) rfl (ok_aload_n (j := ⟨0, by decide⟩) (pc := 8) rfl rfl (by decide +kernel)) ?_
  refine ok_c (j := 6) rfl (ok_virtual (y := yX9_advance) (n := 0) (d' := 7) (t := 7) (T := TX9) (N := 11) (ix := 46) is_cv (pc := 9) rfl rfl (by decide +kernel) (by decide) (ct_X9_advance l) rfl (fun _ => rfl) ce_fV_rec wd_291 wd_293 wd_0 wd_58) ?_
  refine ok_c (j := 7) rfl (ok_goto (off := 7) (tg := 19) (pc := 12) rfl (by decide +kernel) rfl (by decide)) ?_
  refine ok_c (j := 8) rfl (ok_aload_n (j := ⟨0, by decide⟩) (pc := 15) rfl rfl (by decide +kernel)) ?_
  refine ok_c (j := 9) rfl (ok_virtual (y := yX9_fail) (n := 0) (d' := 1) (t := 7) (T := TX9) (N := 11) (ix := 53) is_cv (pc := 16) rfl rfl (by decide +kernel) (by decide) (ct_X9_fail l) rfl (fun _ => rfl) ce_fV_rec wd_341 wd_343 wd_6 wd_58) ?_
  refine ok_c (j := 10) rfl (ok_vret (pc := 19) rfl (by decide +kernel) rfl) ?_
  exact trivial
noncomputable def F_X9_expect := ce_fV tb_X9_expect 2 (some 7)
theorem ct_X9_expect (l : Launch) : ce_callee l yX9_expect 1 8 0 0 (ce_wV F_X9_expect) := ⟨_, _, _, ce_ctr_of (pcs := pc_X9_expect) (by decide +kernel) rfl (ok_X9_expect l ) ce_fV_run, ce_tw_at wd_340 rfl, by decide, by decide +kernel, by decide +kernel, by decide +kernel⟩
