def pc_X9_add : List Nat := [0, 1, 4, 7, 10, 11, 14, 15, 18, 19, 20, 21, 22, 25, 26, 27, 30]
noncomputable def tb_X9_add : List ce_Op := [o_aload 0, o_getI 7 0, o_int 160, o_cmpge 16, o_aload 0, o_getS 7 8 (fun _ => 0), o_aload 0, o_getI 7 0, o_iload 1, o_ist 8, o_aload 0, o_dup, o_getI 7 0, o_int 1, o_bin (fun x y => x + y), o_putI 7 0, o_vret]
theorem tl_X9_add : ce_TL tb_X9_add := by
  unfold tb_X9_add
  refine tl_c ta_aload ?_
  refine tl_c ta_getI ?_
  refine tl_c ta_int ?_
  refine tl_c ta_cmpge ?_
  refine tl_c ta_aload ?_
  refine tl_c ta_getS ?_
  refine tl_c ta_aload ?_
  refine tl_c ta_getI ?_
  refine tl_c ta_iload ?_
  refine tl_c ta_ist ?_
  refine tl_c ta_aload ?_
  refine tl_c ta_dup ?_
  refine tl_c ta_getI ?_
  refine tl_c ta_int ?_
  refine tl_c ta_bin ?_
  refine tl_c ta_putI ?_
  refine tl_c ta_vret ?_
  exact trivial
set_option maxRecDepth 20000 in
theorem ok_X9_add (l : Launch) : ce_OkL l cX9_add RX9 2 none 1 0 0 pc_X9_add 0 tb_X9_add := by
  unfold tb_X9_add
  refine ok_c (j := 1) rfl (ok_aload_n (j := ⟨0, by decide⟩) (pc := 0) rfl rfl (by decide +kernel)) ?_
  refine ok_c (j := 2) rfl (ok_getI (ci := 9) (C := RX9) (T := TX9) (N := 11) (ix := 9) (pc := 1) rfl rfl (by decide +kernel) rfl (fun _ => rfl) rfl cw_X9 (by decide) rfl wd_96) ?_
  refine ok_c (j := 3) rfl (ok_sipush (n := 160) (pc := 4) rfl rfl (by decide +kernel) (by decide)) ?_
  refine ok_c (j := 4) rfl (ok_cmpge (off := 23) (tg := 30) (pc := 7) rfl rfl (by decide +kernel) rfl (by decide)) ?_
  refine ok_c (j := 5) rfl (ok_aload_n (j := ⟨0, by decide⟩) (pc := 10) rfl rfl (by decide +kernel)) ?_
  refine ok_c (j := 6) rfl (ok_getS (f := 1) (ci := 9) (C := RX9) (T := TX9) (N := 11) (ix := 15) (pc := 11) rfl rfl (by decide +kernel) rfl (fun _ => rfl) rfl cw_X9 (by decide) rfl wd_98) ?_
  refine ok_c (j := 7) rfl (ok_aload_n (j := ⟨0, by decide⟩) (pc := 14) rfl rfl (by decide +kernel)) ?_
  refine ok_c (j := 8) rfl (ok_getI (ci := 9) (C := RX9) (T := TX9) (N := 11) (ix := 9) (pc := 15) rfl rfl (by decide +kernel) rfl (fun _ => rfl) rfl cw_X9 (by decide) rfl wd_96) ?_
  refine ok_c (j := 9) rfl (ok_iload_n (j := ⟨1, by decide⟩) (pc := 18) rfl rfl (by decide +kernel)) ?_
  refine ok_c (j := 10) rfl (ok_ist (pc := 19) rfl rfl (by decide +kernel) rfl) ?_
  refine ok_c (j := 11) rfl (ok_aload_n (j := ⟨0, by decide⟩) (pc := 20) rfl rfl (by decide +kernel)) ?_
  refine ok_c (j := 12) rfl (ok_dup (pc := 21) rfl rfl (by decide +kernel)) ?_
  refine ok_c (j := 13) rfl (ok_getI (ci := 9) (C := RX9) (T := TX9) (N := 11) (ix := 9) (pc := 22) rfl rfl (by decide +kernel) rfl (fun _ => rfl) rfl cw_X9 (by decide) rfl wd_96) ?_
  refine ok_c (j := 14) rfl (ok_iconst (n := 1) (pc := 25) rfl rfl (by decide +kernel) (by decide)) ?_
  refine ok_c (j := 15) rfl (ok_iadd (pc := 26) rfl rfl (by decide +kernel)) ?_
  refine ok_c (j := 16) rfl (ok_putI (ci := 9) (C := RX9) (T := TX9) (N := 11) (ty := tyX9) (ix := 9) (pc := 27) rfl rfl (by decide +kernel) rfl (fun _ => rfl) rfl cw_X9 tyX9_ok nmX9 (by decide) rfl rfl rfl wd_96) ?_
  refine ok_c (j := 17) rfl (ok_vret (pc := 30) rfl (by decide +kernel) rfl) ?_
  exact trivial
noncomputable def F_X9_add := ce_fV tb_X9_add 2 (some 7)
theorem ct_X9_add (l : Launch) : ce_callee l yX9_add 1 1 0 0 (ce_wV F_X9_add) := ⟨_, _, _, ce_ctr_of (pcs := pc_X9_add) (by decide +kernel) rfl (ok_X9_add l ) ce_fV_run, ce_tw_at wd_286 rfl, by decide, by decide +kernel, by decide +kernel, by decide +kernel⟩
def pc_X9_isBlank : List Nat := [0, 1, 3, 6, 7, 9, 12, 13, 16, 17]
noncomputable def tb_X9_isBlank : List ce_Op := [o_iload 0, o_int 32, o_cmpeq 6, o_iload 0, o_int 10, o_cmpne 8, o_int 1, o_goto 9, o_int 0, o_zret]
theorem tl_X9_isBlank : ce_TL tb_X9_isBlank := by
  unfold tb_X9_isBlank
  refine tl_c ta_iload ?_
  refine tl_c ta_int ?_
  refine tl_c ta_cmpeq ?_
  refine tl_c ta_iload ?_
  refine tl_c ta_int ?_
  refine tl_c ta_cmpne ?_
  refine tl_c ta_int ?_
  refine tl_c ta_goto ?_
  refine tl_c ta_int ?_
  refine tl_c ta_zret ?_
  exact trivial
set_option maxRecDepth 20000 in
theorem ok_X9_isBlank (l : Launch) : ce_OkL l cX9_isBlank RX9 1 (some .boolean) 1 0 0 pc_X9_isBlank 0 tb_X9_isBlank := by
  unfold tb_X9_isBlank
  refine ok_c (j := 1) rfl (ok_iload_n (j := ⟨0, by decide⟩) (pc := 0) rfl rfl (by decide +kernel)) ?_
  refine ok_c (j := 2) rfl (ok_bipush (n := 32) (pc := 1) rfl rfl (by decide +kernel) (by decide)) ?_
  refine ok_c (j := 3) rfl (ok_cmpeq (off := 9) (tg := 12) (pc := 3) rfl rfl (by decide +kernel) rfl (by decide)) ?_
  refine ok_c (j := 4) rfl (ok_iload_n (j := ⟨0, by decide⟩) (pc := 6) rfl rfl (by decide +kernel)) ?_
  refine ok_c (j := 5) rfl (ok_bipush (n := 10) (pc := 7) rfl rfl (by decide +kernel) (by decide)) ?_
  refine ok_c (j := 6) rfl (ok_cmpne (off := 7) (tg := 16) (pc := 9) rfl rfl (by decide +kernel) rfl (by decide)) ?_
  refine ok_c (j := 7) rfl (ok_iconst (n := 1) (pc := 12) rfl rfl (by decide +kernel) (by decide)) ?_
  refine ok_c (j := 8) rfl (ok_goto (off := 4) (tg := 17) (pc := 13) rfl (by decide +kernel) rfl (by decide)) ?_
  refine ok_c (j := 9) rfl (ok_iconst (n := 0) (pc := 16) rfl rfl (by decide +kernel) (by decide)) ?_
  refine ok_c (j := 10) rfl (ok_zret (pc := 17) rfl (by decide +kernel) rfl) ?_
  exact trivial
noncomputable def F_X9_isBlank := ce_fI tb_X9_isBlank 1 none
theorem ct_X9_isBlank (l : Launch) : ce_callee l yX9_isBlank 1 1 0 0 (ce_wI F_X9_isBlank) := ⟨_, _, _, ce_ctr_of (pcs := pc_X9_isBlank) (by decide +kernel) rfl (ok_X9_isBlank l ) ce_fI_run, ce_tw_at wd_297 rfl, by decide, by decide +kernel, by decide +kernel, by decide +kernel⟩
def pc_X9_isSmallLetter : List Nat := [0, 1, 3, 6, 7, 9, 12, 13, 16, 17]
noncomputable def tb_X9_isSmallLetter : List ce_Op := [o_iload 0, o_int 97, o_cmplt 8, o_iload 0, o_int 122, o_cmpgt 8, o_int 1, o_goto 9, o_int 0, o_zret]
theorem tl_X9_isSmallLetter : ce_TL tb_X9_isSmallLetter := by
  unfold tb_X9_isSmallLetter
  refine tl_c ta_iload ?_
  refine tl_c ta_int ?_
  refine tl_c ta_cmplt ?_
  refine tl_c ta_iload ?_
  refine tl_c ta_int ?_
  refine tl_c ta_cmpgt ?_
  refine tl_c ta_int ?_
  refine tl_c ta_goto ?_
  refine tl_c ta_int ?_
  refine tl_c ta_zret ?_
  exact trivial
set_option maxRecDepth 20000 in
theorem ok_X9_isSmallLetter (l : Launch) : ce_OkL l cX9_isSmallLetter RX9 1 (some .boolean) 1 0 0 pc_X9_isSmallLetter 0 tb_X9_isSmallLetter := by
  unfold tb_X9_isSmallLetter
  refine ok_c (j := 1) rfl (ok_iload_n (j := ⟨0, by decide⟩) (pc := 0) rfl rfl (by decide +kernel)) ?_
  refine ok_c (j := 2) rfl (ok_bipush (n := 97) (pc := 1) rfl rfl (by decide +kernel) (by decide)) ?_
  refine ok_c (j := 3) rfl (ok_cmplt (off := 13) (tg := 16) (pc := 3) rfl rfl (by decide +kernel) rfl (by decide)) ?_
  refine ok_c (j := 4) rfl (ok_iload_n (j := ⟨0, by decide⟩) (pc := 6) rfl rfl (by decide +kernel)) ?_
  refine ok_c (j := 5) rfl (ok_bipush (n := 122) (pc := 7) rfl rfl (by decide +kernel) (by decide)) ?_
  refine ok_c (j := 6) rfl (ok_cmpgt (off := 7) (tg := 16) (pc := 9) rfl rfl (by decide +kernel) rfl (by decide)) ?_
  refine ok_c (j := 7) rfl (ok_iconst (n := 1) (pc := 12) rfl rfl (by decide +kernel) (by decide)) ?_
  refine ok_c (j := 8) rfl (ok_goto (off := 4) (tg := 17) (pc := 13) rfl (by decide +kernel) rfl (by decide)) ?_
  refine ok_c (j := 9) rfl (ok_iconst (n := 0) (pc := 16) rfl rfl (by decide +kernel) (by decide)) ?_
  refine ok_c (j := 10) rfl (ok_zret (pc := 17) rfl (by decide +kernel) rfl) ?_
  exact trivial
noncomputable def F_X9_isSmallLetter := ce_fI tb_X9_isSmallLetter 1 none
theorem ct_X9_isSmallLetter (l : Launch) : ce_callee l yX9_isSmallLetter 1 1 0 0 (ce_wI F_X9_isSmallLetter) := ⟨_, _, _, ce_ctr_of (pcs := pc_X9_isSmallLetter) (by decide +kernel) rfl (ok_X9_isSmallLetter l ) ce_fI_run, ce_tw_at wd_300 rfl, by decide, by decide +kernel, by decide +kernel, by decide +kernel⟩
def pc_X9_isDigit : List Nat := [0, 1, 3, 6, 7, 9, 12, 13, 16, 17]
noncomputable def tb_X9_isDigit : List ce_Op := [o_iload 0, o_int 48, o_cmplt 8, o_iload 0, o_int 57, o_cmpgt 8, o_int 1, o_goto 9, o_int 0, o_zret]
theorem tl_X9_isDigit : ce_TL tb_X9_isDigit := by
  unfold tb_X9_isDigit
  refine tl_c ta_iload ?_
  refine tl_c ta_int ?_
  refine tl_c ta_cmplt ?_
  refine tl_c ta_iload ?_
  refine tl_c ta_int ?_
  refine tl_c ta_cmpgt ?_
  refine tl_c ta_int ?_
  refine tl_c ta_goto ?_
  refine tl_c ta_int ?_
  refine tl_c ta_zret ?_
  exact trivial
set_option maxRecDepth 20000 in
theorem ok_X9_isDigit (l : Launch) : ce_OkL l cX9_isDigit RX9 1 (some .boolean) 1 0 0 pc_X9_isDigit 0 tb_X9_isDigit := by
  unfold tb_X9_isDigit
  refine ok_c (j := 1) rfl (ok_iload_n (j := ⟨0, by decide⟩) (pc := 0) rfl rfl (by decide +kernel)) ?_
  refine ok_c (j := 2) rfl (ok_bipush (n := 48) (pc := 1) rfl rfl (by decide +kernel) (by decide)) ?_
  refine ok_c (j := 3) rfl (ok_cmplt (off := 13) (tg := 16) (pc := 3) rfl rfl (by decide +kernel) rfl (by decide)) ?_
  refine ok_c (j := 4) rfl (ok_iload_n (j := ⟨0, by decide⟩) (pc := 6) rfl rfl (by decide +kernel)) ?_
  refine ok_c (j := 5) rfl (ok_bipush (n := 57) (pc := 7) rfl rfl (by decide +kernel) (by decide)) ?_
  refine ok_c (j := 6) rfl (ok_cmpgt (off := 7) (tg := 16) (pc := 9) rfl rfl (by decide +kernel) rfl (by decide)) ?_
  refine ok_c (j := 7) rfl (ok_iconst (n := 1) (pc := 12) rfl rfl (by decide +kernel) (by decide)) ?_
  refine ok_c (j := 8) rfl (ok_goto (off := 4) (tg := 17) (pc := 13) rfl (by decide +kernel) rfl (by decide)) ?_
  refine ok_c (j := 9) rfl (ok_iconst (n := 0) (pc := 16) rfl rfl (by decide +kernel) (by decide)) ?_
  refine ok_c (j := 10) rfl (ok_zret (pc := 17) rfl (by decide +kernel) rfl) ?_
  exact trivial
noncomputable def F_X9_isDigit := ce_fI tb_X9_isDigit 1 none
theorem ct_X9_isDigit (l : Launch) : ce_callee l yX9_isDigit 1 1 0 0 (ce_wI F_X9_isDigit) := ⟨_, _, _, ce_ctr_of (pcs := pc_X9_isDigit) (by decide +kernel) rfl (ok_X9_isDigit l ) ce_fI_run, ce_tw_at wd_325 rfl, by decide, by decide +kernel, by decide +kernel, by decide +kernel⟩
def pc_X9_signToken : List Nat := [0, 1, 104, 105, 106, 108, 109, 111, 112, 114, 115, 117, 118, 120, 121, 123, 124, 126, 127, 129]
noncomputable def tb_X9_signToken : List ce_Op := [o_iload 0, o_sw [(40, 2), (41, 4), (42, 12), (43, 8), (44, 18), (45, 10), (46, 18), (47, 18), (48, 18), (49, 18), (50, 18), (51, 18), (52, 18), (53, 18), (54, 18), (55, 18), (56, 18), (57, 18), (58, 18), (59, 6), (60, 14), (61, 16)] 18, o_int 5, o_iret, o_int 6, o_iret, o_int 7, o_iret, o_int (-13), o_iret, o_int (-14), o_iret, o_int (-15), o_iret, o_int (-11), o_iret, o_int (-12), o_iret, o_int 8, o_iret]
theorem tl_X9_signToken : ce_TL tb_X9_signToken := by
  unfold tb_X9_signToken
  refine tl_c ta_iload ?_
  refine tl_c ta_sw ?_
  refine tl_c ta_int ?_
  refine tl_c ta_iret ?_
  refine tl_c ta_int ?_
  refine tl_c ta_iret ?_
  refine tl_c ta_int ?_
  refine tl_c ta_iret ?_
  refine tl_c ta_int ?_
  refine tl_c ta_iret ?_
  refine tl_c ta_int ?_
  refine tl_c ta_iret ?_
  refine tl_c ta_int ?_
  refine tl_c ta_iret ?_
  refine tl_c ta_int ?_
  refine tl_c ta_iret ?_
  refine tl_c ta_int ?_
  refine tl_c ta_iret ?_
  refine tl_c ta_int ?_
  refine tl_c ta_iret ?_
  exact trivial
set_option maxRecDepth 20000 in
theorem ok_X9_signToken (l : Launch) : ce_OkL l cX9_signToken RX9 1 (some .int) 1 0 0 pc_X9_signToken 0 tb_X9_signToken := by
  unfold tb_X9_signToken
  refine ok_c (j := 1) rfl (ok_iload_n (j := ⟨0, by decide⟩) (pc := 0) rfl rfl (by decide +kernel)) ?_
  refine ok_c (j := 2) rfl (ok_sw (lo := 40) (hi := 61) (dflt := 126) (offs := #[103, 105, 117, 111, 126, 114, 126, 126, 126, 126, 126, 126, 126, 126, 126, 126, 126, 126, 126, 108, 120, 123]) (len := 103) (pc := 1) rfl (by decide +kernel) (by decide +kernel) (by decide) (by decide)) ?_
  refine ok_c (j := 3) rfl (ok_iconst (n := 5) (pc := 104) rfl rfl (by decide +kernel) (by decide)) ?_
  refine ok_c (j := 4) rfl (ok_iret (pc := 105) rfl (by decide +kernel) rfl) ?_
  refine ok_c (j := 5) rfl (ok_bipush (n := 6) (pc := 106) rfl rfl (by decide +kernel) (by decide)) ?_
  refine ok_c (j := 6) rfl (ok_iret (pc := 108) rfl (by decide +kernel) rfl) ?_
  refine ok_c (j := 7) rfl (ok_bipush (n := 7) (pc := 109) rfl rfl (by decide +kernel) (by decide)) ?_
  refine ok_c (j := 8) rfl (ok_iret (pc := 111) rfl (by decide +kernel) rfl) ?_
  refine ok_c (j := 9) rfl (ok_bipush (n := (-13)) (pc := 112) rfl rfl (by decide +kernel) (by decide)) ?_
  refine ok_c (j := 10) rfl (ok_iret (pc := 114) rfl (by decide +kernel) rfl) ?_
  refine ok_c (j := 11) rfl (ok_bipush (n := (-14)) (pc := 115) rfl rfl (by decide +kernel) (by decide)) ?_
  refine ok_c (j := 12) rfl (ok_iret (pc := 117) rfl (by decide +kernel) rfl) ?_
  refine ok_c (j := 13) rfl (ok_bipush (n := (-15)) (pc := 118) rfl rfl (by decide +kernel) (by decide)) ?_
  refine ok_c (j := 14) rfl (ok_iret (pc := 120) rfl (by decide +kernel) rfl) ?_
  refine ok_c (j := 15) rfl (ok_bipush (n := (-11)) (pc := 121) rfl rfl (by decide +kernel) (by decide)) ?_
  refine ok_c (j := 16) rfl (ok_iret (pc := 123) rfl (by decide +kernel) rfl) ?_
  refine ok_c (j := 17) rfl (ok_bipush (n := (-12)) (pc := 124) rfl rfl (by decide +kernel) (by decide)) ?_
  refine ok_c (j := 18) rfl (ok_iret (pc := 126) rfl (by decide +kernel) rfl) ?_
  refine ok_c (j := 19) rfl (ok_bipush (n := 8) (pc := 127) rfl rfl (by decide +kernel) (by decide)) ?_
  refine ok_c (j := 20) rfl (ok_iret (pc := 129) rfl (by decide +kernel) rfl) ?_
  exact trivial
noncomputable def F_X9_signToken := ce_fI tb_X9_signToken 1 none
theorem ct_X9_signToken (l : Launch) : ce_callee l yX9_signToken 1 1 0 0 (ce_wI F_X9_signToken) := ⟨_, _, _, ce_ctr_of (pcs := pc_X9_signToken) (by decide +kernel) rfl (ok_X9_signToken l ) ce_fI_run, ce_tw_at wd_332 rfl, by decide, by decide +kernel, by decide +kernel, by decide +kernel⟩
def pc_X9_numberToken : List Nat := [0, 1, 2, 5, 6, 9, 10, 13, 16, 17, 20, 21, 24, 25, 28, 31, 32, 34, 35, 38, 39, 40, 43, 44, 47, 48, 49, 51, 52, 55, 56, 57, 60, 61, 62, 65, 68, 69, 72, 73, 76, 77, 78, 81, 82, 85, 87]
noncomputable def tb_X9_numberToken : List ce_Op := [o_aload 0, o_int 0, o_putI 7 6, o_aload 0, o_getI 7 3, o_aload 0, o_getI 7 0, o_cmpge 36, o_aload 0, o_getS 7 8 (fun _ => 0), o_aload 0, o_getI 7 3, o_ild 8, o_ci 1 F_X9_isDigit 0 0 0 0, o_ifeq 36, o_aload 0, o_int 10, o_aload 0, o_getI 7 6, o_bin (fun x y => x * y), o_aload 0, o_getS 7 8 (fun _ => 0), o_aload 0, o_getI 7 3, o_ild 8, o_bin (fun x y => x + y), o_int 48, o_bin (fun x y => x - y), o_putI 7 6, o_aload 0, o_dup, o_getI 7 3, o_int 1, o_bin (fun x y => x + y), o_putI 7 3, o_goto 3, o_aload 0, o_getI 7 3, o_aload 0, o_getI 7 5, o_bin (fun x y => x - y), o_int 4, o_cmpgt 45, o_int 1, o_goto 46, o_int 8, o_iret]
theorem tl_X9_numberToken : ce_TL tb_X9_numberToken := by
  unfold tb_X9_numberToken
  refine tl_c ta_aload ?_
  refine tl_c ta_int ?_
  refine tl_c ta_putI ?_
  refine tl_c ta_aload ?_
  refine tl_c ta_getI ?_
  refine tl_c ta_aload ?_
  refine tl_c ta_getI ?_
  refine tl_c ta_cmpge ?_
  refine tl_c ta_aload ?_
  refine tl_c ta_getS ?_
  refine tl_c ta_aload ?_
  refine tl_c ta_getI ?_
  refine tl_c ta_ild ?_
  refine tl_c ta_ci ?_
  refine tl_c ta_ifeq ?_
  refine tl_c ta_aload ?_
  refine tl_c ta_int ?_
  refine tl_c ta_aload ?_
  refine tl_c ta_getI ?_
  refine tl_c ta_bin ?_
  refine tl_c ta_aload ?_
  refine tl_c ta_getS ?_
  refine tl_c ta_aload ?_
  refine tl_c ta_getI ?_
  refine tl_c ta_ild ?_
  refine tl_c ta_bin ?_
  refine tl_c ta_int ?_
  refine tl_c ta_bin ?_
  refine tl_c ta_putI ?_
  refine tl_c ta_aload ?_
  refine tl_c ta_dup ?_
  refine tl_c ta_getI ?_
  refine tl_c ta_int ?_
  refine tl_c ta_bin ?_
  refine tl_c ta_putI ?_
  refine tl_c ta_goto ?_
  refine tl_c ta_aload ?_
  refine tl_c ta_getI ?_
  refine tl_c ta_aload ?_
  refine tl_c ta_getI ?_
  refine tl_c ta_bin ?_
  refine tl_c ta_int ?_
  refine tl_c ta_cmpgt ?_
  refine tl_c ta_int ?_
  refine tl_c ta_goto ?_
  refine tl_c ta_int ?_
  refine tl_c ta_iret ?_
  exact trivial
set_option maxRecDepth 20000 in
theorem ok_X9_numberToken (l : Launch) : ce_OkL l cX9_numberToken RX9 1 (some .int) 2 0 0 pc_X9_numberToken 0 tb_X9_numberToken := by
  unfold tb_X9_numberToken
  refine ok_c (j := 1) rfl (ok_aload_n (j := ⟨0, by decide⟩) (pc := 0) rfl rfl (by decide +kernel)) ?_
  refine ok_c (j := 2) rfl (ok_iconst (n := 0) (pc := 1) rfl rfl (by decide +kernel) (by decide)) ?_
  refine ok_c (j := 3) rfl (ok_putI (ci := 9) (C := RX9) (T := TX9) (N := 11) (ty := tyX9) (ix := 31) (pc := 2) rfl rfl (by decide +kernel) rfl (fun _ => rfl) rfl cw_X9 tyX9_ok nmX9 (by decide) rfl rfl rfl wd_103) ?_
  refine ok_c (j := 4) rfl (ok_aload_n (j := ⟨0, by decide⟩) (pc := 5) rfl rfl (by decide +kernel)) ?_
  refine ok_c (j := 5) rfl (ok_getI (ci := 9) (C := RX9) (T := TX9) (N := 11) (ix := 22) (pc := 6) rfl rfl (by decide +kernel) rfl (fun _ => rfl) rfl cw_X9 (by decide) rfl wd_100) ?_
  refine ok_c (j := 6) rfl (ok_aload_n (j := ⟨0, by decide⟩) (pc := 9) rfl rfl (by decide +kernel)) ?_
  refine ok_c (j := 7) rfl (ok_getI (ci := 9) (C := RX9) (T := TX9) (N := 11) (ix := 9) (pc := 10) rfl rfl (by decide +kernel) rfl (fun _ => rfl) rfl cw_X9 (by decide) rfl wd_96) ?_
  refine ok_c (j := 8) rfl (ok_cmpge (off := 55) (tg := 68) (pc := 13) rfl rfl (by decide +kernel) rfl (by decide)) ?_
  refine ok_c (j := 9) rfl (ok_aload_n (j := ⟨0, by decide⟩) (pc := 16) rfl rfl (by decide +kernel)) ?_
  refine ok_c (j := 10) rfl (ok_getS (f := 1) (ci := 9) (C := RX9) (T := TX9) (N := 11) (ix := 15) (pc := 17) rfl rfl (by decide +kernel) rfl (fun _ => rfl) rfl cw_X9 (by decide) rfl wd_98) ?_
  refine ok_c (j := 11) rfl (ok_aload_n (j := ⟨0, by decide⟩) (pc := 20) rfl rfl (by decide +kernel)) ?_
  refine ok_c (j := 12) rfl (ok_getI (ci := 9) (C := RX9) (T := TX9) (N := 11) (ix := 22) (pc := 21) rfl rfl (by decide +kernel) rfl (fun _ => rfl) rfl cw_X9 (by decide) rfl wd_100) ?_
  refine ok_c (j := 13) rfl (ok_ild (pc := 24) rfl rfl (by decide +kernel) rfl) ?_
  refine ok_c (j := 14) rfl (ok_static (y := yX9_isDigit) (n := 1) (d' := 1) (ix := 96) is_ci (pc := 25) rfl rfl (by decide +kernel) (by decide) rfl (ct_X9_isDigit l) wd_323 wd_324 wd_58) ?_
  refine ok_c (j := 15) rfl (ok_ifeq (off := 40) (tg := 68) (pc := 28) rfl rfl (by decide +kernel) rfl (by decide)) ?_
  refine ok_c (j := 16) rfl (ok_aload_n (j := ⟨0, by decide⟩) (pc := 31) rfl rfl (by decide +kernel)) ?_
  refine ok_c (j := 17) rfl (ok_bipush (n := 10) (pc := 32) rfl rfl (by decide +kernel) (by decide)) ?_
  refine ok_c (j := 18) rfl (ok_aload_n (j := ⟨0, by decide⟩) (pc := 34) rfl rfl (by decide +kernel)) ?_
  refine ok_c (j := 19) rfl (ok_getI (ci := 9) (C := RX9) (T := TX9) (N := 11) (ix := 31) (pc := 35) rfl rfl (by decide +kernel) rfl (fun _ => rfl) rfl cw_X9 (by decide) rfl wd_103) ?_
  refine ok_c (j := 20) rfl (ok_imul (pc := 38) rfl rfl (by decide +kernel)) ?_
  refine ok_c (j := 21) rfl (ok_aload_n (j := ⟨0, by decide⟩) (pc := 39) rfl rfl (by decide +kernel)) ?_
  refine ok_c (j := 22) rfl (ok_getS (f := 1) (ci := 9) (C := RX9) (T := TX9) (N := 11) (ix := 15) (pc := 40) rfl rfl (by decide +kernel) rfl (fun _ => rfl) rfl cw_X9 (by decide) rfl wd_98) ?_
  refine ok_c (j := 23) rfl (ok_aload_n (j := ⟨0, by decide⟩) (pc := 43) rfl rfl (by decide +kernel)) ?_
  refine ok_c (j := 24) rfl (ok_getI (ci := 9) (C := RX9) (T := TX9) (N := 11) (ix := 22) (pc := 44) rfl rfl (by decide +kernel) rfl (fun _ => rfl) rfl cw_X9 (by decide) rfl wd_100) ?_
  refine ok_c (j := 25) rfl (ok_ild (pc := 47) rfl rfl (by decide +kernel) rfl) ?_
  refine ok_c (j := 26) rfl (ok_iadd (pc := 48) rfl rfl (by decide +kernel)) ?_
  refine ok_c (j := 27) rfl (ok_bipush (n := 48) (pc := 49) rfl rfl (by decide +kernel) (by decide)) ?_
  refine ok_c (j := 28) rfl (ok_isub (pc := 51) rfl rfl (by decide +kernel)) ?_
  refine ok_c (j := 29) rfl (ok_putI (ci := 9) (C := RX9) (T := TX9) (N := 11) (ty := tyX9) (ix := 31) (pc := 52) rfl rfl (by decide +kernel) rfl (fun _ => rfl) rfl cw_X9 tyX9_ok nmX9 (by decide) rfl rfl rfl wd_103) ?_
  refine ok_c (j := 30) rfl (ok_aload_n (j := ⟨0, by decide⟩) (pc := 55) rfl rfl (by decide +kernel)) ?_
  refine ok_c (j := 31) rfl (ok_dup (pc := 56) rfl rfl (by decide +kernel)) ?_
  refine ok_c (j := 32) rfl (ok_getI (ci := 9) (C := RX9) (T := TX9) (N := 11) (ix := 22) (pc := 57) rfl rfl (by decide +kernel) rfl (fun _ => rfl) rfl cw_X9 (by decide) rfl wd_100) ?_
  refine ok_c (j := 33) rfl (ok_iconst (n := 1) (pc := 60) rfl rfl (by decide +kernel) (by decide)) ?_
  refine ok_c (j := 34) rfl (ok_iadd (pc := 61) rfl rfl (by decide +kernel)) ?_
  refine ok_c (j := 35) rfl (ok_putI (ci := 9) (C := RX9) (T := TX9) (N := 11) (ty := tyX9) (ix := 22) (pc := 62) rfl rfl (by decide +kernel) rfl (fun _ => rfl) rfl cw_X9 tyX9_ok nmX9 (by decide) rfl rfl rfl wd_100) ?_
  refine ok_c (j := 36) rfl (ok_goto (off := (-60)) (tg := 5) (pc := 65) rfl (by decide +kernel) rfl (by decide)) ?_
  refine ok_c (j := 37) rfl (ok_aload_n (j := ⟨0, by decide⟩) (pc := 68) rfl rfl (by decide +kernel)) ?_
  refine ok_c (j := 38) rfl (ok_getI (ci := 9) (C := RX9) (T := TX9) (N := 11) (ix := 22) (pc := 69) rfl rfl (by decide +kernel) rfl (fun _ => rfl) rfl cw_X9 (by decide) rfl wd_100) ?_
  refine ok_c (j := 39) rfl (ok_aload_n (j := ⟨0, by decide⟩) (pc := 72) rfl rfl (by decide +kernel)) ?_
  refine ok_c (j := 40) rfl (ok_getI (ci := 9) (C := RX9) (T := TX9) (N := 11) (ix := 28) (pc := 73) rfl rfl (by decide +kernel) rfl (fun _ => rfl) rfl cw_X9 (by decide) rfl wd_102) ?_
  refine ok_c (j := 41) rfl (ok_isub (pc := 76) rfl rfl (by decide +kernel)) ?_
  refine ok_c (j := 42) rfl (ok_iconst (n := 4) (pc := 77) rfl rfl (by decide +kernel) (by decide)) ?_
  refine ok_c (j := 43) rfl (ok_cmpgt (off := 7) (tg := 85) (pc := 78) rfl rfl (by decide +kernel) rfl (by decide)) ?_
  refine ok_c (j := 44) rfl (ok_iconst (n := 1) (pc := 81) rfl rfl (by decide +kernel) (by decide)) ?_
  refine ok_c (j := 45) rfl (ok_goto (off := 5) (tg := 87) (pc := 82) rfl (by decide +kernel) rfl (by decide)) ?_
  refine ok_c (j := 46) rfl (ok_bipush (n := 8) (pc := 85) rfl rfl (by decide +kernel) (by decide)) ?_
  refine ok_c (j := 47) rfl (ok_iret (pc := 87) rfl (by decide +kernel) rfl) ?_
  exact trivial
noncomputable def F_X9_numberToken := ce_fI tb_X9_numberToken 1 (some 7)
theorem ct_X9_numberToken (l : Launch) : ce_callee l yX9_numberToken 0 2 0 0 (ce_wI F_X9_numberToken) := ⟨_, _, _, ce_ctr_of (pcs := pc_X9_numberToken) (by decide +kernel) rfl (ok_X9_numberToken l ) ce_fI_run, ce_tw_at wd_329 rfl, by decide, by decide +kernel, by decide +kernel, by decide +kernel⟩
def pc_X9_fail : List Nat := [0, 1, 4, 5, 8, 9, 10, 13, 16, 17, 19, 22]
noncomputable def tb_X9_fail : List ce_Op := [o_aload 0, o_getI 7 10, o_int (-1), o_cmpne 8, o_aload 0, o_aload 0, o_getI 7 5, o_putI 7 10, o_aload 0, o_int 8, o_putI 7 4, o_vret]
theorem tl_X9_fail : ce_TL tb_X9_fail := by
  unfold tb_X9_fail
  refine tl_c ta_aload ?_
  refine tl_c ta_getI ?_
  refine tl_c ta_int ?_
  refine tl_c ta_cmpne ?_
  refine tl_c ta_aload ?_
  refine tl_c ta_aload ?_
  refine tl_c ta_getI ?_
  refine tl_c ta_putI ?_
  refine tl_c ta_aload ?_
  refine tl_c ta_int ?_
  refine tl_c ta_putI ?_
  refine tl_c ta_vret ?_
  exact trivial
set_option maxRecDepth 20000 in
theorem ok_X9_fail (l : Launch) : ce_OkL l cX9_fail RX9 1 none 1 0 0 pc_X9_fail 0 tb_X9_fail := by
  unfold tb_X9_fail
  refine ok_c (j := 1) rfl (ok_aload_n (j := ⟨0, by decide⟩) (pc := 0) rfl rfl (by decide +kernel)) ?_
  refine ok_c (j := 2) rfl (ok_getI (ci := 9) (C := RX9) (T := TX9) (N := 11) (ix := 43) (pc := 1) rfl rfl (by decide +kernel) rfl (fun _ => rfl) rfl cw_X9 (by decide) rfl wd_107) ?_
  refine ok_c (j := 3) rfl (ok_iconst (n := (-1)) (pc := 4) rfl rfl (by decide +kernel) (by decide)) ?_
  refine ok_c (j := 4) rfl (ok_cmpne (off := 11) (tg := 16) (pc := 5) rfl rfl (by decide +kernel) rfl (by decide)) ?_
  refine ok_c (j := 5) rfl (ok_aload_n (j := ⟨0, by decide⟩) (pc := 8) rfl rfl (by decide +kernel)) ?_
  refine ok_c (j := 6) rfl (ok_aload_n (j := ⟨0, by decide⟩) (pc := 9) rfl rfl (by decide +kernel)) ?_
  refine ok_c (j := 7) rfl (ok_getI (ci := 9) (C := RX9) (T := TX9) (N := 11) (ix := 28) (pc := 10) rfl rfl (by decide +kernel) rfl (fun _ => rfl) rfl cw_X9 (by decide) rfl wd_102) ?_
  refine ok_c (j := 8) rfl (ok_putI (ci := 9) (C := RX9) (T := TX9) (N := 11) (ty := tyX9) (ix := 43) (pc := 13) rfl rfl (by decide +kernel) rfl (fun _ => rfl) rfl cw_X9 tyX9_ok nmX9 (by decide) rfl rfl rfl wd_107) ?_
  refine ok_c (j := 9) rfl (ok_aload_n (j := ⟨0, by decide⟩) (pc := 16) rfl rfl (by decide +kernel)) ?_
  refine ok_c (j := 10) rfl (ok_bipush (n := 8) (pc := 17) rfl rfl (by decide +kernel) (by decide)) ?_
  refine ok_c (j := 11) rfl (ok_putI (ci := 9) (C := RX9) (T := TX9) (N := 11) (ty := tyX9) (ix := 25) (pc := 19) rfl rfl (by decide +kernel) rfl (fun _ => rfl) rfl cw_X9 tyX9_ok nmX9 (by decide) rfl rfl rfl wd_101) ?_
  refine ok_c (j := 12) rfl (ok_vret (pc := 22) rfl (by decide +kernel) rfl) ?_
  exact trivial
noncomputable def F_X9_fail := ce_fV tb_X9_fail 1 (some 7)
theorem ct_X9_fail (l : Launch) : ce_callee l yX9_fail 0 1 0 0 (ce_wV F_X9_fail) := ⟨_, _, _, ce_ctr_of (pcs := pc_X9_fail) (by decide +kernel) rfl (ok_X9_fail l ) ce_fV_run, ce_tw_at wd_344 rfl, by decide, by decide +kernel, by decide +kernel, by decide +kernel⟩
def pc_X9_emit : List Nat := [0, 1, 4, 7, 10, 11, 14, 15, 18, 19, 20, 21, 22, 25, 26, 27, 30]
noncomputable def tb_X9_emit : List ce_Op := [o_aload 0, o_getI 7 7, o_int 160, o_cmpge 16, o_aload 0, o_getS 7 9 (fun _ => 0), o_aload 0, o_getI 7 7, o_iload 1, o_ist 9, o_aload 0, o_dup, o_getI 7 7, o_int 1, o_bin (fun x y => x + y), o_putI 7 7, o_vret]
theorem tl_X9_emit : ce_TL tb_X9_emit := by
  unfold tb_X9_emit
  refine tl_c ta_aload ?_
  refine tl_c ta_getI ?_
  refine tl_c ta_int ?_
  refine tl_c ta_cmpge ?_
  refine tl_c ta_aload ?_
  refine tl_c ta_getS ?_
  refine tl_c ta_aload ?_
  refine tl_c ta_getI ?_
  refine tl_c ta_iload ?_
  refine tl_c ta_ist ?_
  refine tl_c ta_aload ?_
  refine tl_c ta_dup ?_
  refine tl_c ta_getI ?_
  refine tl_c ta_int ?_
  refine tl_c ta_bin ?_
  refine tl_c ta_putI ?_
  refine tl_c ta_vret ?_
  exact trivial
set_option maxRecDepth 20000 in
theorem ok_X9_emit (l : Launch) : ce_OkL l cX9_emit RX9 2 none 1 0 0 pc_X9_emit 0 tb_X9_emit := by
  unfold tb_X9_emit
  refine ok_c (j := 1) rfl (ok_aload_n (j := ⟨0, by decide⟩) (pc := 0) rfl rfl (by decide +kernel)) ?_
  refine ok_c (j := 2) rfl (ok_getI (ci := 9) (C := RX9) (T := TX9) (N := 11) (ix := 34) (pc := 1) rfl rfl (by decide +kernel) rfl (fun _ => rfl) rfl cw_X9 (by decide) rfl wd_104) ?_
  refine ok_c (j := 3) rfl (ok_sipush (n := 160) (pc := 4) rfl rfl (by decide +kernel) (by decide)) ?_
  refine ok_c (j := 4) rfl (ok_cmpge (off := 23) (tg := 30) (pc := 7) rfl rfl (by decide +kernel) rfl (by decide)) ?_
  refine ok_c (j := 5) rfl (ok_aload_n (j := ⟨0, by decide⟩) (pc := 10) rfl rfl (by decide +kernel)) ?_
  refine ok_c (j := 6) rfl (ok_getS (f := 2) (ci := 9) (C := RX9) (T := TX9) (N := 11) (ix := 19) (pc := 11) rfl rfl (by decide +kernel) rfl (fun _ => rfl) rfl cw_X9 (by decide) rfl wd_99) ?_
  refine ok_c (j := 7) rfl (ok_aload_n (j := ⟨0, by decide⟩) (pc := 14) rfl rfl (by decide +kernel)) ?_
  refine ok_c (j := 8) rfl (ok_getI (ci := 9) (C := RX9) (T := TX9) (N := 11) (ix := 34) (pc := 15) rfl rfl (by decide +kernel) rfl (fun _ => rfl) rfl cw_X9 (by decide) rfl wd_104) ?_
  refine ok_c (j := 9) rfl (ok_iload_n (j := ⟨1, by decide⟩) (pc := 18) rfl rfl (by decide +kernel)) ?_
  refine ok_c (j := 10) rfl (ok_ist (pc := 19) rfl rfl (by decide +kernel) rfl) ?_
  refine ok_c (j := 11) rfl (ok_aload_n (j := ⟨0, by decide⟩) (pc := 20) rfl rfl (by decide +kernel)) ?_
  refine ok_c (j := 12) rfl (ok_dup (pc := 21) rfl rfl (by decide +kernel)) ?_
  refine ok_c (j := 13) rfl (ok_getI (ci := 9) (C := RX9) (T := TX9) (N := 11) (ix := 34) (pc := 22) rfl rfl (by decide +kernel) rfl (fun _ => rfl) rfl cw_X9 (by decide) rfl wd_104) ?_
  refine ok_c (j := 14) rfl (ok_iconst (n := 1) (pc := 25) rfl rfl (by decide +kernel) (by decide)) ?_
  refine ok_c (j := 15) rfl (ok_iadd (pc := 26) rfl rfl (by decide +kernel)) ?_
  refine ok_c (j := 16) rfl (ok_putI (ci := 9) (C := RX9) (T := TX9) (N := 11) (ty := tyX9) (ix := 34) (pc := 27) rfl rfl (by decide +kernel) rfl (fun _ => rfl) rfl cw_X9 tyX9_ok nmX9 (by decide) rfl rfl rfl wd_104) ?_
  refine ok_c (j := 17) rfl (ok_vret (pc := 30) rfl (by decide +kernel) rfl) ?_
  exact trivial
noncomputable def F_X9_emit := ce_fV tb_X9_emit 2 (some 7)
theorem ct_X9_emit (l : Launch) : ce_callee l yX9_emit 1 1 0 0 (ce_wV F_X9_emit) := ⟨_, _, _, ce_ctr_of (pcs := pc_X9_emit) (by decide +kernel) rfl (ok_X9_emit l ) ce_fV_run, ce_tw_at wd_360 rfl, by decide, by decide +kernel, by decide +kernel, by decide +kernel⟩
