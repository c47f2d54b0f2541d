def pc_X11_within : List Nat := [0, 1, 2, 3, 6, 9]
noncomputable def tb_X11_within : List ce_Op := [o_iload 1, o_iload 0, o_iload 2, o_mmin, o_mmax, o_iret]
theorem tl_X11_within : ce_TL tb_X11_within := by
  unfold tb_X11_within
  refine tl_c ta_iload ?_
  refine tl_c ta_iload ?_
  refine tl_c ta_iload ?_
  refine tl_c ta_mmin ?_
  refine tl_c ta_mmax ?_
  refine tl_c ta_iret ?_
  exact trivial
set_option maxRecDepth 20000 in
theorem ok_X11_within (l : Launch) : ce_OkL l cX11_within RX11 3 (some .int) 2 0 0 pc_X11_within 0 tb_X11_within := by
  unfold tb_X11_within
  refine ok_c (j := 1) rfl (ok_iload_n (j := ⟨1, by decide⟩) (pc := 0) rfl rfl (by decide +kernel)) ?_
  refine ok_c (j := 2) rfl (ok_iload_n (j := ⟨0, by decide⟩) (pc := 1) rfl rfl (by decide +kernel)) ?_
  refine ok_c (j := 3) rfl (ok_iload_n (j := ⟨2, by decide⟩) (pc := 2) rfl rfl (by decide +kernel)) ?_
  refine ok_c (j := 4) rfl (ok_mmin (ix := 285) (pc := 3) rfl rfl (by decide +kernel) (by decide) wd_386 wd_387 wd_72 wd_388) ?_
  refine ok_c (j := 5) rfl (ok_mmax (ix := 290) (pc := 6) rfl rfl (by decide +kernel) (by decide) wd_389 wd_390 wd_72 wd_391) ?_
  refine ok_c (j := 6) rfl (ok_iret (pc := 9) rfl (by decide +kernel) rfl) ?_
  exact trivial
noncomputable def F_X11_within := ce_fI tb_X11_within 3 none
theorem ct_X11_within (l : Launch) : ce_callee l yX11_within 3 2 0 0 (ce_wI F_X11_within) := ⟨_, _, _, ce_ctr_of (pcs := pc_X11_within) (by decide +kernel) rfl (ok_X11_within l ) ce_fI_run, ce_tw_at wd_385 rfl, by decide, by decide +kernel, by decide +kernel, by decide +kernel⟩
def pc_X11_isSheet : List Nat := [0, 1, 4, 5, 6, 9, 10, 13, 14]
noncomputable def tb_X11_isSheet : List ce_Op := [o_iload 0, o_iflt 7, o_iload 0, o_int 4, o_cmpge 7, o_int 1, o_goto 8, o_int 0, o_zret]
theorem tl_X11_isSheet : ce_TL tb_X11_isSheet := by
  unfold tb_X11_isSheet
  refine tl_c ta_iload ?_
  refine tl_c ta_iflt ?_
  refine tl_c ta_iload ?_
  refine tl_c ta_int ?_
  refine tl_c ta_cmpge ?_
  refine tl_c ta_int ?_
  refine tl_c ta_goto ?_
  refine tl_c ta_int ?_
  refine tl_c ta_zret ?_
  exact trivial
set_option maxRecDepth 20000 in
theorem ok_X11_isSheet (l : Launch) : ce_OkL l cX11_isSheet RX11 1 (some .boolean) 1 0 0 pc_X11_isSheet 0 tb_X11_isSheet := by
  unfold tb_X11_isSheet
  refine ok_c (j := 1) rfl (ok_iload_n (j := ⟨0, by decide⟩) (pc := 0) rfl rfl (by decide +kernel)) ?_
  refine ok_c (j := 2) rfl (ok_iflt (off := 12) (tg := 13) (pc := 1) rfl rfl (by decide +kernel) rfl (by decide)) ?_
  refine ok_c (j := 3) rfl (ok_iload_n (j := ⟨0, by decide⟩) (pc := 4) rfl rfl (by decide +kernel)) ?_
  refine ok_c (j := 4) rfl (ok_iconst (n := 4) (pc := 5) rfl rfl (by decide +kernel) (by decide)) ?_
  refine ok_c (j := 5) rfl (ok_cmpge (off := 7) (tg := 13) (pc := 6) rfl rfl (by decide +kernel) rfl (by decide)) ?_
  refine ok_c (j := 6) rfl (ok_iconst (n := 1) (pc := 9) rfl rfl (by decide +kernel) (by decide)) ?_
  refine ok_c (j := 7) rfl (ok_goto (off := 4) (tg := 14) (pc := 10) rfl (by decide +kernel) rfl (by decide)) ?_
  refine ok_c (j := 8) rfl (ok_iconst (n := 0) (pc := 13) rfl rfl (by decide +kernel) (by decide)) ?_
  refine ok_c (j := 9) rfl (ok_zret (pc := 14) rfl (by decide +kernel) rfl) ?_
  exact trivial
noncomputable def F_X11_isSheet := ce_fI tb_X11_isSheet 1 none
theorem ct_X11_isSheet (l : Launch) : ce_callee l yX11_isSheet 1 1 0 0 (ce_wI F_X11_isSheet) := ⟨_, _, _, ce_ctr_of (pcs := pc_X11_isSheet) (by decide +kernel) rfl (ok_X11_isSheet l ) ce_fI_run, ce_tw_at wd_698 rfl, by decide, by decide +kernel, by decide +kernel, by decide +kernel⟩
def pc_X11_isBid : List Nat := [0, 1, 4, 5, 8, 11, 12, 15, 16]
noncomputable def tb_X11_isBid : List ce_Op := [o_iload 0, o_iflt 7, o_iload 0, o_int 1999, o_cmpgt 7, o_int 1, o_goto 8, o_int 0, o_zret]
theorem tl_X11_isBid : ce_TL tb_X11_isBid := by
  unfold tb_X11_isBid
  refine tl_c ta_iload ?_
  refine tl_c ta_iflt ?_
  refine tl_c ta_iload ?_
  refine tl_c ta_int ?_
  refine tl_c ta_cmpgt ?_
  refine tl_c ta_int ?_
  refine tl_c ta_goto ?_
  refine tl_c ta_int ?_
  refine tl_c ta_zret ?_
  exact trivial
set_option maxRecDepth 20000 in
theorem ok_X11_isBid (l : Launch) : ce_OkL l cX11_isBid RX11 1 (some .boolean) 1 0 0 pc_X11_isBid 0 tb_X11_isBid := by
  unfold tb_X11_isBid
  refine ok_c (j := 1) rfl (ok_iload_n (j := ⟨0, by decide⟩) (pc := 0) rfl rfl (by decide +kernel)) ?_
  refine ok_c (j := 2) rfl (ok_iflt (off := 14) (tg := 15) (pc := 1) rfl rfl (by decide +kernel) rfl (by decide)) ?_
  refine ok_c (j := 3) rfl (ok_iload_n (j := ⟨0, by decide⟩) (pc := 4) rfl rfl (by decide +kernel)) ?_
  refine ok_c (j := 4) rfl (ok_sipush (n := 1999) (pc := 5) rfl rfl (by decide +kernel) (by decide)) ?_
  refine ok_c (j := 5) rfl (ok_cmpgt (off := 7) (tg := 15) (pc := 8) rfl rfl (by decide +kernel) rfl (by decide)) ?_
  refine ok_c (j := 6) rfl (ok_iconst (n := 1) (pc := 11) rfl rfl (by decide +kernel) (by decide)) ?_
  refine ok_c (j := 7) rfl (ok_goto (off := 4) (tg := 16) (pc := 12) rfl (by decide +kernel) rfl (by decide)) ?_
  refine ok_c (j := 8) rfl (ok_iconst (n := 0) (pc := 15) rfl rfl (by decide +kernel) (by decide)) ?_
  refine ok_c (j := 9) rfl (ok_zret (pc := 16) rfl (by decide +kernel) rfl) ?_
  exact trivial
noncomputable def F_X11_isBid := ce_fI tb_X11_isBid 1 none
theorem ct_X11_isBid (l : Launch) : ce_callee l yX11_isBid 1 1 0 0 (ce_wI F_X11_isBid) := ⟨_, _, _, ce_ctr_of (pcs := pc_X11_isBid) (by decide +kernel) rfl (ok_X11_isBid l ) ce_fI_run, ce_tw_at wd_582 rfl, by decide, by decide +kernel, by decide +kernel, by decide +kernel⟩
def pc_X11_isRule : List Nat := [0, 1, 4, 5, 8, 11, 12, 15, 16, 18, 21, 22, 25, 26]
noncomputable def tb_X11_isRule : List ce_Op := [o_iload 0, o_iflt 12, o_iload 0, o_int 1999, o_cmpgt 12, o_iload 1, o_iflt 12, o_iload 1, o_int 10, o_cmpgt 12, o_int 1, o_goto 13, o_int 0, o_zret]
theorem tl_X11_isRule : ce_TL tb_X11_isRule := by
  unfold tb_X11_isRule
  refine tl_c ta_iload ?_
  refine tl_c ta_iflt ?_
  refine tl_c ta_iload ?_
  refine tl_c ta_int ?_
  refine tl_c ta_cmpgt ?_
  refine tl_c ta_iload ?_
  refine tl_c ta_iflt ?_
  refine tl_c ta_iload ?_
  refine tl_c ta_int ?_
  refine tl_c ta_cmpgt ?_
  refine tl_c ta_int ?_
  refine tl_c ta_goto ?_
  refine tl_c ta_int ?_
  refine tl_c ta_zret ?_
  exact trivial
set_option maxRecDepth 20000 in
theorem ok_X11_isRule (l : Launch) : ce_OkL l cX11_isRule RX11 2 (some .boolean) 1 0 0 pc_X11_isRule 0 tb_X11_isRule := by
  unfold tb_X11_isRule
  refine ok_c (j := 1) rfl (ok_iload_n (j := ⟨0, by decide⟩) (pc := 0) rfl rfl (by decide +kernel)) ?_
  refine ok_c (j := 2) rfl (ok_iflt (off := 24) (tg := 25) (pc := 1) rfl rfl (by decide +kernel) rfl (by decide)) ?_
  refine ok_c (j := 3) rfl (ok_iload_n (j := ⟨0, by decide⟩) (pc := 4) rfl rfl (by decide +kernel)) ?_
  refine ok_c (j := 4) rfl (ok_sipush (n := 1999) (pc := 5) rfl rfl (by decide +kernel) (by decide)) ?_
  refine ok_c (j := 5) rfl (ok_cmpgt (off := 17) (tg := 25) (pc := 8) rfl rfl (by decide +kernel) rfl (by decide)) ?_
  refine ok_c (j := 6) rfl (ok_iload_n (j := ⟨1, by decide⟩) (pc := 11) rfl rfl (by decide +kernel)) ?_
  refine ok_c (j := 7) rfl (ok_iflt (off := 13) (tg := 25) (pc := 12) rfl rfl (by decide +kernel) rfl (by decide)) ?_
  refine ok_c (j := 8) rfl (ok_iload_n (j := ⟨1, by decide⟩) (pc := 15) rfl rfl (by decide +kernel)) ?_
  refine ok_c (j := 9) rfl (ok_bipush (n := 10) (pc := 16) rfl rfl (by decide +kernel) (by decide)) ?_
  refine ok_c (j := 10) rfl (ok_cmpgt (off := 7) (tg := 25) (pc := 18) rfl rfl (by decide +kernel) rfl (by decide)) ?_
  refine ok_c (j := 11) rfl (ok_iconst (n := 1) (pc := 21) rfl rfl (by decide +kernel) (by decide)) ?_
  refine ok_c (j := 12) rfl (ok_goto (off := 4) (tg := 26) (pc := 22) rfl (by decide +kernel) rfl (by decide)) ?_
  refine ok_c (j := 13) rfl (ok_iconst (n := 0) (pc := 25) rfl rfl (by decide +kernel) (by decide)) ?_
  refine ok_c (j := 14) rfl (ok_zret (pc := 26) rfl (by decide +kernel) rfl) ?_
  exact trivial
noncomputable def F_X11_isRule := ce_fI tb_X11_isRule 2 none
theorem ct_X11_isRule (l : Launch) : ce_callee l yX11_isRule 2 1 0 0 (ce_wI F_X11_isRule) := ⟨_, _, _, ce_ctr_of (pcs := pc_X11_isRule) (by decide +kernel) rfl (ok_X11_isRule l ) ce_fI_run, ce_tw_at wd_654 rfl, by decide, by decide +kernel, by decide +kernel, by decide +kernel⟩
def pc_X11_topOf : List Nat := [0, 1, 4, 6, 9, 10, 11, 14, 16, 19, 22]
noncomputable def tb_X11_topOf : List ce_Op := [o_iload 0, o_ifne 4, o_int 9, o_goto 10, o_iload 0, o_int 1, o_cmpne 9, o_int 23, o_goto 10, o_int 1999, o_iret]
theorem tl_X11_topOf : ce_TL tb_X11_topOf := by
  unfold tb_X11_topOf
  refine tl_c ta_iload ?_
  refine tl_c ta_ifne ?_
  refine tl_c ta_int ?_
  refine tl_c ta_goto ?_
  refine tl_c ta_iload ?_
  refine tl_c ta_int ?_
  refine tl_c ta_cmpne ?_
  refine tl_c ta_int ?_
  refine tl_c ta_goto ?_
  refine tl_c ta_int ?_
  refine tl_c ta_iret ?_
  exact trivial
set_option maxRecDepth 20000 in
theorem ok_X11_topOf (l : Launch) : ce_OkL l cX11_topOf RX11 1 (some .int) 1 0 0 pc_X11_topOf 0 tb_X11_topOf := by
  unfold tb_X11_topOf
  refine ok_c (j := 1) rfl (ok_iload_n (j := ⟨0, by decide⟩) (pc := 0) rfl rfl (by decide +kernel)) ?_
  refine ok_c (j := 2) rfl (ok_ifne (off := 8) (tg := 9) (pc := 1) rfl rfl (by decide +kernel) rfl (by decide)) ?_
  refine ok_c (j := 3) rfl (ok_bipush (n := 9) (pc := 4) rfl rfl (by decide +kernel) (by decide)) ?_
  refine ok_c (j := 4) rfl (ok_goto (off := 16) (tg := 22) (pc := 6) rfl (by decide +kernel) rfl (by decide)) ?_
  refine ok_c (j := 5) rfl (ok_iload_n (j := ⟨0, by decide⟩) (pc := 9) rfl rfl (by decide +kernel)) ?_
  refine ok_c (j := 6) rfl (ok_iconst (n := 1) (pc := 10) rfl rfl (by decide +kernel) (by decide)) ?_
  refine ok_c (j := 7) rfl (ok_cmpne (off := 8) (tg := 19) (pc := 11) rfl rfl (by decide +kernel) rfl (by decide)) ?_
  refine ok_c (j := 8) rfl (ok_bipush (n := 23) (pc := 14) rfl rfl (by decide +kernel) (by decide)) ?_
  refine ok_c (j := 9) rfl (ok_goto (off := 6) (tg := 22) (pc := 16) rfl (by decide +kernel) rfl (by decide)) ?_
  refine ok_c (j := 10) rfl (ok_sipush (n := 1999) (pc := 19) rfl rfl (by decide +kernel) (by decide)) ?_
  refine ok_c (j := 11) rfl (ok_iret (pc := 22) rfl (by decide +kernel) rfl) ?_
  exact trivial
noncomputable def F_X11_topOf := ce_fI tb_X11_topOf 1 none
theorem ct_X11_topOf (l : Launch) : ce_callee l yX11_topOf 1 1 0 0 (ce_wI F_X11_topOf) := ⟨_, _, _, ce_ctr_of (pcs := pc_X11_topOf) (by decide +kernel) rfl (ok_X11_topOf l ) ce_fI_run, ce_tw_at wd_532 rfl, by decide, by decide +kernel, by decide +kernel, by decide +kernel⟩
def pc_X11_commonDivisor : List Nat := [0, 1, 2, 3, 4, 5, 7, 9, 11, 14, 15, 18, 19, 20, 21, 23, 24, 25, 27, 28, 31, 34, 35, 36, 39]
noncomputable def tb_X11_commonDivisor : List ce_Op := [o_iload 0, o_istore 2, o_iload 1, o_istore 3, o_int 0, o_istore 4, o_iload 4, o_int 64, o_cmpge 21, o_iload 3, o_ifeq 21, o_iload 2, o_iload 3, o_rem, o_istore 5, o_iload 3, o_istore 2, o_iload 5, o_istore 3, o_iinc 4 1, o_goto 6, o_int 1, o_iload 2, o_mmax, o_iret]
theorem tl_X11_commonDivisor : ce_TL tb_X11_commonDivisor := by
  unfold tb_X11_commonDivisor
  refine tl_c ta_iload ?_
  refine tl_c ta_istore ?_
  refine tl_c ta_iload ?_
  refine tl_c ta_istore ?_
  refine tl_c ta_int ?_
  refine tl_c ta_istore ?_
  refine tl_c ta_iload ?_
  refine tl_c ta_int ?_
  refine tl_c ta_cmpge ?_
  refine tl_c ta_iload ?_
  refine tl_c ta_ifeq ?_
  refine tl_c ta_iload ?_
  refine tl_c ta_iload ?_
  refine tl_c ta_rem ?_
  refine tl_c ta_istore ?_
  refine tl_c ta_iload ?_
  refine tl_c ta_istore ?_
  refine tl_c ta_iload ?_
  refine tl_c ta_istore ?_
  refine tl_c ta_iinc ?_
  refine tl_c ta_goto ?_
  refine tl_c ta_int ?_
  refine tl_c ta_iload ?_
  refine tl_c ta_mmax ?_
  refine tl_c ta_iret ?_
  exact trivial
set_option maxRecDepth 20000 in
theorem ok_X11_commonDivisor (l : Launch) : ce_OkL l cX11_commonDivisor RX11 6 (some .int) 2 0 0 pc_X11_commonDivisor 0 tb_X11_commonDivisor := by
  unfold tb_X11_commonDivisor
  refine ok_c (j := 1) rfl (ok_iload_n (j := ⟨0, by decide⟩) (pc := 0) rfl rfl (by decide +kernel)) ?_
  refine ok_c (j := 2) rfl (ok_istore_n (j := ⟨2, by decide⟩) (pc := 1) rfl rfl (by decide +kernel) (by decide)) ?_
  refine ok_c (j := 3) rfl (ok_iload_n (j := ⟨1, by decide⟩) (pc := 2) rfl rfl (by decide +kernel)) ?_
  refine ok_c (j := 4) rfl (ok_istore_n (j := ⟨3, by decide⟩) (pc := 3) rfl rfl (by decide +kernel) (by decide)) ?_
  refine ok_c (j := 5) rfl (ok_iconst (n := 0) (pc := 4) rfl rfl (by decide +kernel) (by decide)) ?_
  refine ok_c (j := 6) rfl (ok_istore (j := 4) (pc := 5) rfl rfl (by decide +kernel) (by decide)) ?_
  refine ok_c (j := 7) rfl (ok_iload (j := 4) (pc := 7) rfl rfl (by decide +kernel)) ?_
  refine ok_c (j := 8) rfl (ok_bipush (n := 64) (pc := 9) rfl rfl (by decide +kernel) (by decide)) ?_
  refine ok_c (j := 9) rfl (ok_cmpge (off := 23) (tg := 34) (pc := 11) rfl rfl (by decide +kernel) rfl (by decide)) ?_
  refine ok_c (j := 10) rfl (ok_iload_n (j := ⟨3, by decide⟩) (pc := 14) rfl rfl (by decide +kernel)) ?_
  refine ok_c (j := 11) rfl (ok_ifeq (off := 19) (tg := 34) (pc := 15) rfl rfl (by decide +kernel) rfl (by decide)) ?_
  refine ok_c (j := 12) rfl (ok_iload_n (j := ⟨2, by decide⟩) (pc := 18) rfl rfl (by decide +kernel)) ?_
  refine ok_c (j := 13) rfl (ok_iload_n (j := ⟨3, by decide⟩) (pc := 19) rfl rfl (by decide +kernel)) ?_
  refine ok_c (j := 14) rfl (ok_irem (pc := 20) rfl rfl (by decide +kernel)) ?_
  refine ok_c (j := 15) rfl (ok_istore (j := 5) (pc := 21) rfl rfl (by decide +kernel) (by decide)) ?_
  refine ok_c (j := 16) rfl (ok_iload_n (j := ⟨3, by decide⟩) (pc := 23) rfl rfl (by decide +kernel)) ?_
  refine ok_c (j := 17) rfl (ok_istore_n (j := ⟨2, by decide⟩) (pc := 24) rfl rfl (by decide +kernel) (by decide)) ?_
  refine ok_c (j := 18) rfl (ok_iload (j := 5) (pc := 25) rfl rfl (by decide +kernel)) ?_
  refine ok_c (j := 19) rfl (ok_istore_n (j := ⟨3, by decide⟩) (pc := 27) rfl rfl (by decide +kernel) (by decide)) ?_
  refine ok_c (j := 20) rfl (ok_iinc (n := 1) (pc := 28) rfl rfl (by decide +kernel) (by decide) (by decide)) ?_
  refine ok_c (j := 21) rfl (ok_goto (off := (-24)) (tg := 7) (pc := 31) rfl (by decide +kernel) rfl (by decide)) ?_
  refine ok_c (j := 22) rfl (ok_iconst (n := 1) (pc := 34) rfl rfl (by decide +kernel) (by decide)) ?_
  refine ok_c (j := 23) rfl (ok_iload_n (j := ⟨2, by decide⟩) (pc := 35) rfl rfl (by decide +kernel)) ?_
  refine ok_c (j := 24) rfl (ok_mmax (ix := 290) (pc := 36) rfl rfl (by decide +kernel) (by decide) wd_389 wd_390 wd_72 wd_391) ?_
  refine ok_c (j := 25) rfl (ok_iret (pc := 39) rfl (by decide +kernel) rfl) ?_
  exact trivial
noncomputable def F_X11_commonDivisor := ce_fI tb_X11_commonDivisor 6 none
theorem ct_X11_commonDivisor (l : Launch) : ce_callee l yX11_commonDivisor 2 2 0 0 (ce_wI F_X11_commonDivisor) := ⟨_, _, _, ce_ctr_of (pcs := pc_X11_commonDivisor) (by decide +kernel) rfl (ok_X11_commonDivisor l ) ce_fI_run, ce_tw_at wd_752 rfl, by decide, by decide +kernel, by decide +kernel, by decide +kernel⟩
def pc_X11_isUnder : List Nat := [0, 1, 40, 41, 42, 43, 46, 47, 48, 51, 52, 53, 56, 57, 58, 61, 62, 63, 66, 67, 68]
noncomputable def tb_X11_isUnder : List ce_Op := [o_iload 1, o_sw [(0, 2), (1, 4), (2, 7), (3, 10), (4, 13), (5, 16)] 19, o_int 1, o_zret, o_aload 0, o_inst (ce_isU RX2), o_zret, o_aload 0, o_inst (ce_isU RX8), o_zret, o_aload 0, o_inst (ce_isU RX7), o_zret, o_aload 0, o_inst (ce_isU RX0), o_zret, o_aload 0, o_inst (ce_isU RX1), o_zret, o_int 0, o_zret]
theorem tl_X11_isUnder : ce_TL tb_X11_isUnder := by
  unfold tb_X11_isUnder
  refine tl_c ta_iload ?_
  refine tl_c ta_sw ?_
  refine tl_c ta_int ?_
  refine tl_c ta_zret ?_
  refine tl_c ta_aload ?_
  refine tl_c ta_inst ?_
  refine tl_c ta_zret ?_
  refine tl_c ta_aload ?_
  refine tl_c ta_inst ?_
  refine tl_c ta_zret ?_
  refine tl_c ta_aload ?_
  refine tl_c ta_inst ?_
  refine tl_c ta_zret ?_
  refine tl_c ta_aload ?_
  refine tl_c ta_inst ?_
  refine tl_c ta_zret ?_
  refine tl_c ta_aload ?_
  refine tl_c ta_inst ?_
  refine tl_c ta_zret ?_
  refine tl_c ta_int ?_
  refine tl_c ta_zret ?_
  exact trivial
set_option maxRecDepth 20000 in
theorem ok_X11_isUnder (l : Launch) : ce_OkL l cX11_isUnder RX11 2 (some .boolean) 1 0 0 pc_X11_isUnder 0 tb_X11_isUnder := by
  unfold tb_X11_isUnder
  refine ok_c (j := 1) rfl (ok_iload_n (j := ⟨1, by decide⟩) (pc := 0) rfl rfl (by decide +kernel)) ?_
  refine ok_c (j := 2) rfl (ok_sw (lo := 0) (hi := 5) (dflt := 66) (offs := #[39, 41, 46, 51, 56, 61]) (len := 39) (pc := 1) rfl (by decide +kernel) (by decide +kernel) (by decide) (by decide)) ?_
  refine ok_c (j := 3) rfl (ok_iconst (n := 1) (pc := 40) rfl rfl (by decide +kernel) (by decide)) ?_
  refine ok_c (j := 4) rfl (ok_zret (pc := 41) rfl (by decide +kernel) rfl) ?_
  refine ok_c (j := 5) rfl (ok_aload_n (j := ⟨0, by decide⟩) (pc := 42) rfl rfl (by decide +kernel)) ?_
  refine ok_c (j := 6) rfl (ok_inst (ix := 57) (pc := 43) rfl rfl (by decide +kernel) (by decide +kernel) (fun _ => rfl) wd_140) ?_
  refine ok_c (j := 7) rfl (ok_zret (pc := 46) rfl (by decide +kernel) rfl) ?_
  refine ok_c (j := 8) rfl (ok_aload_n (j := ⟨0, by decide⟩) (pc := 47) rfl rfl (by decide +kernel)) ?_
  refine ok_c (j := 9) rfl (ok_inst (ix := 60) (pc := 48) rfl rfl (by decide +kernel) (by decide +kernel) (fun _ => rfl) wd_147) ?_
  refine ok_c (j := 10) rfl (ok_zret (pc := 51) rfl (by decide +kernel) rfl) ?_
  refine ok_c (j := 11) rfl (ok_aload_n (j := ⟨0, by decide⟩) (pc := 52) rfl rfl (by decide +kernel)) ?_
  refine ok_c (j := 12) rfl (ok_inst (ix := 63) (pc := 53) rfl rfl (by decide +kernel) (by decide +kernel) (fun _ => rfl) wd_154) ?_
  refine ok_c (j := 13) rfl (ok_zret (pc := 56) rfl (by decide +kernel) rfl) ?_
  refine ok_c (j := 14) rfl (ok_aload_n (j := ⟨0, by decide⟩) (pc := 57) rfl rfl (by decide +kernel)) ?_
  refine ok_c (j := 15) rfl (ok_inst (ix := 66) (pc := 58) rfl rfl (by decide +kernel) (by decide +kernel) (fun _ => rfl) wd_161) ?_
  refine ok_c (j := 16) rfl (ok_zret (pc := 61) rfl (by decide +kernel) rfl) ?_
  refine ok_c (j := 17) rfl (ok_aload_n (j := ⟨0, by decide⟩) (pc := 62) rfl rfl (by decide +kernel)) ?_
  refine ok_c (j := 18) rfl (ok_inst (ix := 69) (pc := 63) rfl rfl (by decide +kernel) (by decide +kernel) (fun _ => rfl) wd_168) ?_
  refine ok_c (j := 19) rfl (ok_zret (pc := 66) rfl (by decide +kernel) rfl) ?_
  refine ok_c (j := 20) rfl (ok_iconst (n := 0) (pc := 67) rfl rfl (by decide +kernel) (by decide)) ?_
  refine ok_c (j := 21) rfl (ok_zret (pc := 68) rfl (by decide +kernel) rfl) ?_
  exact trivial
noncomputable def F_X11_isUnder := ce_fI tb_X11_isUnder 2 none
theorem ct_X11_isUnder (l : Launch) : ce_callee l yX11_isUnder 2 1 0 0 (ce_wI F_X11_isUnder) := ⟨_, _, _, ce_ctr_of (pcs := pc_X11_isUnder) (by decide +kernel) rfl (ok_X11_isUnder l ) ce_fI_run, ce_tw_at wd_807 rfl, by decide, by decide +kernel, by decide +kernel, by decide +kernel⟩
def pc_X10_named : List Nat := [0, 1, 36, 37, 40, 41, 42, 45, 46, 47, 50, 51, 52, 53, 54, 57, 58, 59, 62]
noncomputable def tb_X10_named : List ce_Op := [o_iload 0, o_sw [((-5), 13), ((-4), 11), ((-3), 8), ((-2), 5), ((-1), 2)] 16, o_aload 1, o_getI 11 2, o_iret, o_aload 2, o_getI 12 0, o_iret, o_aload 2, o_getI 12 1, o_iret, o_iload 3, o_iret, o_aload 1, o_getI 11 4, o_iret, o_aload 1, o_getI 11 5, o_iret]
theorem tl_X10_named : ce_TL tb_X10_named := by
  unfold tb_X10_named
  refine tl_c ta_iload ?_
  refine tl_c ta_sw ?_
  refine tl_c ta_aload ?_
  refine tl_c ta_getI ?_
  refine tl_c ta_iret ?_
  refine tl_c ta_aload ?_
  refine tl_c ta_getI ?_
  refine tl_c ta_iret ?_
  refine tl_c ta_aload ?_
  refine tl_c ta_getI ?_
  refine tl_c ta_iret ?_
  refine tl_c ta_iload ?_
  refine tl_c ta_iret ?_
  refine tl_c ta_aload ?_
  refine tl_c ta_getI ?_
  refine tl_c ta_iret ?_
  refine tl_c ta_aload ?_
  refine tl_c ta_getI ?_
  refine tl_c ta_iret ?_
  exact trivial
set_option maxRecDepth 20000 in
theorem ok_X10_named (l : Launch) : ce_OkL l cX10_named RX10 4 (some .int) 1 0 0 pc_X10_named 0 tb_X10_named := by
  unfold tb_X10_named
  refine ok_c (j := 1) rfl (ok_iload_n (j := ⟨0, by decide⟩) (pc := 0) rfl rfl (by decide +kernel)) ?_
  refine ok_c (j := 2) rfl (ok_sw (lo := (-5)) (hi := (-1)) (dflt := 57) (offs := #[52, 50, 45, 40, 35]) (len := 35) (pc := 1) rfl (by decide +kernel) (by decide +kernel) (by decide) (by decide)) ?_
  refine ok_c (j := 3) rfl (ok_aload_n (j := ⟨1, by decide⟩) (pc := 36) rfl rfl (by decide +kernel)) ?_
  refine ok_c (j := 4) rfl (ok_getI (ci := 5) (C := RX5) (T := TX5) (N := 8) (ix := 48) (pc := 37) rfl rfl (by decide +kernel) rfl (fun _ => rfl) rfl cw_X5 (by decide) rfl wd_185) ?_
  refine ok_c (j := 5) rfl (ok_iret (pc := 40) rfl (by decide +kernel) rfl) ?_
  refine ok_c (j := 6) rfl (ok_aload_n (j := ⟨2, by decide⟩) (pc := 41) rfl rfl (by decide +kernel)) ?_
  refine ok_c (j := 7) rfl (ok_getI (ci := 4) (C := RX4) (T := TX4) (N := 5) (ix := 53) (pc := 42) rfl rfl (by decide +kernel) rfl (fun _ => rfl) rfl cw_X4 (by decide) rfl wd_419) ?_
  refine ok_c (j := 8) rfl (ok_iret (pc := 45) rfl (by decide +kernel) rfl) ?_
  refine ok_c (j := 9) rfl (ok_aload_n (j := ⟨2, by decide⟩) (pc := 46) rfl rfl (by decide +kernel)) ?_
  refine ok_c (j := 10) rfl (ok_getI (ci := 4) (C := RX4) (T := TX4) (N := 5) (ix := 58) (pc := 47) rfl rfl (by decide +kernel) rfl (fun _ => rfl) rfl cw_X4 (by decide) rfl wd_422) ?_
  refine ok_c (j := 11) rfl (ok_iret (pc := 50) rfl (by decide +kernel) rfl) ?_
  refine ok_c (j := 12) rfl (ok_iload_n (j := ⟨3, by decide⟩) (pc := 51) rfl rfl (by decide +kernel)) ?_
  refine ok_c (j := 13) rfl (ok_iret (pc := 52) rfl (by decide +kernel) rfl) ?_
  refine ok_c (j := 14) rfl (ok_aload_n (j := ⟨1, by decide⟩) (pc := 53) rfl rfl (by decide +kernel)) ?_
  refine ok_c (j := 15) rfl (ok_getI (ci := 5) (C := RX5) (T := TX5) (N := 8) (ix := 61) (pc := 54) rfl rfl (by decide +kernel) rfl (fun _ => rfl) rfl cw_X5 (by decide) rfl wd_190) ?_
  refine ok_c (j := 16) rfl (ok_iret (pc := 57) rfl (by decide +kernel) rfl) ?_
  refine ok_c (j := 17) rfl (ok_aload_n (j := ⟨1, by decide⟩) (pc := 58) rfl rfl (by decide +kernel)) ?_
  refine ok_c (j := 18) rfl (ok_getI (ci := 5) (C := RX5) (T := TX5) (N := 8) (ix := 64) (pc := 59) rfl rfl (by decide +kernel) rfl (fun _ => rfl) rfl cw_X5 (by decide) rfl wd_193) ?_
  refine ok_c (j := 19) rfl (ok_iret (pc := 62) rfl (by decide +kernel) rfl) ?_
  exact trivial
noncomputable def F_X10_named := ce_fI tb_X10_named 4 none
theorem ct_X10_named (l : Launch) : ce_callee l yX10_named 4 1 0 0 (ce_wI F_X10_named) := ⟨_, _, _, ce_ctr_of (pcs := pc_X10_named) (by decide +kernel) rfl (ok_X10_named l ) ce_fI_run, ce_tw_at wd_509 rfl, by decide, by decide +kernel, by decide +kernel, by decide +kernel⟩
def pc_X10_joined : List Nat := [0, 1, 40, 41, 44, 45, 48, 49, 52, 53, 54, 55, 58, 59, 62, 63, 66, 67, 68, 69, 70, 73, 74, 77, 78, 79, 80, 81, 84, 85, 88, 89, 90, 91, 92, 93, 94, 95, 96, 97, 98, 99, 100, 101]
noncomputable def tb_X10_joined : List ce_Op := [o_iload 0, o_sw [((-14), 36), ((-13), 32), ((-12), 25), ((-11), 18), ((-10), 10), ((-9), 2)] 40, o_iload 1, o_ifne 6, o_iload 2, o_ifeq 8, o_int 1, o_goto 9, o_int 0, o_iret, o_iload 1, o_ifeq 16, o_iload 2, o_ifeq 16, o_int 1, o_goto 17, o_int 0, o_iret, o_iload 1, o_iload 2, o_cmpge 23, o_int 1, o_goto 24, o_int 0, o_iret, o_iload 1, o_iload 2, o_cmpne 30, o_int 1, o_goto 31, o_int 0, o_iret, o_iload 1, o_iload 2, o_bin q_add, o_iret, o_iload 1, o_iload 2, o_bin q_sub, o_iret, o_iload 1, o_iload 2, o_bin q_mul, o_iret]
theorem tl_X10_joined : ce_TL tb_X10_joined := by
  unfold tb_X10_joined
  refine tl_c ta_iload ?_
  refine tl_c ta_sw ?_
  refine tl_c ta_iload ?_
  refine tl_c ta_ifne ?_
  refine tl_c ta_iload ?_
  refine tl_c ta_ifeq ?_
  refine tl_c ta_int ?_
  refine tl_c ta_goto ?_
  refine tl_c ta_int ?_
  refine tl_c ta_iret ?_
  refine tl_c ta_iload ?_
  refine tl_c ta_ifeq ?_
  refine tl_c ta_iload ?_
  refine tl_c ta_ifeq ?_
  refine tl_c ta_int ?_
  refine tl_c ta_goto ?_
  refine tl_c ta_int ?_
  refine tl_c ta_iret ?_
  refine tl_c ta_iload ?_
  refine tl_c ta_iload ?_
  refine tl_c ta_cmpge ?_
  refine tl_c ta_int ?_
  refine tl_c ta_goto ?_
  refine tl_c ta_int ?_
  refine tl_c ta_iret ?_
  refine tl_c ta_iload ?_
  refine tl_c ta_iload ?_
  refine tl_c ta_cmpne ?_
  refine tl_c ta_int ?_
  refine tl_c ta_goto ?_
  refine tl_c ta_int ?_
  refine tl_c ta_iret ?_
  refine tl_c ta_iload ?_
  refine tl_c ta_iload ?_
  refine tl_c ta_bin ?_
  refine tl_c ta_iret ?_
  refine tl_c ta_iload ?_
  refine tl_c ta_iload ?_
  refine tl_c ta_bin ?_
  refine tl_c ta_iret ?_
  refine tl_c ta_iload ?_
  refine tl_c ta_iload ?_
  refine tl_c ta_bin ?_
  refine tl_c ta_iret ?_
  exact trivial
set_option maxRecDepth 20000 in
theorem ok_X10_joined (l : Launch) : ce_OkL l cX10_joined RX10 3 (some .int) 1 0 0 pc_X10_joined 0 tb_X10_joined := by
  unfold tb_X10_joined
  refine ok_c (j := 1) rfl (ok_iload_n (j := ⟨0, by decide⟩) (pc := 0) rfl rfl (by decide +kernel)) ?_
  refine ok_c (j := 2) rfl (ok_sw (lo := (-14)) (hi := (-9)) (dflt := 97) (offs := #[93, 89, 78, 67, 53, 39]) (len := 39) (pc := 1) rfl (by decide +kernel) (by decide +kernel) (by decide) (by decide)) ?_
  refine ok_c (j := 3) rfl (ok_iload_n (j := ⟨1, by decide⟩) (pc := 40) rfl rfl (by decide +kernel)) ?_
  refine ok_c (j := 4) rfl (ok_ifne (off := 7) (tg := 48) (pc := 41) rfl rfl (by decide +kernel) rfl (by decide)) ?_
  refine ok_c (j := 5) rfl (ok_iload_n (j := ⟨2, by decide⟩) (pc := 44) rfl rfl (by decide +kernel)) ?_
  refine ok_c (j := 6) rfl (ok_ifeq (off := 7) (tg := 52) (pc := 45) rfl rfl (by decide +kernel) rfl (by decide)) ?_
  refine ok_c (j := 7) rfl (ok_iconst (n := 1) (pc := 48) rfl rfl (by decide +kernel) (by decide)) ?_
  refine ok_c (j := 8) rfl (ok_goto (off := 4) (tg := 53) (pc := 49) rfl (by decide +kernel) rfl (by decide)) ?_
  refine ok_c (j := 9) rfl (ok_iconst (n := 0) (pc := 52) rfl rfl (by decide +kernel) (by decide)) ?_
  refine ok_c (j := 10) rfl (ok_iret (pc := 53) rfl (by decide +kernel) rfl) ?_
  refine ok_c (j := 11) rfl (ok_iload_n (j := ⟨1, by decide⟩) (pc := 54) rfl rfl (by decide +kernel)) ?_
  refine ok_c (j := 12) rfl (ok_ifeq (off := 11) (tg := 66) (pc := 55) rfl rfl (by decide +kernel) rfl (by decide)) ?_
  refine ok_c (j := 13) rfl (ok_iload_n (j := ⟨2, by decide⟩) (pc := 58) rfl rfl (by decide +kernel)) ?_
  refine ok_c (j := 14) rfl (ok_ifeq (off := 7) (tg := 66) (pc := 59) rfl rfl (by decide +kernel) rfl (by decide)) ?_
  refine ok_c (j := 15) rfl (ok_iconst (n := 1) (pc := 62) rfl rfl (by decide +kernel) (by decide)) ?_
  refine ok_c (j := 16) rfl (ok_goto (off := 4) (tg := 67) (pc := 63) rfl (by decide +kernel) rfl (by decide)) ?_
  refine ok_c (j := 17) rfl (ok_iconst (n := 0) (pc := 66) rfl rfl (by decide +kernel) (by decide)) ?_
  refine ok_c (j := 18) rfl (ok_iret (pc := 67) rfl (by decide +kernel) rfl) ?_
  refine ok_c (j := 19) rfl (ok_iload_n (j := ⟨1, by decide⟩) (pc := 68) rfl rfl (by decide +kernel)) ?_
  refine ok_c (j := 20) rfl (ok_iload_n (j := ⟨2, by decide⟩) (pc := 69) rfl rfl (by decide +kernel)) ?_
  refine ok_c (j := 21) rfl (ok_cmpge (off := 7) (tg := 77) (pc := 70) rfl rfl (by decide +kernel) rfl (by decide)) ?_
  refine ok_c (j := 22) rfl (ok_iconst (n := 1) (pc := 73) rfl rfl (by decide +kernel) (by decide)) ?_
  refine ok_c (j := 23) rfl (ok_goto (off := 4) (tg := 78) (pc := 74) rfl (by decide +kernel) rfl (by decide)) ?_
  refine ok_c (j := 24) rfl (ok_iconst (n := 0) (pc := 77) rfl rfl (by decide +kernel) (by decide)) ?_
  refine ok_c (j := 25) rfl (ok_iret (pc := 78) rfl (by decide +kernel) rfl) ?_
  refine ok_c (j := 26) rfl (ok_iload_n (j := ⟨1, by decide⟩) (pc := 79) rfl rfl (by decide +kernel)) ?_
  refine ok_c (j := 27) rfl (ok_iload_n (j := ⟨2, by decide⟩) (pc := 80) rfl rfl (by decide +kernel)) ?_
  refine ok_c (j := 28) rfl (ok_cmpne (off := 7) (tg := 88) (pc := 81) rfl rfl (by decide +kernel) rfl (by decide)) ?_
  refine ok_c (j := 29) rfl (ok_iconst (n := 1) (pc := 84) rfl rfl (by decide +kernel) (by decide)) ?_
  refine ok_c (j := 30) rfl (ok_goto (off := 4) (tg := 89) (pc := 85) rfl (by decide +kernel) rfl (by decide)) ?_
  refine ok_c (j := 31) rfl (ok_iconst (n := 0) (pc := 88) rfl rfl (by decide +kernel) (by decide)) ?_
  refine ok_c (j := 32) rfl (ok_iret (pc := 89) rfl (by decide +kernel) rfl) ?_
  refine ok_c (j := 33) rfl (ok_iload_n (j := ⟨1, by decide⟩) (pc := 90) rfl rfl (by decide +kernel)) ?_
  refine ok_c (j := 34) rfl (ok_iload_n (j := ⟨2, by decide⟩) (pc := 91) rfl rfl (by decide +kernel)) ?_
  refine ok_c (j := 35) rfl (ok_iadd (pc := 92) rfl rfl (by decide +kernel)) ?_
  refine ok_c (j := 36) rfl (ok_iret (pc := 93) rfl (by decide +kernel) rfl) ?_
  refine ok_c (j := 37) rfl (ok_iload_n (j := ⟨1, by decide⟩) (pc := 94) rfl rfl (by decide +kernel)) ?_
  refine ok_c (j := 38) rfl (ok_iload_n (j := ⟨2, by decide⟩) (pc := 95) rfl rfl (by decide +kernel)) ?_
  refine ok_c (j := 39) rfl (ok_isub (pc := 96) rfl rfl (by decide +kernel)) ?_
  refine ok_c (j := 40) rfl (ok_iret (pc := 97) rfl (by decide +kernel) rfl) ?_
  refine ok_c (j := 41) rfl (ok_iload_n (j := ⟨1, by decide⟩) (pc := 98) rfl rfl (by decide +kernel)) ?_
  refine ok_c (j := 42) rfl (ok_iload_n (j := ⟨2, by decide⟩) (pc := 99) rfl rfl (by decide +kernel)) ?_
  refine ok_c (j := 43) rfl (ok_imul (pc := 100) rfl rfl (by decide +kernel)) ?_
  refine ok_c (j := 44) rfl (ok_iret (pc := 101) rfl (by decide +kernel) rfl) ?_
  exact trivial
noncomputable def F_X10_joined := ce_fI tb_X10_joined 3 none
theorem ct_X10_joined (l : Launch) : ce_callee l yX10_joined 3 1 0 0 (ce_wI F_X10_joined) := ⟨_, _, _, ce_ctr_of (pcs := pc_X10_joined) (by decide +kernel) rfl (ok_X10_joined l ) ce_fI_run, ce_tw_at wd_512 rfl, by decide, by decide +kernel, by decide +kernel, by decide +kernel⟩
def pc_X10_value : List Nat := [0, 1, 3, 4, 5, 8, 10, 12, 13, 16, 18, 19, 22, 23, 26, 27, 30, 32, 33, 35, 37, 39, 42, 44, 45, 48, 49, 52, 53, 56, 58, 60, 63, 65, 68, 70, 71, 73, 75, 78, 79, 82, 85, 87, 89, 92, 94, 95, 98, 99, 102, 104, 105, 106, 107, 109, 110, 113, 115, 116, 117, 119, 121, 124, 126, 127, 130, 132, 135, 136, 139, 140, 141, 144, 146, 147, 150, 153, 154, 157, 159, 160, 161, 163, 164, 167, 169, 170, 171, 172, 173, 176, 178, 179, 182, 183, 186, 189, 191, 194, 195, 198, 200, 201, 202, 203, 206, 207]
noncomputable def tb_X10_value : List ce_Op := [o_int 0, o_istore 6, o_int 0, o_iload 1, o_mmax, o_istore 7, o_iload 7, o_iload 2, o_cmpge 97, o_iload 7, o_aload 0, o_getS 13 14 (ce_k0), o_alen 14, o_cmpge 97, o_aload 0, o_getS 13 14 (ce_k0), o_iload 7, o_ild 14, o_istore 8, o_iload 8, o_int (-6), o_cmplt 42, o_iload 6, o_aload 0, o_getS 13 17 (ce_k0), o_alen 17, o_cmpge 95, o_aload 0, o_getS 13 17 (ce_k0), o_iload 6, o_iload 8, o_iflt 34, o_iload 8, o_goto 39, o_iload 8, o_aload 3, o_aload 4, o_iload 5, o_ci 4 F_X10_named 0 0 0 0, o_ist 17, o_iinc 6 1, o_goto 95, o_iload 8, o_int (-8), o_cmplt 73, o_iload 6, o_int 1, o_cmplt 95, o_aload 0, o_getS 13 17 (ce_k0), o_iload 6, o_int 1, o_bin q_sub, o_ild 17, o_istore 9, o_aload 0, o_getS 13 17 (ce_k0), o_iload 6, o_int 1, o_bin q_sub, o_iload 8, o_int (-8), o_cmpne 66, o_iload 9, o_un q_neg, o_goto 71, o_iload 9, o_ifne 70, o_int 1, o_goto 71, o_int 0, o_ist 17, o_goto 95, o_iload 6, o_int 2, o_cmplt 95, o_iinc 6 (-1), o_aload 0, o_getS 13 17 (ce_k0), o_iload 6, o_int 1, o_bin q_sub, o_iload 8, o_aload 0, o_getS 13 17 (ce_k0), o_iload 6, o_int 1, o_bin q_sub, o_ild 17, o_aload 0, o_getS 13 17 (ce_k0), o_iload 6, o_ild 17, o_ci 3 F_X10_joined 0 0 0 0, o_ist 17, o_iinc 7 1, o_goto 6, o_iload 6, o_ifle 106, o_aload 0, o_getS 13 17 (ce_k0), o_iload 6, o_int 1, o_bin q_sub, o_ild 17, o_goto 107, o_int 0, o_iret]
theorem tl_X10_value : ce_TL tb_X10_value := by
  unfold tb_X10_value
  refine tl_c ta_int ?_
  refine tl_c ta_istore ?_
  refine tl_c ta_int ?_
  refine tl_c ta_iload ?_
  refine tl_c ta_mmax ?_
  refine tl_c ta_istore ?_
  refine tl_c ta_iload ?_
  refine tl_c ta_iload ?_
  refine tl_c ta_cmpge ?_
  refine tl_c ta_iload ?_
  refine tl_c ta_aload ?_
  refine tl_c ta_getS ?_
  refine tl_c ta_alen ?_
  refine tl_c ta_cmpge ?_
  refine tl_c ta_aload ?_
  refine tl_c ta_getS ?_
  refine tl_c ta_iload ?_
  refine tl_c ta_ild ?_
  refine tl_c ta_istore ?_
  refine tl_c ta_iload ?_
  refine tl_c ta_int ?_
  refine tl_c ta_cmplt ?_
  refine tl_c ta_iload ?_
  refine tl_c ta_aload ?_
  refine tl_c ta_getS ?_
  refine tl_c ta_alen ?_
  refine tl_c ta_cmpge ?_
  refine tl_c ta_aload ?_
  refine tl_c ta_getS ?_
  refine tl_c ta_iload ?_
  refine tl_c ta_iload ?_
  refine tl_c ta_iflt ?_
  refine tl_c ta_iload ?_
  refine tl_c ta_goto ?_
  refine tl_c ta_iload ?_
  refine tl_c ta_aload ?_
  refine tl_c ta_aload ?_
  refine tl_c ta_iload ?_
  refine tl_c ta_ci ?_
  refine tl_c ta_ist ?_
  refine tl_c ta_iinc ?_
  refine tl_c ta_goto ?_
  refine tl_c ta_iload ?_
  refine tl_c ta_int ?_
  refine tl_c ta_cmplt ?_
  refine tl_c ta_iload ?_
  refine tl_c ta_int ?_
  refine tl_c ta_cmplt ?_
  refine tl_c ta_aload ?_
  refine tl_c ta_getS ?_
  refine tl_c ta_iload ?_
  refine tl_c ta_int ?_
  refine tl_c ta_bin ?_
  refine tl_c ta_ild ?_
  refine tl_c ta_istore ?_
  refine tl_c ta_aload ?_
  refine tl_c ta_getS ?_
  refine tl_c ta_iload ?_
  refine tl_c ta_int ?_
  refine tl_c ta_bin ?_
  refine tl_c ta_iload ?_
  refine tl_c ta_int ?_
  refine tl_c ta_cmpne ?_
  refine tl_c ta_iload ?_
  refine tl_c ta_un ?_
  refine tl_c ta_goto ?_
  refine tl_c ta_iload ?_
  refine tl_c ta_ifne ?_
  refine tl_c ta_int ?_
  refine tl_c ta_goto ?_
  refine tl_c ta_int ?_
  refine tl_c ta_ist ?_
  refine tl_c ta_goto ?_
  refine tl_c ta_iload ?_
  refine tl_c ta_int ?_
  refine tl_c ta_cmplt ?_
  refine tl_c ta_iinc ?_
  refine tl_c ta_aload ?_
  refine tl_c ta_getS ?_
  refine tl_c ta_iload ?_
  refine tl_c ta_int ?_
  refine tl_c ta_bin ?_
  refine tl_c ta_iload ?_
  refine tl_c ta_aload ?_
  refine tl_c ta_getS ?_
  refine tl_c ta_iload ?_
  refine tl_c ta_int ?_
  refine tl_c ta_bin ?_
  refine tl_c ta_ild ?_
  refine tl_c ta_aload ?_
  refine tl_c ta_getS ?_
  refine tl_c ta_iload ?_
  refine tl_c ta_ild ?_
  refine tl_c ta_ci ?_
  refine tl_c ta_ist ?_
  refine tl_c ta_iinc ?_
  refine tl_c ta_goto ?_
  refine tl_c ta_iload ?_
  refine tl_c ta_ifle ?_
  refine tl_c ta_aload ?_
  refine tl_c ta_getS ?_
  refine tl_c ta_iload ?_
  refine tl_c ta_int ?_
  refine tl_c ta_bin ?_
  refine tl_c ta_ild ?_
  refine tl_c ta_goto ?_
  refine tl_c ta_int ?_
  refine tl_c ta_iret ?_
  exact trivial
set_option maxRecDepth 20000 in
theorem ok_X10_value (l : Launch) : ce_OkL l cX10_value RX10 10 (some .int) 2 0 0 pc_X10_value 0 tb_X10_value := by
  unfold tb_X10_value
  refine ok_c (j := 1) rfl (ok_iconst (n := 0) (pc := 0) rfl rfl (by decide +kernel) (by decide)) ?_
  refine ok_c (j := 2) rfl (ok_istore (j := 6) (pc := 1) rfl rfl (by decide +kernel) (by decide)) ?_
  refine ok_c (j := 3) rfl (ok_iconst (n := 0) (pc := 3) rfl rfl (by decide +kernel) (by decide)) ?_
  refine ok_c (j := 4) rfl (ok_iload_n (j := ⟨1, by decide⟩) (pc := 4) rfl rfl (by decide +kernel)) ?_
  refine ok_c (j := 5) rfl (ok_mmax (ix := 35) (pc := 5) rfl rfl (by decide +kernel) (by decide) wd_506 wd_390 wd_72 wd_391) ?_
  refine ok_c (j := 6) rfl (ok_istore (j := 7) (pc := 8) rfl rfl (by decide +kernel) (by decide)) ?_
  refine ok_c (j := 7) rfl (ok_iload (j := 7) (pc := 10) rfl rfl (by decide +kernel)) ?_
  refine ok_c (j := 8) rfl (ok_iload_n (j := ⟨2, by decide⟩) (pc := 12) rfl rfl (by decide +kernel)) ?_
  refine ok_c (j := 9) rfl (ok_cmpge (off := 176) (tg := 189) (pc := 13) rfl rfl (by decide +kernel) rfl (by decide)) ?_
  refine ok_c (j := 10) rfl (ok_iload (j := 7) (pc := 16) rfl rfl (by decide +kernel)) ?_
  refine ok_c (j := 11) rfl (ok_aload_n (j := ⟨0, by decide⟩) (pc := 18) rfl rfl (by decide +kernel)) ?_
  refine ok_c (j := 12) rfl (ok_getS (f := 0) (ci := 10) (C := RX10) (T := TX10) (N := 4) (ix := 13) (pc := 19) rfl rfl (by decide +kernel) rfl (fun _ => rfl) rfl cw_X10 (by decide) rfl wd_395) ?_
  refine ok_c (j := 13) rfl (ok_alen (pc := 22) rfl rfl (by decide +kernel) (by decide)) ?_
  refine ok_c (j := 14) rfl (ok_cmpge (off := 166) (tg := 189) (pc := 23) rfl rfl (by decide +kernel) rfl (by decide)) ?_
  refine ok_c (j := 15) rfl (ok_aload_n (j := ⟨0, by decide⟩) (pc := 26) rfl rfl (by decide +kernel)) ?_
  refine ok_c (j := 16) rfl (ok_getS (f := 0) (ci := 10) (C := RX10) (T := TX10) (N := 4) (ix := 13) (pc := 27) rfl rfl (by decide +kernel) rfl (fun _ => rfl) rfl cw_X10 (by decide) rfl wd_395) ?_
  refine ok_c (j := 17) rfl (ok_iload (j := 7) (pc := 30) rfl rfl (by decide +kernel)) ?_
  refine ok_c (j := 18) rfl (ok_ild (pc := 32) rfl rfl (by decide +kernel) rfl) ?_
  refine ok_c (j := 19) rfl (ok_istore (j := 8) (pc := 33) rfl rfl (by decide +kernel) (by decide)) ?_
  refine ok_c (j := 20) rfl (ok_iload (j := 8) (pc := 35) rfl rfl (by decide +kernel)) ?_
  refine ok_c (j := 21) rfl (ok_bipush (n := (-6)) (pc := 37) rfl rfl (by decide +kernel) (by decide)) ?_
  refine ok_c (j := 22) rfl (ok_cmplt (off := 46) (tg := 85) (pc := 39) rfl rfl (by decide +kernel) rfl (by decide)) ?_
  refine ok_c (j := 23) rfl (ok_iload (j := 6) (pc := 42) rfl rfl (by decide +kernel)) ?_
  refine ok_c (j := 24) rfl (ok_aload_n (j := ⟨0, by decide⟩) (pc := 44) rfl rfl (by decide +kernel)) ?_
  refine ok_c (j := 25) rfl (ok_getS (f := 3) (ci := 10) (C := RX10) (T := TX10) (N := 4) (ix := 19) (pc := 45) rfl rfl (by decide +kernel) rfl (fun _ => rfl) rfl cw_X10 (by decide) rfl wd_401) ?_
  refine ok_c (j := 26) rfl (ok_alen (pc := 48) rfl rfl (by decide +kernel) (by decide)) ?_
  refine ok_c (j := 27) rfl (ok_cmpge (off := 134) (tg := 183) (pc := 49) rfl rfl (by decide +kernel) rfl (by decide)) ?_
  refine ok_c (j := 28) rfl (ok_aload_n (j := ⟨0, by decide⟩) (pc := 52) rfl rfl (by decide +kernel)) ?_
  refine ok_c (j := 29) rfl (ok_getS (f := 3) (ci := 10) (C := RX10) (T := TX10) (N := 4) (ix := 19) (pc := 53) rfl rfl (by decide +kernel) rfl (fun _ => rfl) rfl cw_X10 (by decide) rfl wd_401) ?_
  refine ok_c (j := 30) rfl (ok_iload (j := 6) (pc := 56) rfl rfl (by decide +kernel)) ?_
  refine ok_c (j := 31) rfl (ok_iload (j := 8) (pc := 58) rfl rfl (by decide +kernel)) ?_
  refine ok_c (j := 32) rfl (ok_iflt (off := 8) (tg := 68) (pc := 60) rfl rfl (by decide +kernel) rfl (by decide)) ?_
  refine ok_c (j := 33) rfl (ok_iload (j := 8) (pc := 63) rfl rfl (by decide +kernel)) ?_
  refine ok_c (j := 34) rfl (ok_goto (off := 13) (tg := 78) (pc := 65) rfl (by decide +kernel) rfl (by decide)) ?_
  refine ok_c (j := 35) rfl (ok_iload (j := 8) (pc := 68) rfl rfl (by decide +kernel)) ?_
  refine ok_c (j := 36) rfl (ok_aload_n (j := ⟨3, by decide⟩) (pc := 70) rfl rfl (by decide +kernel)) ?_
  refine ok_c (j := 37) rfl (ok_aload (j := 4) (pc := 71) rfl rfl (by decide +kernel)) ?_
  refine ok_c (j := 38) rfl (ok_iload (j := 5) (pc := 73) rfl rfl (by decide +kernel)) ?_
  refine ok_c (j := 39) rfl (ok_static (y := yX10_named) (n := 4) (d' := 1) (ix := 41) is_ci (pc := 75) rfl rfl (by decide +kernel) (by decide) rfl (ct_X10_named l) wd_507 wd_508 wd_71) ?_
  refine ok_c (j := 40) rfl (ok_ist (pc := 78) rfl rfl (by decide +kernel) rfl) ?_
  refine ok_c (j := 41) rfl (ok_iinc (n := 1) (pc := 79) rfl rfl (by decide +kernel) (by decide) (by decide)) ?_
  refine ok_c (j := 42) rfl (ok_goto (off := 101) (tg := 183) (pc := 82) rfl (by decide +kernel) rfl (by decide)) ?_
  refine ok_c (j := 43) rfl (ok_iload (j := 8) (pc := 85) rfl rfl (by decide +kernel)) ?_
  refine ok_c (j := 44) rfl (ok_bipush (n := (-8)) (pc := 87) rfl rfl (by decide +kernel) (by decide)) ?_
  refine ok_c (j := 45) rfl (ok_cmplt (off := 55) (tg := 144) (pc := 89) rfl rfl (by decide +kernel) rfl (by decide)) ?_
  refine ok_c (j := 46) rfl (ok_iload (j := 6) (pc := 92) rfl rfl (by decide +kernel)) ?_
  refine ok_c (j := 47) rfl (ok_iconst (n := 1) (pc := 94) rfl rfl (by decide +kernel) (by decide)) ?_
  refine ok_c (j := 48) rfl (ok_cmplt (off := 88) (tg := 183) (pc := 95) rfl rfl (by decide +kernel) rfl (by decide)) ?_
  refine ok_c (j := 49) rfl (ok_aload_n (j := ⟨0, by decide⟩) (pc := 98) rfl rfl (by decide +kernel)) ?_
  refine ok_c (j := 50) rfl (ok_getS (f := 3) (ci := 10) (C := RX10) (T := TX10) (N := 4) (ix := 19) (pc := 99) rfl rfl (by decide +kernel) rfl (fun _ => rfl) rfl cw_X10 (by decide) rfl wd_401) ?_
  refine ok_c (j := 51) rfl (ok_iload (j := 6) (pc := 102) rfl rfl (by decide +kernel)) ?_
  refine ok_c (j := 52) rfl (ok_iconst (n := 1) (pc := 104) rfl rfl (by decide +kernel) (by decide)) ?_
  refine ok_c (j := 53) rfl (ok_isub (pc := 105) rfl rfl (by decide +kernel)) ?_
  refine ok_c (j := 54) rfl (ok_ild (pc := 106) rfl rfl (by decide +kernel) rfl) ?_
  refine ok_c (j := 55) rfl (ok_istore (j := 9) (pc := 107) rfl rfl (by decide +kernel) (by decide)) ?_
  refine ok_c (j := 56) rfl (ok_aload_n (j := ⟨0, by decide⟩) (pc := 109) rfl rfl (by decide +kernel)) ?_
  refine ok_c (j := 57) rfl (ok_getS (f := 3) (ci := 10) (C := RX10) (T := TX10) (N := 4) (ix := 19) (pc := 110) rfl rfl (by decide +kernel) rfl (fun _ => rfl) rfl cw_X10 (by decide) rfl wd_401) ?_
  refine ok_c (j := 58) rfl (ok_iload (j := 6) (pc := 113) rfl rfl (by decide +kernel)) ?_
  refine ok_c (j := 59) rfl (ok_iconst (n := 1) (pc := 115) rfl rfl (by decide +kernel) (by decide)) ?_
  refine ok_c (j := 60) rfl (ok_isub (pc := 116) rfl rfl (by decide +kernel)) ?_
  refine ok_c (j := 61) rfl (ok_iload (j := 8) (pc := 117) rfl rfl (by decide +kernel)) ?_
  refine ok_c (j := 62) rfl (ok_bipush (n := (-8)) (pc := 119) rfl rfl (by decide +kernel) (by decide)) ?_
  refine ok_c (j := 63) rfl (ok_cmpne (off := 9) (tg := 130) (pc := 121) rfl rfl (by decide +kernel) rfl (by decide)) ?_
  refine ok_c (j := 64) rfl (ok_iload (j := 9) (pc := 124) rfl rfl (by decide +kernel)) ?_
  refine ok_c (j := 65) rfl (ok_ineg (pc := 126) rfl rfl (by decide +kernel)) ?_
  refine ok_c (j := 66) rfl (ok_goto (off := 13) (tg := 140) (pc := 127) rfl (by decide +kernel) rfl (by decide)) ?_
  refine ok_c (j := 67) rfl (ok_iload (j := 9) (pc := 130) rfl rfl (by decide +kernel)) ?_
  refine ok_c (j := 68) rfl (ok_ifne (off := 7) (tg := 139) (pc := 132) rfl rfl (by decide +kernel) rfl (by decide)) ?_
  refine ok_c (j := 69) rfl (ok_iconst (n := 1) (pc := 135) rfl rfl (by decide +kernel) (by decide)) ?_
  refine ok_c (j := 70) rfl (ok_goto (off := 4) (tg := 140) (pc := 136) rfl (by decide +kernel) rfl (by decide)) ?_
  refine ok_c (j := 71) rfl (ok_iconst (n := 0) (pc := 139) rfl rfl (by decide +kernel) (by decide)) ?_
  refine ok_c (j := 72) rfl (ok_ist (pc := 140) rfl rfl (by decide +kernel) rfl) ?_
  refine ok_c (j := 73) rfl (ok_goto (off := 42) (tg := 183) (pc := 141) rfl (by decide +kernel) rfl (by decide)) ?_
  refine ok_c (j := 74) rfl (ok_iload (j := 6) (pc := 144) rfl rfl (by decide +kernel)) ?_
  refine ok_c (j := 75) rfl (ok_iconst (n := 2) (pc := 146) rfl rfl (by decide +kernel) (by decide)) ?_
  refine ok_c (j := 76) rfl (ok_cmplt (off := 36) (tg := 183) (pc := 147) rfl rfl (by decide +kernel) rfl (by decide)) ?_
  refine ok_c (j := 77) rfl (ok_iinc (n := (-1)) (pc := 150) rfl rfl (by decide +kernel) (by decide) (by decide)) ?_
  refine ok_c (j := 78) rfl (ok_aload_n (j := ⟨0, by decide⟩) (pc := 153) rfl rfl (by decide +kernel)) ?_
  refine ok_c (j := 79) rfl (ok_getS (f := 3) (ci := 10) (C := RX10) (T := TX10) (N := 4) (ix := 19) (pc := 154) rfl rfl (by decide +kernel) rfl (fun _ => rfl) rfl cw_X10 (by decide) rfl wd_401) ?_
  refine ok_c (j := 80) rfl (ok_iload (j := 6) (pc := 157) rfl rfl (by decide +kernel)) ?_
  refine ok_c (j := 81) rfl (ok_iconst (n := 1) (pc := 159) rfl rfl (by decide +kernel) (by decide)) ?_
  refine ok_c (j := 82) rfl (ok_isub (pc := 160) rfl rfl (by decide +kernel)) ?_
  refine ok_c (j := 83) rfl (ok_iload (j := 8) (pc := 161) rfl rfl (by decide +kernel)) ?_
  refine ok_c (j := 84) rfl (ok_aload_n (j := ⟨0, by decide⟩) (pc := 163) rfl rfl (by decide +kernel)) ?_
  refine ok_c (j := 85) rfl (ok_getS (f := 3) (ci := 10) (C := RX10) (T := TX10) (N := 4) (ix := 19) (pc := 164) rfl rfl (by decide +kernel) rfl (fun _ => rfl) rfl cw_X10 (by decide) rfl wd_401) ?_
  refine ok_c (j := 86) rfl (ok_iload (j := 6) (pc := 167) rfl rfl (by decide +kernel)) ?_
  refine ok_c (j := 87) rfl (ok_iconst (n := 1) (pc := 169) rfl rfl (by decide +kernel) (by decide)) ?_
  refine ok_c (j := 88) rfl (ok_isub (pc := 170) rfl rfl (by decide +kernel)) ?_
  refine ok_c (j := 89) rfl (ok_ild (pc := 171) rfl rfl (by decide +kernel) rfl) ?_
  refine ok_c (j := 90) rfl (ok_aload_n (j := ⟨0, by decide⟩) (pc := 172) rfl rfl (by decide +kernel)) ?_
  refine ok_c (j := 91) rfl (ok_getS (f := 3) (ci := 10) (C := RX10) (T := TX10) (N := 4) (ix := 19) (pc := 173) rfl rfl (by decide +kernel) rfl (fun _ => rfl) rfl cw_X10 (by decide) rfl wd_401) ?_
  refine ok_c (j := 92) rfl (ok_iload (j := 6) (pc := 176) rfl rfl (by decide +kernel)) ?_
  refine ok_c (j := 93) rfl (ok_ild (pc := 178) rfl rfl (by decide +kernel) rfl) ?_
  refine ok_c (j := 94) rfl (ok_static (y := yX10_joined) (n := 3) (d' := 1) (ix := 45) is_ci (pc := 179) rfl rfl (by decide +kernel) (by decide) rfl (ct_X10_joined l) wd_510 wd_511 wd_71) ?_
  refine ok_c (j := 95) rfl (ok_ist (pc := 182) rfl rfl (by decide +kernel) rfl) ?_
  refine ok_c (j := 96) rfl (ok_iinc (n := 1) (pc := 183) rfl rfl (by decide +kernel) (by decide) (by decide)) ?_
  refine ok_c (j := 97) rfl (ok_goto (off := (-176)) (tg := 10) (pc := 186) rfl (by decide +kernel) rfl (by decide)) ?_
  refine ok_c (j := 98) rfl (ok_iload (j := 6) (pc := 189) rfl rfl (by decide +kernel)) ?_
  refine ok_c (j := 99) rfl (ok_ifle (off := 15) (tg := 206) (pc := 191) rfl rfl (by decide +kernel) rfl (by decide)) ?_
  refine ok_c (j := 100) rfl (ok_aload_n (j := ⟨0, by decide⟩) (pc := 194) rfl rfl (by decide +kernel)) ?_
  refine ok_c (j := 101) rfl (ok_getS (f := 3) (ci := 10) (C := RX10) (T := TX10) (N := 4) (ix := 19) (pc := 195) rfl rfl (by decide +kernel) rfl (fun _ => rfl) rfl cw_X10 (by decide) rfl wd_401) ?_
  refine ok_c (j := 102) rfl (ok_iload (j := 6) (pc := 198) rfl rfl (by decide +kernel)) ?_
  refine ok_c (j := 103) rfl (ok_iconst (n := 1) (pc := 200) rfl rfl (by decide +kernel) (by decide)) ?_
  refine ok_c (j := 104) rfl (ok_isub (pc := 201) rfl rfl (by decide +kernel)) ?_
  refine ok_c (j := 105) rfl (ok_ild (pc := 202) rfl rfl (by decide +kernel) rfl) ?_
  refine ok_c (j := 106) rfl (ok_goto (off := 4) (tg := 207) (pc := 203) rfl (by decide +kernel) rfl (by decide)) ?_
  refine ok_c (j := 107) rfl (ok_iconst (n := 0) (pc := 206) rfl rfl (by decide +kernel) (by decide)) ?_
  refine ok_c (j := 108) rfl (ok_iret (pc := 207) rfl (by decide +kernel) rfl) ?_
  exact trivial
noncomputable def F_X10_value := ce_fI tb_X10_value 10 (some 13)
theorem ct_X10_value (l : Launch) : ce_callee l yX10_value 5 2 0 0 (ce_wI F_X10_value) := ⟨_, _, _, ce_ctr_of (pcs := pc_X10_value) (by decide +kernel) rfl (ok_X10_value l ) ce_fI_run, ce_tw_at wd_505 rfl, by decide, by decide +kernel, by decide +kernel, by decide +kernel⟩
