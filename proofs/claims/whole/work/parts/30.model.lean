def pc_X12_isIn : List Nat := [0, 1, 2, 5, 6, 7, 10, 11, 14, 15]
noncomputable def tb_X12_isIn : List ce_Op := [o_iload 0, o_iload 1, o_cmplt 8, o_iload 0, o_iload 2, o_cmpgt 8, o_int 1, o_goto 9, o_int 0, o_zret]
theorem tl_X12_isIn : ce_TL tb_X12_isIn := by
  unfold tb_X12_isIn
  refine tl_c ta_iload ?_
  refine tl_c ta_iload ?_
  refine tl_c ta_cmplt ?_
  refine tl_c ta_iload ?_
  refine tl_c ta_iload ?_
  refine tl_c ta_cmpgt ?_
  refine tl_c ta_int ?_
  refine tl_c ta_goto ?_
  refine tl_c ta_int ?_
  refine tl_c ta_zret ?_
  exact trivial
set_option maxRecDepth 20000 in
theorem ok_X12_isIn (l : Launch) : ce_OkL l cX12_isIn RX12 3 (some .boolean) 1 0 0 pc_X12_isIn 0 tb_X12_isIn := by
  unfold tb_X12_isIn
  refine ok_c (j := 1) rfl (ok_iload_n (j := ⟨0, by decide⟩) (pc := 0) rfl rfl (by decide +kernel)) ?_
  refine ok_c (j := 2) rfl (ok_iload_n (j := ⟨1, by decide⟩) (pc := 1) rfl rfl (by decide +kernel)) ?_
  refine ok_c (j := 3) rfl (ok_cmplt (off := 12) (tg := 14) (pc := 2) rfl rfl (by decide +kernel) rfl (by decide)) ?_
  refine ok_c (j := 4) rfl (ok_iload_n (j := ⟨0, by decide⟩) (pc := 5) rfl rfl (by decide +kernel)) ?_
  refine ok_c (j := 5) rfl (ok_iload_n (j := ⟨2, by decide⟩) (pc := 6) rfl rfl (by decide +kernel)) ?_
  refine ok_c (j := 6) rfl (ok_cmpgt (off := 7) (tg := 14) (pc := 7) rfl rfl (by decide +kernel) rfl (by decide)) ?_
  refine ok_c (j := 7) rfl (ok_iconst (n := 1) (pc := 10) rfl rfl (by decide +kernel) (by decide)) ?_
  refine ok_c (j := 8) rfl (ok_goto (off := 4) (tg := 15) (pc := 11) rfl (by decide +kernel) rfl (by decide)) ?_
  refine ok_c (j := 9) rfl (ok_iconst (n := 0) (pc := 14) rfl rfl (by decide +kernel) (by decide)) ?_
  refine ok_c (j := 10) rfl (ok_zret (pc := 15) rfl (by decide +kernel) rfl) ?_
  exact trivial
noncomputable def F_X12_isIn := ce_fI tb_X12_isIn 3 none
theorem ct_X12_isIn (l : Launch) : ce_callee l yX12_isIn 3 1 0 0 (ce_wI F_X12_isIn) := ⟨_, _, _, ce_ctr_of (pcs := pc_X12_isIn) (by decide +kernel) rfl (ok_X12_isIn l ) ce_fI_run, ce_tw_at wd_966 rfl, by decide, by decide +kernel, by decide +kernel, by decide +kernel⟩
def pc_X12_isSeller : List Nat := [0, 1, 4, 5, 6, 9, 12, 13, 16, 17]
noncomputable def tb_X12_isSeller : List ce_Op := [o_iload 1, o_iflt 8, o_iload 1, o_aload 0, o_getI 20 7, o_cmpge 8, o_int 1, o_goto 9, o_int 0, o_zret]
theorem tl_X12_isSeller : ce_TL tb_X12_isSeller := by
  unfold tb_X12_isSeller
  refine tl_c ta_iload ?_
  refine tl_c ta_iflt ?_
  refine tl_c ta_iload ?_
  refine tl_c ta_aload ?_
  refine tl_c ta_getI ?_
  refine tl_c ta_cmpge ?_
  refine tl_c ta_int ?_
  refine tl_c ta_goto ?_
  refine tl_c ta_int ?_
  refine tl_c ta_zret ?_
  exact trivial
set_option maxRecDepth 20000 in
theorem ok_X12_isSeller (l : Launch) : ce_OkL l cX12_isSeller RX12 2 (some .boolean) 1 0 0 pc_X12_isSeller 0 tb_X12_isSeller := by
  unfold tb_X12_isSeller
  refine ok_c (j := 1) rfl (ok_iload_n (j := ⟨1, by decide⟩) (pc := 0) rfl rfl (by decide +kernel)) ?_
  refine ok_c (j := 2) rfl (ok_iflt (off := 15) (tg := 16) (pc := 1) rfl rfl (by decide +kernel) rfl (by decide)) ?_
  refine ok_c (j := 3) rfl (ok_iload_n (j := ⟨1, by decide⟩) (pc := 4) rfl rfl (by decide +kernel)) ?_
  refine ok_c (j := 4) rfl (ok_aload_n (j := ⟨0, by decide⟩) (pc := 5) rfl rfl (by decide +kernel)) ?_
  refine ok_c (j := 5) rfl (ok_getI (ci := 12) (C := RX12) (T := TX12) (N := 45) (ix := 82) (pc := 6) rfl rfl (by decide +kernel) rfl (fun _ => rfl) rfl cw_X12 (by decide) rfl wd_831) ?_
  refine ok_c (j := 6) rfl (ok_cmpge (off := 7) (tg := 16) (pc := 9) rfl rfl (by decide +kernel) rfl (by decide)) ?_
  refine ok_c (j := 7) rfl (ok_iconst (n := 1) (pc := 12) rfl rfl (by decide +kernel) (by decide)) ?_
  refine ok_c (j := 8) rfl (ok_goto (off := 4) (tg := 17) (pc := 13) rfl (by decide +kernel) rfl (by decide)) ?_
  refine ok_c (j := 9) rfl (ok_iconst (n := 0) (pc := 16) rfl rfl (by decide +kernel) (by decide)) ?_
  refine ok_c (j := 10) rfl (ok_zret (pc := 17) rfl (by decide +kernel) rfl) ?_
  exact trivial
noncomputable def F_X12_isSeller := ce_fI tb_X12_isSeller 2 (some 20)
theorem ct_X12_isSeller (l : Launch) : ce_callee l yX12_isSeller 1 1 0 0 (ce_wI F_X12_isSeller) := ⟨_, _, _, ce_ctr_of (pcs := pc_X12_isSeller) (by decide +kernel) rfl (ok_X12_isSeller l ) ce_fI_run, ce_tw_at wd_1065 rfl, by decide, by decide +kernel, by decide +kernel, by decide +kernel⟩
def pc_X12_writes : List Nat := [0, 1, 4, 7, 8, 11, 12, 13, 16, 17, 20, 21, 22, 23, 24, 25, 28, 29, 32, 33, 34, 35, 36, 37]
noncomputable def tb_X12_writes : List ce_Op := [o_aload 0, o_getS 20 29 (fun _ => 0), o_int 170, o_aload 0, o_getI 20 26, o_bin q_mul, o_aload 0, o_getS 20 30 (fun _ => 0), o_aload 0, o_getI 20 26, o_ild 30, o_bin q_add, o_iload 1, o_ist 29, o_aload 0, o_getS 20 30 (fun _ => 0), o_aload 0, o_getI 20 26, o_dup2, o_ild 30, o_int 1, o_bin q_add, o_ist 30, o_vret]
theorem tl_X12_writes : ce_TL tb_X12_writes := by
  unfold tb_X12_writes
  refine tl_c ta_aload ?_
  refine tl_c ta_getS ?_
  refine tl_c ta_int ?_
  refine tl_c ta_aload ?_
  refine tl_c ta_getI ?_
  refine tl_c ta_bin ?_
  refine tl_c ta_aload ?_
  refine tl_c ta_getS ?_
  refine tl_c ta_aload ?_
  refine tl_c ta_getI ?_
  refine tl_c ta_ild ?_
  refine tl_c ta_bin ?_
  refine tl_c ta_iload ?_
  refine tl_c ta_ist ?_
  refine tl_c ta_aload ?_
  refine tl_c ta_getS ?_
  refine tl_c ta_aload ?_
  refine tl_c ta_getI ?_
  refine tl_c ta_dup2 ?_
  refine tl_c ta_ild ?_
  refine tl_c ta_int ?_
  refine tl_c ta_bin ?_
  refine tl_c ta_ist ?_
  refine tl_c ta_vret ?_
  exact trivial
set_option maxRecDepth 20000 in
theorem ok_X12_writes (l : Launch) : ce_OkL l cX12_writes RX12 2 none 1 0 0 pc_X12_writes 0 tb_X12_writes := by
  unfold tb_X12_writes
  refine ok_c (j := 1) rfl (ok_aload_n (j := ⟨0, by decide⟩) (pc := 0) rfl rfl (by decide +kernel)) ?_
  refine ok_c (j := 2) rfl (ok_getS (f := 14) (ci := 12) (C := RX12) (T := TX12) (N := 45) (ix := 49) (pc := 1) rfl rfl (by decide +kernel) rfl (fun _ => rfl) rfl cw_X12 (by decide) rfl wd_838) ?_
  refine ok_c (j := 3) rfl (ok_sipush (n := 170) (pc := 4) rfl rfl (by decide +kernel) (by decide)) ?_
  refine ok_c (j := 4) rfl (ok_aload_n (j := ⟨0, by decide⟩) (pc := 7) rfl rfl (by decide +kernel)) ?_
  refine ok_c (j := 5) rfl (ok_getI (ci := 12) (C := RX12) (T := TX12) (N := 45) (ix := 85) (pc := 8) rfl rfl (by decide +kernel) rfl (fun _ => rfl) rfl cw_X12 (by decide) rfl wd_850) ?_
  refine ok_c (j := 6) rfl (ok_imul (pc := 11) rfl rfl (by decide +kernel)) ?_
  refine ok_c (j := 7) rfl (ok_aload_n (j := ⟨0, by decide⟩) (pc := 12) rfl rfl (by decide +kernel)) ?_
  refine ok_c (j := 8) rfl (ok_getS (f := 15) (ci := 12) (C := RX12) (T := TX12) (N := 45) (ix := 52) (pc := 13) rfl rfl (by decide +kernel) rfl (fun _ => rfl) rfl cw_X12 (by decide) rfl wd_839) ?_
  refine ok_c (j := 9) rfl (ok_aload_n (j := ⟨0, by decide⟩) (pc := 16) rfl rfl (by decide +kernel)) ?_
  refine ok_c (j := 10) rfl (ok_getI (ci := 12) (C := RX12) (T := TX12) (N := 45) (ix := 85) (pc := 17) rfl rfl (by decide +kernel) rfl (fun _ => rfl) rfl cw_X12 (by decide) rfl wd_850) ?_
  refine ok_c (j := 11) rfl (ok_ild (pc := 20) rfl rfl (by decide +kernel) rfl) ?_
  refine ok_c (j := 12) rfl (ok_iadd (pc := 21) rfl rfl (by decide +kernel)) ?_
  refine ok_c (j := 13) rfl (ok_iload_n (j := ⟨1, by decide⟩) (pc := 22) rfl rfl (by decide +kernel)) ?_
  refine ok_c (j := 14) rfl (ok_ist (pc := 23) rfl rfl (by decide +kernel) rfl) ?_
  refine ok_c (j := 15) rfl (ok_aload_n (j := ⟨0, by decide⟩) (pc := 24) rfl rfl (by decide +kernel)) ?_
  refine ok_c (j := 16) rfl (ok_getS (f := 15) (ci := 12) (C := RX12) (T := TX12) (N := 45) (ix := 52) (pc := 25) rfl rfl (by decide +kernel) rfl (fun _ => rfl) rfl cw_X12 (by decide) rfl wd_839) ?_
  refine ok_c (j := 17) rfl (ok_aload_n (j := ⟨0, by decide⟩) (pc := 28) rfl rfl (by decide +kernel)) ?_
  refine ok_c (j := 18) rfl (ok_getI (ci := 12) (C := RX12) (T := TX12) (N := 45) (ix := 85) (pc := 29) rfl rfl (by decide +kernel) rfl (fun _ => rfl) rfl cw_X12 (by decide) rfl wd_850) ?_
  refine ok_c (j := 19) rfl (ok_dup2 (pc := 32) rfl rfl (by decide +kernel)) ?_
  refine ok_c (j := 20) rfl (ok_ild (pc := 33) rfl rfl (by decide +kernel) rfl) ?_
  refine ok_c (j := 21) rfl (ok_iconst (n := 1) (pc := 34) rfl rfl (by decide +kernel) (by decide)) ?_
  refine ok_c (j := 22) rfl (ok_iadd (pc := 35) rfl rfl (by decide +kernel)) ?_
  refine ok_c (j := 23) rfl (ok_ist (pc := 36) rfl rfl (by decide +kernel) rfl) ?_
  refine ok_c (j := 24) rfl (ok_vret (pc := 37) rfl (by decide +kernel) rfl) ?_
  exact trivial
noncomputable def F_X12_writes := ce_fV tb_X12_writes 2 (some 20)
theorem ct_X12_writes (l : Launch) : ce_callee l yX12_writes 1 1 0 0 (ce_wV F_X12_writes) := ⟨_, _, _, ce_ctr_of (pcs := pc_X12_writes) (by decide +kernel) rfl (ok_X12_writes l ) ce_fV_run, ce_tw_at wd_823 rfl, by decide, by decide +kernel, by decide +kernel, by decide +kernel⟩
def pc_X12_isSign : List Nat := [0, 1, 3, 6, 7, 9, 12, 13, 15, 18, 19, 21, 24, 25, 27, 30, 31, 33, 36, 37, 39, 42, 43, 45, 48, 49, 52, 53]
noncomputable def tb_X12_isSign : List ce_Op := [o_iload 0, o_int 40, o_cmpeq 24, o_iload 0, o_int 41, o_cmpeq 24, o_iload 0, o_int 59, o_cmpeq 24, o_iload 0, o_int 43, o_cmpeq 24, o_iload 0, o_int 45, o_cmpeq 24, o_iload 0, o_int 42, o_cmpeq 24, o_iload 0, o_int 60, o_cmpeq 24, o_iload 0, o_int 61, o_cmpne 26, o_int 1, o_goto 27, o_int 0, o_zret]
theorem tl_X12_isSign : ce_TL tb_X12_isSign := by
  unfold tb_X12_isSign
  refine tl_c ta_iload ?_
  refine tl_c ta_int ?_
  refine tl_c ta_cmpeq ?_
  refine tl_c ta_iload ?_
  refine tl_c ta_int ?_
  refine tl_c ta_cmpeq ?_
  refine tl_c ta_iload ?_
  refine tl_c ta_int ?_
  refine tl_c ta_cmpeq ?_
  refine tl_c ta_iload ?_
  refine tl_c ta_int ?_
  refine tl_c ta_cmpeq ?_
  refine tl_c ta_iload ?_
  refine tl_c ta_int ?_
  refine tl_c ta_cmpeq ?_
  refine tl_c ta_iload ?_
  refine tl_c ta_int ?_
  refine tl_c ta_cmpeq ?_
  refine tl_c ta_iload ?_
  refine tl_c ta_int ?_
  refine tl_c ta_cmpeq ?_
  refine tl_c ta_iload ?_
  refine tl_c ta_int ?_
  refine tl_c ta_cmpne ?_
  refine tl_c ta_int ?_
  refine tl_c ta_goto ?_
  refine tl_c ta_int ?_
  refine tl_c ta_zret ?_
  exact trivial
set_option maxRecDepth 20000 in
theorem ok_X12_isSign (l : Launch) : ce_OkL l cX12_isSign RX12 1 (some .boolean) 1 0 0 pc_X12_isSign 0 tb_X12_isSign := by
  unfold tb_X12_isSign
  refine ok_c (j := 1) rfl (ok_iload_n (j := ⟨0, by decide⟩) (pc := 0) rfl rfl (by decide +kernel)) ?_
  refine ok_c (j := 2) rfl (ok_bipush (n := 40) (pc := 1) rfl rfl (by decide +kernel) (by decide)) ?_
  refine ok_c (j := 3) rfl (ok_cmpeq (off := 45) (tg := 48) (pc := 3) rfl rfl (by decide +kernel) rfl (by decide)) ?_
  refine ok_c (j := 4) rfl (ok_iload_n (j := ⟨0, by decide⟩) (pc := 6) rfl rfl (by decide +kernel)) ?_
  refine ok_c (j := 5) rfl (ok_bipush (n := 41) (pc := 7) rfl rfl (by decide +kernel) (by decide)) ?_
  refine ok_c (j := 6) rfl (ok_cmpeq (off := 39) (tg := 48) (pc := 9) rfl rfl (by decide +kernel) rfl (by decide)) ?_
  refine ok_c (j := 7) rfl (ok_iload_n (j := ⟨0, by decide⟩) (pc := 12) rfl rfl (by decide +kernel)) ?_
  refine ok_c (j := 8) rfl (ok_bipush (n := 59) (pc := 13) rfl rfl (by decide +kernel) (by decide)) ?_
  refine ok_c (j := 9) rfl (ok_cmpeq (off := 33) (tg := 48) (pc := 15) rfl rfl (by decide +kernel) rfl (by decide)) ?_
  refine ok_c (j := 10) rfl (ok_iload_n (j := ⟨0, by decide⟩) (pc := 18) rfl rfl (by decide +kernel)) ?_
  refine ok_c (j := 11) rfl (ok_bipush (n := 43) (pc := 19) rfl rfl (by decide +kernel) (by decide)) ?_
  refine ok_c (j := 12) rfl (ok_cmpeq (off := 27) (tg := 48) (pc := 21) rfl rfl (by decide +kernel) rfl (by decide)) ?_
  refine ok_c (j := 13) rfl (ok_iload_n (j := ⟨0, by decide⟩) (pc := 24) rfl rfl (by decide +kernel)) ?_
  refine ok_c (j := 14) rfl (ok_bipush (n := 45) (pc := 25) rfl rfl (by decide +kernel) (by decide)) ?_
  refine ok_c (j := 15) rfl (ok_cmpeq (off := 21) (tg := 48) (pc := 27) rfl rfl (by decide +kernel) rfl (by decide)) ?_
  refine ok_c (j := 16) rfl (ok_iload_n (j := ⟨0, by decide⟩) (pc := 30) rfl rfl (by decide +kernel)) ?_
  refine ok_c (j := 17) rfl (ok_bipush (n := 42) (pc := 31) rfl rfl (by decide +kernel) (by decide)) ?_
  refine ok_c (j := 18) rfl (ok_cmpeq (off := 15) (tg := 48) (pc := 33) rfl rfl (by decide +kernel) rfl (by decide)) ?_
  refine ok_c (j := 19) rfl (ok_iload_n (j := ⟨0, by decide⟩) (pc := 36) rfl rfl (by decide +kernel)) ?_
  refine ok_c (j := 20) rfl (ok_bipush (n := 60) (pc := 37) rfl rfl (by decide +kernel) (by decide)) ?_
  refine ok_c (j := 21) rfl (ok_cmpeq (off := 9) (tg := 48) (pc := 39) rfl rfl (by decide +kernel) rfl (by decide)) ?_
  refine ok_c (j := 22) rfl (ok_iload_n (j := ⟨0, by decide⟩) (pc := 42) rfl rfl (by decide +kernel)) ?_
  refine ok_c (j := 23) rfl (ok_bipush (n := 61) (pc := 43) rfl rfl (by decide +kernel) (by decide)) ?_
  refine ok_c (j := 24) rfl (ok_cmpne (off := 7) (tg := 52) (pc := 45) rfl rfl (by decide +kernel) rfl (by decide)) ?_
  refine ok_c (j := 25) rfl (ok_iconst (n := 1) (pc := 48) rfl rfl (by decide +kernel) (by decide)) ?_
  refine ok_c (j := 26) rfl (ok_goto (off := 4) (tg := 53) (pc := 49) rfl (by decide +kernel) rfl (by decide)) ?_
  refine ok_c (j := 27) rfl (ok_iconst (n := 0) (pc := 52) rfl rfl (by decide +kernel) (by decide)) ?_
  refine ok_c (j := 28) rfl (ok_zret (pc := 53) rfl (by decide +kernel) rfl) ?_
  exact trivial
noncomputable def F_X12_isSign := ce_fI tb_X12_isSign 1 none
theorem ct_X12_isSign (l : Launch) : ce_callee l yX12_isSign 1 1 0 0 (ce_wI F_X12_isSign) := ⟨_, _, _, ce_ctr_of (pcs := pc_X12_isSign) (by decide +kernel) rfl (ok_X12_isSign l ) ce_fI_run, ce_tw_at wd_985 rfl, by decide, by decide +kernel, by decide +kernel, by decide +kernel⟩
def pc_X12_isWord : List Nat := [0, 1, 4, 5, 8, 9, 10, 11, 14, 15, 16, 17, 18, 19, 20, 21, 24, 25, 28, 29, 32, 33, 34, 35, 36, 37, 38, 41, 42, 43, 46, 49, 50]
noncomputable def tb_X12_isWord : List ce_Op := [o_aload 0, o_getI 20 20, o_aload 0, o_getI 20 22, o_bin q_sub, o_aload 1, o_alen 41, o_cmpeq 10, o_int 0, o_zret, o_int 0, o_istore 2, o_iload 2, o_aload 1, o_alen 41, o_cmpge 31, o_aload 0, o_getS 20 28 (fun _ => 0), o_aload 0, o_getI 20 22, o_iload 2, o_bin q_add, o_ild 28, o_aload 1, o_iload 2, o_ild 41, o_cmpeq 29, o_int 0, o_zret, o_iinc 2 1, o_goto 12, o_int 1, o_zret]
theorem tl_X12_isWord : ce_TL tb_X12_isWord := by
  unfold tb_X12_isWord
  refine tl_c ta_aload ?_
  refine tl_c ta_getI ?_
  refine tl_c ta_aload ?_
  refine tl_c ta_getI ?_
  refine tl_c ta_bin ?_
  refine tl_c ta_aload ?_
  refine tl_c ta_alen ?_
  refine tl_c ta_cmpeq ?_
  refine tl_c ta_int ?_
  refine tl_c ta_zret ?_
  refine tl_c ta_int ?_
  refine tl_c ta_istore ?_
  refine tl_c ta_iload ?_
  refine tl_c ta_aload ?_
  refine tl_c ta_alen ?_
  refine tl_c ta_cmpge ?_
  refine tl_c ta_aload ?_
  refine tl_c ta_getS ?_
  refine tl_c ta_aload ?_
  refine tl_c ta_getI ?_
  refine tl_c ta_iload ?_
  refine tl_c ta_bin ?_
  refine tl_c ta_ild ?_
  refine tl_c ta_aload ?_
  refine tl_c ta_iload ?_
  refine tl_c ta_ild ?_
  refine tl_c ta_cmpeq ?_
  refine tl_c ta_int ?_
  refine tl_c ta_zret ?_
  refine tl_c ta_iinc ?_
  refine tl_c ta_goto ?_
  refine tl_c ta_int ?_
  refine tl_c ta_zret ?_
  exact trivial
set_option maxRecDepth 20000 in
theorem ok_X12_isWord (l : Launch) : ce_OkL l cX12_isWord RX12 3 (some .boolean) 1 0 0 pc_X12_isWord 0 tb_X12_isWord := by
  unfold tb_X12_isWord
  refine ok_c (j := 1) rfl (ok_aload_n (j := ⟨0, by decide⟩) (pc := 0) rfl rfl (by decide +kernel)) ?_
  refine ok_c (j := 2) rfl (ok_getI (ci := 12) (C := RX12) (T := TX12) (N := 45) (ix := 99) (pc := 1) rfl rfl (by decide +kernel) rfl (fun _ => rfl) rfl cw_X12 (by decide) rfl wd_844) ?_
  refine ok_c (j := 3) rfl (ok_aload_n (j := ⟨0, by decide⟩) (pc := 4) rfl rfl (by decide +kernel)) ?_
  refine ok_c (j := 4) rfl (ok_getI (ci := 12) (C := RX12) (T := TX12) (N := 45) (ix := 102) (pc := 5) rfl rfl (by decide +kernel) rfl (fun _ => rfl) rfl cw_X12 (by decide) rfl wd_846) ?_
  refine ok_c (j := 5) rfl (ok_isub (pc := 8) rfl rfl (by decide +kernel)) ?_
  refine ok_c (j := 6) rfl (ok_aload_n (j := ⟨1, by decide⟩) (pc := 9) rfl rfl (by decide +kernel)) ?_
  refine ok_c (j := 7) rfl (ok_alen (pc := 10) rfl rfl (by decide +kernel) (by decide)) ?_
  refine ok_c (j := 8) rfl (ok_cmpeq (off := 5) (tg := 16) (pc := 11) rfl rfl (by decide +kernel) rfl (by decide)) ?_
  refine ok_c (j := 9) rfl (ok_iconst (n := 0) (pc := 14) rfl rfl (by decide +kernel) (by decide)) ?_
  refine ok_c (j := 10) rfl (ok_zret (pc := 15) rfl (by decide +kernel) rfl) ?_
  refine ok_c (j := 11) rfl (ok_iconst (n := 0) (pc := 16) rfl rfl (by decide +kernel) (by decide)) ?_
  refine ok_c (j := 12) rfl (ok_istore_n (j := ⟨2, by decide⟩) (pc := 17) rfl rfl (by decide +kernel) (by decide)) ?_
  refine ok_c (j := 13) rfl (ok_iload_n (j := ⟨2, by decide⟩) (pc := 18) rfl rfl (by decide +kernel)) ?_
  refine ok_c (j := 14) rfl (ok_aload_n (j := ⟨1, by decide⟩) (pc := 19) rfl rfl (by decide +kernel)) ?_
  refine ok_c (j := 15) rfl (ok_alen (pc := 20) rfl rfl (by decide +kernel) (by decide)) ?_
  refine ok_c (j := 16) rfl (ok_cmpge (off := 28) (tg := 49) (pc := 21) rfl rfl (by decide +kernel) rfl (by decide)) ?_
  refine ok_c (j := 17) rfl (ok_aload_n (j := ⟨0, by decide⟩) (pc := 24) rfl rfl (by decide +kernel)) ?_
  refine ok_c (j := 18) rfl (ok_getS (f := 13) (ci := 12) (C := RX12) (T := TX12) (N := 45) (ix := 46) (pc := 25) rfl rfl (by decide +kernel) rfl (fun _ => rfl) rfl cw_X12 (by decide) rfl wd_837) ?_
  refine ok_c (j := 19) rfl (ok_aload_n (j := ⟨0, by decide⟩) (pc := 28) rfl rfl (by decide +kernel)) ?_
  refine ok_c (j := 20) rfl (ok_getI (ci := 12) (C := RX12) (T := TX12) (N := 45) (ix := 102) (pc := 29) rfl rfl (by decide +kernel) rfl (fun _ => rfl) rfl cw_X12 (by decide) rfl wd_846) ?_
  refine ok_c (j := 21) rfl (ok_iload_n (j := ⟨2, by decide⟩) (pc := 32) rfl rfl (by decide +kernel)) ?_
  refine ok_c (j := 22) rfl (ok_iadd (pc := 33) rfl rfl (by decide +kernel)) ?_
  refine ok_c (j := 23) rfl (ok_ild (pc := 34) rfl rfl (by decide +kernel) rfl) ?_
  refine ok_c (j := 24) rfl (ok_aload_n (j := ⟨1, by decide⟩) (pc := 35) rfl rfl (by decide +kernel)) ?_
  refine ok_c (j := 25) rfl (ok_iload_n (j := ⟨2, by decide⟩) (pc := 36) rfl rfl (by decide +kernel)) ?_
  refine ok_c (j := 26) rfl (ok_ild (pc := 37) rfl rfl (by decide +kernel) rfl) ?_
  refine ok_c (j := 27) rfl (ok_cmpeq (off := 5) (tg := 43) (pc := 38) rfl rfl (by decide +kernel) rfl (by decide)) ?_
  refine ok_c (j := 28) rfl (ok_iconst (n := 0) (pc := 41) rfl rfl (by decide +kernel) (by decide)) ?_
  refine ok_c (j := 29) rfl (ok_zret (pc := 42) rfl (by decide +kernel) rfl) ?_
  refine ok_c (j := 30) rfl (ok_iinc (n := 1) (pc := 43) rfl rfl (by decide +kernel) (by decide) (by decide)) ?_
  refine ok_c (j := 31) rfl (ok_goto (off := (-28)) (tg := 18) (pc := 46) rfl (by decide +kernel) rfl (by decide)) ?_
  refine ok_c (j := 32) rfl (ok_iconst (n := 1) (pc := 49) rfl rfl (by decide +kernel) (by decide)) ?_
  refine ok_c (j := 33) rfl (ok_zret (pc := 50) rfl (by decide +kernel) rfl) ?_
  exact trivial
noncomputable def F_X12_isWord := ce_fI tb_X12_isWord 3 (some 20)
theorem ct_X12_isWord (l : Launch) : ce_callee l yX12_isWord 1 1 0 0 (ce_wI F_X12_isWord) := ⟨_, _, _, ce_ctr_of (pcs := pc_X12_isWord) (by decide +kernel) rfl (ok_X12_isWord l ) ce_fI_run, ce_tw_at wd_982 rfl, by decide, by decide +kernel, by decide +kernel, by decide +kernel⟩
def pc_X12_top : List Nat := [0, 1, 4, 7, 8, 11, 12, 15, 16, 19, 20, 21, 22]
noncomputable def tb_X12_top : List ce_Op := [o_aload 0, o_getI 20 25, o_ifne 5, o_int 0, o_goto 12, o_aload 0, o_getS 20 31 (fun _ => 0), o_aload 0, o_getI 20 25, o_int 1, o_bin q_sub, o_ild 31, o_iret]
theorem tl_X12_top : ce_TL tb_X12_top := by
  unfold tb_X12_top
  refine tl_c ta_aload ?_
  refine tl_c ta_getI ?_
  refine tl_c ta_ifne ?_
  refine tl_c ta_int ?_
  refine tl_c ta_goto ?_
  refine tl_c ta_aload ?_
  refine tl_c ta_getS ?_
  refine tl_c ta_aload ?_
  refine tl_c ta_getI ?_
  refine tl_c ta_int ?_
  refine tl_c ta_bin ?_
  refine tl_c ta_ild ?_
  refine tl_c ta_iret ?_
  exact trivial
set_option maxRecDepth 20000 in
theorem ok_X12_top (l : Launch) : ce_OkL l cX12_top RX12 1 (some .int) 1 0 0 pc_X12_top 0 tb_X12_top := by
  unfold tb_X12_top
  refine ok_c (j := 1) rfl (ok_aload_n (j := ⟨0, by decide⟩) (pc := 0) rfl rfl (by decide +kernel)) ?_
  refine ok_c (j := 2) rfl (ok_getI (ci := 12) (C := RX12) (T := TX12) (N := 45) (ix := 123) (pc := 1) rfl rfl (by decide +kernel) rfl (fun _ => rfl) rfl cw_X12 (by decide) rfl wd_849) ?_
  refine ok_c (j := 3) rfl (ok_ifne (off := 7) (tg := 11) (pc := 4) rfl rfl (by decide +kernel) rfl (by decide)) ?_
  refine ok_c (j := 4) rfl (ok_iconst (n := 0) (pc := 7) rfl rfl (by decide +kernel) (by decide)) ?_
  refine ok_c (j := 5) rfl (ok_goto (off := 14) (tg := 22) (pc := 8) rfl (by decide +kernel) rfl (by decide)) ?_
  refine ok_c (j := 6) rfl (ok_aload_n (j := ⟨0, by decide⟩) (pc := 11) rfl rfl (by decide +kernel)) ?_
  refine ok_c (j := 7) rfl (ok_getS (f := 16) (ci := 12) (C := RX12) (T := TX12) (N := 45) (ix := 55) (pc := 12) rfl rfl (by decide +kernel) rfl (fun _ => rfl) rfl cw_X12 (by decide) rfl wd_840) ?_
  refine ok_c (j := 8) rfl (ok_aload_n (j := ⟨0, by decide⟩) (pc := 15) rfl rfl (by decide +kernel)) ?_
  refine ok_c (j := 9) rfl (ok_getI (ci := 12) (C := RX12) (T := TX12) (N := 45) (ix := 123) (pc := 16) rfl rfl (by decide +kernel) rfl (fun _ => rfl) rfl cw_X12 (by decide) rfl wd_849) ?_
  refine ok_c (j := 10) rfl (ok_iconst (n := 1) (pc := 19) rfl rfl (by decide +kernel) (by decide)) ?_
  refine ok_c (j := 11) rfl (ok_isub (pc := 20) rfl rfl (by decide +kernel)) ?_
  refine ok_c (j := 12) rfl (ok_ild (pc := 21) rfl rfl (by decide +kernel) rfl) ?_
  refine ok_c (j := 13) rfl (ok_iret (pc := 22) rfl (by decide +kernel) rfl) ?_
  exact trivial
noncomputable def F_X12_top := ce_fI tb_X12_top 1 (some 20)
theorem ct_X12_top (l : Launch) : ce_callee l yX12_top 0 1 0 0 (ce_wI F_X12_top) := ⟨_, _, _, ce_ctr_of (pcs := pc_X12_top) (by decide +kernel) rfl (ok_X12_top l ) ce_fI_run, ce_tw_at wd_1001 rfl, by decide, by decide +kernel, by decide +kernel, by decide +kernel⟩
def pc_X12_holds : List Nat := [0, 1, 4, 5, 8, 9, 10, 11, 12, 15, 16, 17, 20]
noncomputable def tb_X12_holds : List ce_Op := [o_aload 0, o_getS 20 31 (fun _ => 0), o_aload 0, o_getI 20 25, o_iload 1, o_ist 31, o_aload 0, o_dup, o_getI 20 25, o_int 1, o_bin q_add, o_putI 20 25, o_vret]
theorem tl_X12_holds : ce_TL tb_X12_holds := by
  unfold tb_X12_holds
  refine tl_c ta_aload ?_
  refine tl_c ta_getS ?_
  refine tl_c ta_aload ?_
  refine tl_c ta_getI ?_
  refine tl_c ta_iload ?_
  refine tl_c ta_ist ?_
  refine tl_c ta_aload ?_
  refine tl_c ta_dup ?_
  refine tl_c ta_getI ?_
  refine tl_c ta_int ?_
  refine tl_c ta_bin ?_
  refine tl_c ta_putI ?_
  refine tl_c ta_vret ?_
  exact trivial
set_option maxRecDepth 20000 in
theorem ok_X12_holds (l : Launch) : ce_OkL l cX12_holds RX12 2 none 1 0 0 pc_X12_holds 0 tb_X12_holds := by
  unfold tb_X12_holds
  refine ok_c (j := 1) rfl (ok_aload_n (j := ⟨0, by decide⟩) (pc := 0) rfl rfl (by decide +kernel)) ?_
  refine ok_c (j := 2) rfl (ok_getS (f := 16) (ci := 12) (C := RX12) (T := TX12) (N := 45) (ix := 55) (pc := 1) rfl rfl (by decide +kernel) rfl (fun _ => rfl) rfl cw_X12 (by decide) rfl wd_840) ?_
  refine ok_c (j := 3) rfl (ok_aload_n (j := ⟨0, by decide⟩) (pc := 4) rfl rfl (by decide +kernel)) ?_
  refine ok_c (j := 4) rfl (ok_getI (ci := 12) (C := RX12) (T := TX12) (N := 45) (ix := 123) (pc := 5) rfl rfl (by decide +kernel) rfl (fun _ => rfl) rfl cw_X12 (by decide) rfl wd_849) ?_
  refine ok_c (j := 5) rfl (ok_iload_n (j := ⟨1, by decide⟩) (pc := 8) rfl rfl (by decide +kernel)) ?_
  refine ok_c (j := 6) rfl (ok_ist (pc := 9) rfl rfl (by decide +kernel) rfl) ?_
  refine ok_c (j := 7) rfl (ok_aload_n (j := ⟨0, by decide⟩) (pc := 10) rfl rfl (by decide +kernel)) ?_
  refine ok_c (j := 8) rfl (ok_dup (pc := 11) rfl rfl (by decide +kernel)) ?_
  refine ok_c (j := 9) rfl (ok_getI (ci := 12) (C := RX12) (T := TX12) (N := 45) (ix := 123) (pc := 12) rfl rfl (by decide +kernel) rfl (fun _ => rfl) rfl cw_X12 (by decide) rfl wd_849) ?_
  refine ok_c (j := 10) rfl (ok_iconst (n := 1) (pc := 15) rfl rfl (by decide +kernel) (by decide)) ?_
  refine ok_c (j := 11) rfl (ok_iadd (pc := 16) rfl rfl (by decide +kernel)) ?_
  refine ok_c (j := 12) rfl (ok_putI (ci := 12) (C := RX12) (T := TX12) (N := 45) (ty := tyX12) (ix := 123) (pc := 17) rfl rfl (by decide +kernel) rfl (fun _ => rfl) rfl cw_X12 tyX12_ok nmX12 (by decide) rfl rfl rfl wd_849) ?_
  refine ok_c (j := 13) rfl (ok_vret (pc := 20) rfl (by decide +kernel) rfl) ?_
  exact trivial
noncomputable def F_X12_holds := ce_fV tb_X12_holds 2 (some 20)
theorem ct_X12_holds (l : Launch) : ce_callee l yX12_holds 1 1 0 0 (ce_wV F_X12_holds) := ⟨_, _, _, ce_ctr_of (pcs := pc_X12_holds) (by decide +kernel) rfl (ok_X12_holds l ) ce_fV_run, ce_tw_at wd_1005 rfl, by decide, by decide +kernel, by decide +kernel, by decide +kernel⟩
def pc_X12_heightOf : List Nat := [0, 1, 52, 53, 54, 55, 56, 57, 58, 59, 60, 61, 62, 64, 65, 67, 68, 69]
noncomputable def tb_X12_heightOf : List ce_Op := [o_iload 0, o_sw [(1, 10), (2, 10), (3, 12), (4, 8), (5, 8), (6, 4), (7, 2), (8, 6), (9, 14)] 16, o_int 1, o_iret, o_int 2, o_iret, o_int 3, o_iret, o_int 4, o_iret, o_int 5, o_iret, o_int 6, o_iret, o_int 7, o_iret, o_int 0, o_iret]
theorem tl_X12_heightOf : ce_TL tb_X12_heightOf := by
  unfold tb_X12_heightOf
  refine tl_c ta_iload ?_
  refine tl_c ta_sw ?_
  refine tl_c ta_int ?_
  refine tl_c ta_iret ?_
  refine tl_c ta_int ?_
  refine tl_c ta_iret ?_
  refine tl_c ta_int ?_
  refine tl_c ta_iret ?_
  refine tl_c ta_int ?_
  refine tl_c ta_iret ?_
  refine tl_c ta_int ?_
  refine tl_c ta_iret ?_
  refine tl_c ta_int ?_
  refine tl_c ta_iret ?_
  refine tl_c ta_int ?_
  refine tl_c ta_iret ?_
  refine tl_c ta_int ?_
  refine tl_c ta_iret ?_
  exact trivial
set_option maxRecDepth 20000 in
theorem ok_X12_heightOf (l : Launch) : ce_OkL l cX12_heightOf RX12 1 (some .int) 1 0 0 pc_X12_heightOf 0 tb_X12_heightOf := by
  unfold tb_X12_heightOf
  refine ok_c (j := 1) rfl (ok_iload_n (j := ⟨0, by decide⟩) (pc := 0) rfl rfl (by decide +kernel)) ?_
  refine ok_c (j := 2) rfl (ok_sw (lo := 1) (hi := 9) (dflt := 67) (offs := #[59, 59, 61, 57, 57, 53, 51, 55, 64]) (len := 51) (pc := 1) rfl (by decide +kernel) (by decide +kernel) (by decide) (by decide)) ?_
  refine ok_c (j := 3) rfl (ok_iconst (n := 1) (pc := 52) rfl rfl (by decide +kernel) (by decide)) ?_
  refine ok_c (j := 4) rfl (ok_iret (pc := 53) rfl (by decide +kernel) rfl) ?_
  refine ok_c (j := 5) rfl (ok_iconst (n := 2) (pc := 54) rfl rfl (by decide +kernel) (by decide)) ?_
  refine ok_c (j := 6) rfl (ok_iret (pc := 55) rfl (by decide +kernel) rfl) ?_
  refine ok_c (j := 7) rfl (ok_iconst (n := 3) (pc := 56) rfl rfl (by decide +kernel) (by decide)) ?_
  refine ok_c (j := 8) rfl (ok_iret (pc := 57) rfl (by decide +kernel) rfl) ?_
  refine ok_c (j := 9) rfl (ok_iconst (n := 4) (pc := 58) rfl rfl (by decide +kernel) (by decide)) ?_
  refine ok_c (j := 10) rfl (ok_iret (pc := 59) rfl (by decide +kernel) rfl) ?_
  refine ok_c (j := 11) rfl (ok_iconst (n := 5) (pc := 60) rfl rfl (by decide +kernel) (by decide)) ?_
  refine ok_c (j := 12) rfl (ok_iret (pc := 61) rfl (by decide +kernel) rfl) ?_
  refine ok_c (j := 13) rfl (ok_bipush (n := 6) (pc := 62) rfl rfl (by decide +kernel) (by decide)) ?_
  refine ok_c (j := 14) rfl (ok_iret (pc := 64) rfl (by decide +kernel) rfl) ?_
  refine ok_c (j := 15) rfl (ok_bipush (n := 7) (pc := 65) rfl rfl (by decide +kernel) (by decide)) ?_
  refine ok_c (j := 16) rfl (ok_iret (pc := 67) rfl (by decide +kernel) rfl) ?_
  refine ok_c (j := 17) rfl (ok_iconst (n := 0) (pc := 68) rfl rfl (by decide +kernel) (by decide)) ?_
  refine ok_c (j := 18) rfl (ok_iret (pc := 69) rfl (by decide +kernel) rfl) ?_
  exact trivial
noncomputable def F_X12_heightOf := ce_fI tb_X12_heightOf 1 none
theorem ct_X12_heightOf (l : Launch) : ce_callee l yX12_heightOf 1 1 0 0 (ce_wI F_X12_heightOf) := ⟨_, _, _, ce_ctr_of (pcs := pc_X12_heightOf) (by decide +kernel) rfl (ok_X12_heightOf l ) ce_fI_run, ce_tw_at wd_1016 rfl, by decide, by decide +kernel, by decide +kernel, by decide +kernel⟩
def pc_X12_deedOf : List Nat := [0, 1, 3, 6, 7, 10, 11, 13, 16, 17, 20, 21, 23, 26, 27, 30, 31, 33, 36, 37, 40, 41, 43, 46, 47, 50, 51]
noncomputable def tb_X12_deedOf : List ce_Op := [o_iload 0, o_int 43, o_cmpne 5, o_int 1, o_goto 26, o_iload 0, o_int 45, o_cmpne 10, o_int 2, o_goto 26, o_iload 0, o_int 42, o_cmpne 15, o_int 3, o_goto 26, o_iload 0, o_int 60, o_cmpne 20, o_int 4, o_goto 26, o_iload 0, o_int 61, o_cmpne 25, o_int 5, o_goto 26, o_int 0, o_iret]
theorem tl_X12_deedOf : ce_TL tb_X12_deedOf := by
  unfold tb_X12_deedOf
  refine tl_c ta_iload ?_
  refine tl_c ta_int ?_
  refine tl_c ta_cmpne ?_
  refine tl_c ta_int ?_
  refine tl_c ta_goto ?_
  refine tl_c ta_iload ?_
  refine tl_c ta_int ?_
  refine tl_c ta_cmpne ?_
  refine tl_c ta_int ?_
  refine tl_c ta_goto ?_
  refine tl_c ta_iload ?_
  refine tl_c ta_int ?_
  refine tl_c ta_cmpne ?_
  refine tl_c ta_int ?_
  refine tl_c ta_goto ?_
  refine tl_c ta_iload ?_
  refine tl_c ta_int ?_
  refine tl_c ta_cmpne ?_
  refine tl_c ta_int ?_
  refine tl_c ta_goto ?_
  refine tl_c ta_iload ?_
  refine tl_c ta_int ?_
  refine tl_c ta_cmpne ?_
  refine tl_c ta_int ?_
  refine tl_c ta_goto ?_
  refine tl_c ta_int ?_
  refine tl_c ta_iret ?_
  exact trivial
set_option maxRecDepth 20000 in
theorem ok_X12_deedOf (l : Launch) : ce_OkL l cX12_deedOf RX12 1 (some .int) 1 0 0 pc_X12_deedOf 0 tb_X12_deedOf := by
  unfold tb_X12_deedOf
  refine ok_c (j := 1) rfl (ok_iload_n (j := ⟨0, by decide⟩) (pc := 0) rfl rfl (by decide +kernel)) ?_
  refine ok_c (j := 2) rfl (ok_bipush (n := 43) (pc := 1) rfl rfl (by decide +kernel) (by decide)) ?_
  refine ok_c (j := 3) rfl (ok_cmpne (off := 7) (tg := 10) (pc := 3) rfl rfl (by decide +kernel) rfl (by decide)) ?_
  refine ok_c (j := 4) rfl (ok_iconst (n := 1) (pc := 6) rfl rfl (by decide +kernel) (by decide)) ?_
  refine ok_c (j := 5) rfl (ok_goto (off := 44) (tg := 51) (pc := 7) rfl (by decide +kernel) rfl (by decide)) ?_
  refine ok_c (j := 6) rfl (ok_iload_n (j := ⟨0, by decide⟩) (pc := 10) rfl rfl (by decide +kernel)) ?_
  refine ok_c (j := 7) rfl (ok_bipush (n := 45) (pc := 11) rfl rfl (by decide +kernel) (by decide)) ?_
  refine ok_c (j := 8) rfl (ok_cmpne (off := 7) (tg := 20) (pc := 13) rfl rfl (by decide +kernel) rfl (by decide)) ?_
  refine ok_c (j := 9) rfl (ok_iconst (n := 2) (pc := 16) rfl rfl (by decide +kernel) (by decide)) ?_
  refine ok_c (j := 10) rfl (ok_goto (off := 34) (tg := 51) (pc := 17) rfl (by decide +kernel) rfl (by decide)) ?_
  refine ok_c (j := 11) rfl (ok_iload_n (j := ⟨0, by decide⟩) (pc := 20) rfl rfl (by decide +kernel)) ?_
  refine ok_c (j := 12) rfl (ok_bipush (n := 42) (pc := 21) rfl rfl (by decide +kernel) (by decide)) ?_
  refine ok_c (j := 13) rfl (ok_cmpne (off := 7) (tg := 30) (pc := 23) rfl rfl (by decide +kernel) rfl (by decide)) ?_
  refine ok_c (j := 14) rfl (ok_iconst (n := 3) (pc := 26) rfl rfl (by decide +kernel) (by decide)) ?_
  refine ok_c (j := 15) rfl (ok_goto (off := 24) (tg := 51) (pc := 27) rfl (by decide +kernel) rfl (by decide)) ?_
  refine ok_c (j := 16) rfl (ok_iload_n (j := ⟨0, by decide⟩) (pc := 30) rfl rfl (by decide +kernel)) ?_
  refine ok_c (j := 17) rfl (ok_bipush (n := 60) (pc := 31) rfl rfl (by decide +kernel) (by decide)) ?_
  refine ok_c (j := 18) rfl (ok_cmpne (off := 7) (tg := 40) (pc := 33) rfl rfl (by decide +kernel) rfl (by decide)) ?_
  refine ok_c (j := 19) rfl (ok_iconst (n := 4) (pc := 36) rfl rfl (by decide +kernel) (by decide)) ?_
  refine ok_c (j := 20) rfl (ok_goto (off := 14) (tg := 51) (pc := 37) rfl (by decide +kernel) rfl (by decide)) ?_
  refine ok_c (j := 21) rfl (ok_iload_n (j := ⟨0, by decide⟩) (pc := 40) rfl rfl (by decide +kernel)) ?_
  refine ok_c (j := 22) rfl (ok_bipush (n := 61) (pc := 41) rfl rfl (by decide +kernel) (by decide)) ?_
  refine ok_c (j := 23) rfl (ok_cmpne (off := 7) (tg := 50) (pc := 43) rfl rfl (by decide +kernel) rfl (by decide)) ?_
  refine ok_c (j := 24) rfl (ok_iconst (n := 5) (pc := 46) rfl rfl (by decide +kernel) (by decide)) ?_
  refine ok_c (j := 25) rfl (ok_goto (off := 4) (tg := 51) (pc := 47) rfl (by decide +kernel) rfl (by decide)) ?_
  refine ok_c (j := 26) rfl (ok_iconst (n := 0) (pc := 50) rfl rfl (by decide +kernel) (by decide)) ?_
  refine ok_c (j := 27) rfl (ok_iret (pc := 51) rfl (by decide +kernel) rfl) ?_
  exact trivial
noncomputable def F_X12_deedOf := ce_fI tb_X12_deedOf 1 none
theorem ct_X12_deedOf (l : Launch) : ce_callee l yX12_deedOf 1 1 0 0 (ce_wI F_X12_deedOf) := ⟨_, _, _, ce_ctr_of (pcs := pc_X12_deedOf) (by decide +kernel) rfl (ok_X12_deedOf l ) ce_fI_run, ce_tw_at wd_1023 rfl, by decide, by decide +kernel, by decide +kernel, by decide +kernel⟩
def pc_X12_named : List Nat := [0, 1, 36, 37, 40, 41, 42, 43, 44, 47, 48, 49, 52, 53, 54, 55, 57, 58, 59, 62, 63, 64]
noncomputable def tb_X12_named : List ce_Op := [o_iload 1, o_sw [(0, 2), (1, 7), (2, 10), (3, 13), (4, 15)] 17, o_aload 0, o_getS 20 22 (fun _ => 0), o_iload 2, o_ild 22, o_iret, o_aload 0, o_getI 20 8, o_iret, o_aload 0, o_getI 20 9, o_iret, o_iload 3, o_iret, o_iload 4, o_iret, o_aload 0, o_getS 20 25 (fun _ => 0), o_iload 2, o_ild 25, o_iret]
theorem tl_X12_named : ce_TL tb_X12_named := by
  unfold tb_X12_named
  refine tl_c ta_iload ?_
  refine tl_c ta_sw ?_
  refine tl_c ta_aload ?_
  refine tl_c ta_getS ?_
  refine tl_c ta_iload ?_
  refine tl_c ta_ild ?_
  refine tl_c ta_iret ?_
  refine tl_c ta_aload ?_
  refine tl_c ta_getI ?_
  refine tl_c ta_iret ?_
  refine tl_c ta_aload ?_
  refine tl_c ta_getI ?_
  refine tl_c ta_iret ?_
  refine tl_c ta_iload ?_
  refine tl_c ta_iret ?_
  refine tl_c ta_iload ?_
  refine tl_c ta_iret ?_
  refine tl_c ta_aload ?_
  refine tl_c ta_getS ?_
  refine tl_c ta_iload ?_
  refine tl_c ta_ild ?_
  refine tl_c ta_iret ?_
  exact trivial
set_option maxRecDepth 20000 in
theorem ok_X12_named (l : Launch) : ce_OkL l cX12_named RX12 5 (some .int) 1 0 0 pc_X12_named 0 tb_X12_named := by
  unfold tb_X12_named
  refine ok_c (j := 1) rfl (ok_iload_n (j := ⟨1, by decide⟩) (pc := 0) rfl rfl (by decide +kernel)) ?_
  refine ok_c (j := 2) rfl (ok_sw (lo := 0) (hi := 4) (dflt := 57) (offs := #[35, 42, 47, 52, 54]) (len := 35) (pc := 1) rfl (by decide +kernel) (by decide +kernel) (by decide) (by decide)) ?_
  refine ok_c (j := 3) rfl (ok_aload_n (j := ⟨0, by decide⟩) (pc := 36) rfl rfl (by decide +kernel)) ?_
  refine ok_c (j := 4) rfl (ok_getS (f := 1) (ci := 12) (C := RX12) (T := TX12) (N := 45) (ix := 13) (pc := 37) rfl rfl (by decide +kernel) rfl (fun _ => rfl) rfl cw_X12 (by decide) rfl wd_825) ?_
  refine ok_c (j := 5) rfl (ok_iload_n (j := ⟨2, by decide⟩) (pc := 40) rfl rfl (by decide +kernel)) ?_
  refine ok_c (j := 6) rfl (ok_ild (pc := 41) rfl rfl (by decide +kernel) rfl) ?_
  refine ok_c (j := 7) rfl (ok_iret (pc := 42) rfl (by decide +kernel) rfl) ?_
  refine ok_c (j := 8) rfl (ok_aload_n (j := ⟨0, by decide⟩) (pc := 43) rfl rfl (by decide +kernel)) ?_
  refine ok_c (j := 9) rfl (ok_getI (ci := 12) (C := RX12) (T := TX12) (N := 45) (ix := 31) (pc := 44) rfl rfl (by decide +kernel) rfl (fun _ => rfl) rfl cw_X12 (by decide) rfl wd_832) ?_
  refine ok_c (j := 10) rfl (ok_iret (pc := 47) rfl (by decide +kernel) rfl) ?_
  refine ok_c (j := 11) rfl (ok_aload_n (j := ⟨0, by decide⟩) (pc := 48) rfl rfl (by decide +kernel)) ?_
  refine ok_c (j := 12) rfl (ok_getI (ci := 12) (C := RX12) (T := TX12) (N := 45) (ix := 35) (pc := 49) rfl rfl (by decide +kernel) rfl (fun _ => rfl) rfl cw_X12 (by decide) rfl wd_833) ?_
  refine ok_c (j := 13) rfl (ok_iret (pc := 52) rfl (by decide +kernel) rfl) ?_
  refine ok_c (j := 14) rfl (ok_iload_n (j := ⟨3, by decide⟩) (pc := 53) rfl rfl (by decide +kernel)) ?_
  refine ok_c (j := 15) rfl (ok_iret (pc := 54) rfl (by decide +kernel) rfl) ?_
  refine ok_c (j := 16) rfl (ok_iload (j := 4) (pc := 55) rfl rfl (by decide +kernel)) ?_
  refine ok_c (j := 17) rfl (ok_iret (pc := 57) rfl (by decide +kernel) rfl) ?_
  refine ok_c (j := 18) rfl (ok_aload_n (j := ⟨0, by decide⟩) (pc := 58) rfl rfl (by decide +kernel)) ?_
  refine ok_c (j := 19) rfl (ok_getS (f := 4) (ci := 12) (C := RX12) (T := TX12) (N := 45) (ix := 22) (pc := 59) rfl rfl (by decide +kernel) rfl (fun _ => rfl) rfl cw_X12 (by decide) rfl wd_828) ?_
  refine ok_c (j := 20) rfl (ok_iload_n (j := ⟨2, by decide⟩) (pc := 62) rfl rfl (by decide +kernel)) ?_
  refine ok_c (j := 21) rfl (ok_ild (pc := 63) rfl rfl (by decide +kernel) rfl) ?_
  refine ok_c (j := 22) rfl (ok_iret (pc := 64) rfl (by decide +kernel) rfl) ?_
  exact trivial
noncomputable def F_X12_named := ce_fI tb_X12_named 5 (some 20)
theorem ct_X12_named (l : Launch) : ce_callee l yX12_named 4 1 0 0 (ce_wI F_X12_named) := ⟨_, _, _, ce_ctr_of (pcs := pc_X12_named) (by decide +kernel) rfl (ok_X12_named l ) ce_fI_run, ce_tw_at wd_1047 rfl, by decide, by decide +kernel, by decide +kernel, by decide +kernel⟩
def pc_X12_done : List Nat := [0, 1, 40, 41, 42, 43, 44, 45, 46, 47, 48, 49, 50, 51, 52, 53, 54, 57, 58, 61, 62, 63, 64, 65, 68, 69, 72, 73, 74, 75, 78, 79, 82, 83, 86, 87, 88, 89, 92, 93, 96, 97, 100, 101]
noncomputable def tb_X12_done : List ce_Op := [o_iload 0, o_sw [(1, 2), (2, 6), (3, 10), (4, 14), (5, 21), (6, 28)] 36, o_iload 1, o_iload 2, o_bin q_add, o_iret, o_iload 1, o_iload 2, o_bin q_sub, o_iret, o_iload 1, o_iload 2, o_bin q_mul, o_iret, o_iload 1, o_iload 2, o_cmpge 19, o_int 1, o_goto 20, o_int 0, o_iret, o_iload 1, o_iload 2, o_cmpne 26, o_int 1, o_goto 27, o_int 0, o_iret, o_iload 1, o_ifeq 34, o_iload 2, o_ifeq 34, o_int 1, o_goto 35, o_int 0, o_iret, o_iload 1, o_ifne 40, o_iload 2, o_ifeq 42, o_int 1, o_goto 43, o_int 0, o_iret]
theorem tl_X12_done : ce_TL tb_X12_done := by
  unfold tb_X12_done
  refine tl_c ta_iload ?_
  refine tl_c ta_sw ?_
  refine tl_c ta_iload ?_
  refine tl_c ta_iload ?_
  refine tl_c ta_bin ?_
  refine tl_c ta_iret ?_
  refine tl_c ta_iload ?_
  refine tl_c ta_iload ?_
  refine tl_c ta_bin ?_
  refine tl_c ta_iret ?_
  refine tl_c ta_iload ?_
  refine tl_c ta_iload ?_
  refine tl_c ta_bin ?_
  refine tl_c ta_iret ?_
  refine tl_c ta_iload ?_
  refine tl_c ta_iload ?_
  refine tl_c ta_cmpge ?_
  refine tl_c ta_int ?_
  refine tl_c ta_goto ?_
  refine tl_c ta_int ?_
  refine tl_c ta_iret ?_
  refine tl_c ta_iload ?_
  refine tl_c ta_iload ?_
  refine tl_c ta_cmpne ?_
  refine tl_c ta_int ?_
  refine tl_c ta_goto ?_
  refine tl_c ta_int ?_
  refine tl_c ta_iret ?_
  refine tl_c ta_iload ?_
  refine tl_c ta_ifeq ?_
  refine tl_c ta_iload ?_
  refine tl_c ta_ifeq ?_
  refine tl_c ta_int ?_
  refine tl_c ta_goto ?_
  refine tl_c ta_int ?_
  refine tl_c ta_iret ?_
  refine tl_c ta_iload ?_
  refine tl_c ta_ifne ?_
  refine tl_c ta_iload ?_
  refine tl_c ta_ifeq ?_
  refine tl_c ta_int ?_
  refine tl_c ta_goto ?_
  refine tl_c ta_int ?_
  refine tl_c ta_iret ?_
  exact trivial
set_option maxRecDepth 20000 in
theorem ok_X12_done (l : Launch) : ce_OkL l cX12_done RX12 3 (some .int) 1 0 0 pc_X12_done 0 tb_X12_done := by
  unfold tb_X12_done
  refine ok_c (j := 1) rfl (ok_iload_n (j := ⟨0, by decide⟩) (pc := 0) rfl rfl (by decide +kernel)) ?_
  refine ok_c (j := 2) rfl (ok_sw (lo := 1) (hi := 6) (dflt := 87) (offs := #[39, 43, 47, 51, 62, 73]) (len := 39) (pc := 1) rfl (by decide +kernel) (by decide +kernel) (by decide) (by decide)) ?_
  refine ok_c (j := 3) rfl (ok_iload_n (j := ⟨1, by decide⟩) (pc := 40) rfl rfl (by decide +kernel)) ?_
  refine ok_c (j := 4) rfl (ok_iload_n (j := ⟨2, by decide⟩) (pc := 41) rfl rfl (by decide +kernel)) ?_
  refine ok_c (j := 5) rfl (ok_iadd (pc := 42) rfl rfl (by decide +kernel)) ?_
  refine ok_c (j := 6) rfl (ok_iret (pc := 43) rfl (by decide +kernel) rfl) ?_
  refine ok_c (j := 7) rfl (ok_iload_n (j := ⟨1, by decide⟩) (pc := 44) rfl rfl (by decide +kernel)) ?_
  refine ok_c (j := 8) rfl (ok_iload_n (j := ⟨2, by decide⟩) (pc := 45) rfl rfl (by decide +kernel)) ?_
  refine ok_c (j := 9) rfl (ok_isub (pc := 46) rfl rfl (by decide +kernel)) ?_
  refine ok_c (j := 10) rfl (ok_iret (pc := 47) rfl (by decide +kernel) rfl) ?_
  refine ok_c (j := 11) rfl (ok_iload_n (j := ⟨1, by decide⟩) (pc := 48) rfl rfl (by decide +kernel)) ?_
  refine ok_c (j := 12) rfl (ok_iload_n (j := ⟨2, by decide⟩) (pc := 49) rfl rfl (by decide +kernel)) ?_
  refine ok_c (j := 13) rfl (ok_imul (pc := 50) rfl rfl (by decide +kernel)) ?_
  refine ok_c (j := 14) rfl (ok_iret (pc := 51) rfl (by decide +kernel) rfl) ?_
  refine ok_c (j := 15) rfl (ok_iload_n (j := ⟨1, by decide⟩) (pc := 52) rfl rfl (by decide +kernel)) ?_
  refine ok_c (j := 16) rfl (ok_iload_n (j := ⟨2, by decide⟩) (pc := 53) rfl rfl (by decide +kernel)) ?_
  refine ok_c (j := 17) rfl (ok_cmpge (off := 7) (tg := 61) (pc := 54) rfl rfl (by decide +kernel) rfl (by decide)) ?_
  refine ok_c (j := 18) rfl (ok_iconst (n := 1) (pc := 57) rfl rfl (by decide +kernel) (by decide)) ?_
  refine ok_c (j := 19) rfl (ok_goto (off := 4) (tg := 62) (pc := 58) rfl (by decide +kernel) rfl (by decide)) ?_
  refine ok_c (j := 20) rfl (ok_iconst (n := 0) (pc := 61) rfl rfl (by decide +kernel) (by decide)) ?_
  refine ok_c (j := 21) rfl (ok_iret (pc := 62) rfl (by decide +kernel) rfl) ?_
  refine ok_c (j := 22) rfl (ok_iload_n (j := ⟨1, by decide⟩) (pc := 63) rfl rfl (by decide +kernel)) ?_
  refine ok_c (j := 23) rfl (ok_iload_n (j := ⟨2, by decide⟩) (pc := 64) rfl rfl (by decide +kernel)) ?_
  refine ok_c (j := 24) rfl (ok_cmpne (off := 7) (tg := 72) (pc := 65) rfl rfl (by decide +kernel) rfl (by decide)) ?_
  refine ok_c (j := 25) rfl (ok_iconst (n := 1) (pc := 68) rfl rfl (by decide +kernel) (by decide)) ?_
  refine ok_c (j := 26) rfl (ok_goto (off := 4) (tg := 73) (pc := 69) rfl (by decide +kernel) rfl (by decide)) ?_
  refine ok_c (j := 27) rfl (ok_iconst (n := 0) (pc := 72) rfl rfl (by decide +kernel) (by decide)) ?_
  refine ok_c (j := 28) rfl (ok_iret (pc := 73) rfl (by decide +kernel) rfl) ?_
  refine ok_c (j := 29) rfl (ok_iload_n (j := ⟨1, by decide⟩) (pc := 74) rfl rfl (by decide +kernel)) ?_
  refine ok_c (j := 30) rfl (ok_ifeq (off := 11) (tg := 86) (pc := 75) rfl rfl (by decide +kernel) rfl (by decide)) ?_
  refine ok_c (j := 31) rfl (ok_iload_n (j := ⟨2, by decide⟩) (pc := 78) rfl rfl (by decide +kernel)) ?_
  refine ok_c (j := 32) rfl (ok_ifeq (off := 7) (tg := 86) (pc := 79) rfl rfl (by decide +kernel) rfl (by decide)) ?_
  refine ok_c (j := 33) rfl (ok_iconst (n := 1) (pc := 82) rfl rfl (by decide +kernel) (by decide)) ?_
  refine ok_c (j := 34) rfl (ok_goto (off := 4) (tg := 87) (pc := 83) rfl (by decide +kernel) rfl (by decide)) ?_
  refine ok_c (j := 35) rfl (ok_iconst (n := 0) (pc := 86) rfl rfl (by decide +kernel) (by decide)) ?_
  refine ok_c (j := 36) rfl (ok_iret (pc := 87) rfl (by decide +kernel) rfl) ?_
  refine ok_c (j := 37) rfl (ok_iload_n (j := ⟨1, by decide⟩) (pc := 88) rfl rfl (by decide +kernel)) ?_
  refine ok_c (j := 38) rfl (ok_ifne (off := 7) (tg := 96) (pc := 89) rfl rfl (by decide +kernel) rfl (by decide)) ?_
  refine ok_c (j := 39) rfl (ok_iload_n (j := ⟨2, by decide⟩) (pc := 92) rfl rfl (by decide +kernel)) ?_
  refine ok_c (j := 40) rfl (ok_ifeq (off := 7) (tg := 100) (pc := 93) rfl rfl (by decide +kernel) rfl (by decide)) ?_
  refine ok_c (j := 41) rfl (ok_iconst (n := 1) (pc := 96) rfl rfl (by decide +kernel) (by decide)) ?_
  refine ok_c (j := 42) rfl (ok_goto (off := 4) (tg := 101) (pc := 97) rfl (by decide +kernel) rfl (by decide)) ?_
  refine ok_c (j := 43) rfl (ok_iconst (n := 0) (pc := 100) rfl rfl (by decide +kernel) (by decide)) ?_
  refine ok_c (j := 44) rfl (ok_iret (pc := 101) rfl (by decide +kernel) rfl) ?_
  exact trivial
noncomputable def F_X12_done := ce_fI tb_X12_done 3 none
theorem ct_X12_done (l : Launch) : ce_callee l yX12_done 3 1 0 0 (ce_wI F_X12_done) := ⟨_, _, _, ce_ctr_of (pcs := pc_X12_done) (by decide +kernel) rfl (ok_X12_done l ) ce_fI_run, ce_tw_at wd_1050 rfl, by decide, by decide +kernel, by decide +kernel, by decide +kernel⟩
def pc_X12_bounded : List Nat := [0, 1, 2, 5, 6, 9, 10, 11, 14, 15, 18, 19]
noncomputable def tb_X12_bounded : List ce_Op := [o_iload 0, o_iload 1, o_cmpge 5, o_iload 1, o_goto 11, o_iload 0, o_iload 2, o_cmple 10, o_iload 2, o_goto 11, o_iload 0, o_iret]
theorem tl_X12_bounded : ce_TL tb_X12_bounded := by
  unfold tb_X12_bounded
  refine tl_c ta_iload ?_
  refine tl_c ta_iload ?_
  refine tl_c ta_cmpge ?_
  refine tl_c ta_iload ?_
  refine tl_c ta_goto ?_
  refine tl_c ta_iload ?_
  refine tl_c ta_iload ?_
  refine tl_c ta_cmple ?_
  refine tl_c ta_iload ?_
  refine tl_c ta_goto ?_
  refine tl_c ta_iload ?_
  refine tl_c ta_iret ?_
  exact trivial
set_option maxRecDepth 20000 in
theorem ok_X12_bounded (l : Launch) : ce_OkL l cX12_bounded RX12 3 (some .int) 1 0 0 pc_X12_bounded 0 tb_X12_bounded := by
  unfold tb_X12_bounded
  refine ok_c (j := 1) rfl (ok_iload_n (j := ⟨0, by decide⟩) (pc := 0) rfl rfl (by decide +kernel)) ?_
  refine ok_c (j := 2) rfl (ok_iload_n (j := ⟨1, by decide⟩) (pc := 1) rfl rfl (by decide +kernel)) ?_
  refine ok_c (j := 3) rfl (ok_cmpge (off := 7) (tg := 9) (pc := 2) rfl rfl (by decide +kernel) rfl (by decide)) ?_
  refine ok_c (j := 4) rfl (ok_iload_n (j := ⟨1, by decide⟩) (pc := 5) rfl rfl (by decide +kernel)) ?_
  refine ok_c (j := 5) rfl (ok_goto (off := 13) (tg := 19) (pc := 6) rfl (by decide +kernel) rfl (by decide)) ?_
  refine ok_c (j := 6) rfl (ok_iload_n (j := ⟨0, by decide⟩) (pc := 9) rfl rfl (by decide +kernel)) ?_
  refine ok_c (j := 7) rfl (ok_iload_n (j := ⟨2, by decide⟩) (pc := 10) rfl rfl (by decide +kernel)) ?_
  refine ok_c (j := 8) rfl (ok_cmple (off := 7) (tg := 18) (pc := 11) rfl rfl (by decide +kernel) rfl (by decide)) ?_
  refine ok_c (j := 9) rfl (ok_iload_n (j := ⟨2, by decide⟩) (pc := 14) rfl rfl (by decide +kernel)) ?_
  refine ok_c (j := 10) rfl (ok_goto (off := 4) (tg := 19) (pc := 15) rfl (by decide +kernel) rfl (by decide)) ?_
  refine ok_c (j := 11) rfl (ok_iload_n (j := ⟨0, by decide⟩) (pc := 18) rfl rfl (by decide +kernel)) ?_
  refine ok_c (j := 12) rfl (ok_iret (pc := 19) rfl (by decide +kernel) rfl) ?_
  exact trivial
noncomputable def F_X12_bounded := ce_fI tb_X12_bounded 3 none
theorem ct_X12_bounded (l : Launch) : ce_callee l yX12_bounded 3 1 0 0 (ce_wI F_X12_bounded) := ⟨_, _, _, ce_ctr_of (pcs := pc_X12_bounded) (by decide +kernel) rfl (ok_X12_bounded l ) ce_fI_run, ce_tw_at wd_1057 rfl, by decide, by decide +kernel, by decide +kernel, by decide +kernel⟩
def pc_X12_staysOf : List Nat := [0, 1, 2, 5, 6, 7, 8, 9, 10, 13, 14, 15, 48, 49, 50, 51, 52, 53, 54, 55, 56, 57, 58, 59, 60, 61, 62, 63, 64, 65, 66, 67, 68, 69]
noncomputable def tb_X12_staysOf : List ce_Op := [o_int 4, o_aload 0, o_getS 20 23 (fun _ => 0), o_iload 1, o_ild 23, o_bin q_add, o_istore 2, o_aload 0, o_getS 20 21 (fun _ => 0), o_iload 1, o_ild 21, o_sw [(1, 12), (2, 16), (3, 20), (4, 12), (5, 26)] 32, o_iload 2, o_int 1, o_bin q_add, o_iret, o_iload 2, o_int 2, o_div, o_iret, o_iload 2, o_int 2, o_div, o_int 1, o_bin q_add, o_iret, o_int 2, o_iload 2, o_int 1, o_bin q_add, o_bin q_mul, o_iret, o_iload 2, o_iret]
theorem tl_X12_staysOf : ce_TL tb_X12_staysOf := by
  unfold tb_X12_staysOf
  refine tl_c ta_int ?_
  refine tl_c ta_aload ?_
  refine tl_c ta_getS ?_
  refine tl_c ta_iload ?_
  refine tl_c ta_ild ?_
  refine tl_c ta_bin ?_
  refine tl_c ta_istore ?_
  refine tl_c ta_aload ?_
  refine tl_c ta_getS ?_
  refine tl_c ta_iload ?_
  refine tl_c ta_ild ?_
  refine tl_c ta_sw ?_
  refine tl_c ta_iload ?_
  refine tl_c ta_int ?_
  refine tl_c ta_bin ?_
  refine tl_c ta_iret ?_
  refine tl_c ta_iload ?_
  refine tl_c ta_int ?_
  refine tl_c ta_div ?_
  refine tl_c ta_iret ?_
  refine tl_c ta_iload ?_
  refine tl_c ta_int ?_
  refine tl_c ta_div ?_
  refine tl_c ta_int ?_
  refine tl_c ta_bin ?_
  refine tl_c ta_iret ?_
  refine tl_c ta_int ?_
  refine tl_c ta_iload ?_
  refine tl_c ta_int ?_
  refine tl_c ta_bin ?_
  refine tl_c ta_bin ?_
  refine tl_c ta_iret ?_
  refine tl_c ta_iload ?_
  refine tl_c ta_iret ?_
  exact trivial
set_option maxRecDepth 20000 in
theorem ok_X12_staysOf (l : Launch) : ce_OkL l cX12_staysOf RX12 3 (some .int) 1 0 0 pc_X12_staysOf 0 tb_X12_staysOf := by
  unfold tb_X12_staysOf
  refine ok_c (j := 1) rfl (ok_iconst (n := 4) (pc := 0) rfl rfl (by decide +kernel) (by decide)) ?_
  refine ok_c (j := 2) rfl (ok_aload_n (j := ⟨0, by decide⟩) (pc := 1) rfl rfl (by decide +kernel)) ?_
  refine ok_c (j := 3) rfl (ok_getS (f := 2) (ci := 12) (C := RX12) (T := TX12) (N := 45) (ix := 16) (pc := 2) rfl rfl (by decide +kernel) rfl (fun _ => rfl) rfl cw_X12 (by decide) rfl wd_826) ?_
  refine ok_c (j := 4) rfl (ok_iload_n (j := ⟨1, by decide⟩) (pc := 5) rfl rfl (by decide +kernel)) ?_
  refine ok_c (j := 5) rfl (ok_ild (pc := 6) rfl rfl (by decide +kernel) rfl) ?_
  refine ok_c (j := 6) rfl (ok_iadd (pc := 7) rfl rfl (by decide +kernel)) ?_
  refine ok_c (j := 7) rfl (ok_istore_n (j := ⟨2, by decide⟩) (pc := 8) rfl rfl (by decide +kernel) (by decide)) ?_
  refine ok_c (j := 8) rfl (ok_aload_n (j := ⟨0, by decide⟩) (pc := 9) rfl rfl (by decide +kernel)) ?_
  refine ok_c (j := 9) rfl (ok_getS (f := 0) (ci := 12) (C := RX12) (T := TX12) (N := 45) (ix := 7) (pc := 10) rfl rfl (by decide +kernel) rfl (fun _ => rfl) rfl cw_X12 (by decide) rfl wd_824) ?_
  refine ok_c (j := 10) rfl (ok_iload_n (j := ⟨1, by decide⟩) (pc := 13) rfl rfl (by decide +kernel)) ?_
  refine ok_c (j := 11) rfl (ok_ild (pc := 14) rfl rfl (by decide +kernel) rfl) ?_
  refine ok_c (j := 12) rfl (ok_sw (lo := 1) (hi := 5) (dflt := 53) (offs := #[33, 37, 41, 33, 47]) (len := 33) (pc := 15) rfl (by decide +kernel) (by decide +kernel) (by decide) (by decide)) ?_
  refine ok_c (j := 13) rfl (ok_iload_n (j := ⟨2, by decide⟩) (pc := 48) rfl rfl (by decide +kernel)) ?_
  refine ok_c (j := 14) rfl (ok_iconst (n := 1) (pc := 49) rfl rfl (by decide +kernel) (by decide)) ?_
  refine ok_c (j := 15) rfl (ok_iadd (pc := 50) rfl rfl (by decide +kernel)) ?_
  refine ok_c (j := 16) rfl (ok_iret (pc := 51) rfl (by decide +kernel) rfl) ?_
  refine ok_c (j := 17) rfl (ok_iload_n (j := ⟨2, by decide⟩) (pc := 52) rfl rfl (by decide +kernel)) ?_
  refine ok_c (j := 18) rfl (ok_iconst (n := 2) (pc := 53) rfl rfl (by decide +kernel) (by decide)) ?_
  refine ok_c (j := 19) rfl (ok_idiv (pc := 54) rfl rfl (by decide +kernel)) ?_
  refine ok_c (j := 20) rfl (ok_iret (pc := 55) rfl (by decide +kernel) rfl) ?_
  refine ok_c (j := 21) rfl (ok_iload_n (j := ⟨2, by decide⟩) (pc := 56) rfl rfl (by decide +kernel)) ?_
  refine ok_c (j := 22) rfl (ok_iconst (n := 2) (pc := 57) rfl rfl (by decide +kernel) (by decide)) ?_
  refine ok_c (j := 23) rfl (ok_idiv (pc := 58) rfl rfl (by decide +kernel)) ?_
  refine ok_c (j := 24) rfl (ok_iconst (n := 1) (pc := 59) rfl rfl (by decide +kernel) (by decide)) ?_
  refine ok_c (j := 25) rfl (ok_iadd (pc := 60) rfl rfl (by decide +kernel)) ?_
  refine ok_c (j := 26) rfl (ok_iret (pc := 61) rfl (by decide +kernel) rfl) ?_
  refine ok_c (j := 27) rfl (ok_iconst (n := 2) (pc := 62) rfl rfl (by decide +kernel) (by decide)) ?_
  refine ok_c (j := 28) rfl (ok_iload_n (j := ⟨2, by decide⟩) (pc := 63) rfl rfl (by decide +kernel)) ?_
  refine ok_c (j := 29) rfl (ok_iconst (n := 1) (pc := 64) rfl rfl (by decide +kernel) (by decide)) ?_
  refine ok_c (j := 30) rfl (ok_iadd (pc := 65) rfl rfl (by decide +kernel)) ?_
  refine ok_c (j := 31) rfl (ok_imul (pc := 66) rfl rfl (by decide +kernel)) ?_
  refine ok_c (j := 32) rfl (ok_iret (pc := 67) rfl (by decide +kernel) rfl) ?_
  refine ok_c (j := 33) rfl (ok_iload_n (j := ⟨2, by decide⟩) (pc := 68) rfl rfl (by decide +kernel)) ?_
  refine ok_c (j := 34) rfl (ok_iret (pc := 69) rfl (by decide +kernel) rfl) ?_
  exact trivial
noncomputable def F_X12_staysOf := ce_fI tb_X12_staysOf 3 (some 20)
theorem ct_X12_staysOf (l : Launch) : ce_callee l yX12_staysOf 1 1 0 0 (ce_wI F_X12_staysOf) := ⟨_, _, _, ce_ctr_of (pcs := pc_X12_staysOf) (by decide +kernel) rfl (ok_X12_staysOf l ) ce_fI_run, ce_tw_at wd_1077 rfl, by decide, by decide +kernel, by decide +kernel, by decide +kernel⟩
def pc_X12_isUnder : List Nat := [0, 1, 2, 5, 6, 9, 10, 11, 14, 15, 16, 19, 20, 21, 24, 25, 26, 29, 30, 33, 34]
noncomputable def tb_X12_isUnder : List ce_Op := [o_iload 0, o_iload 1, o_cmpeq 17, o_iload 1, o_ifeq 17, o_iload 1, o_int 1, o_cmpne 11, o_iload 0, o_int 3, o_cmpgt 17, o_iload 1, o_int 2, o_cmpne 19, o_iload 0, o_int 3, o_cmpne 19, o_int 1, o_goto 20, o_int 0, o_zret]
theorem tl_X12_isUnder : ce_TL tb_X12_isUnder := by
  unfold tb_X12_isUnder
  refine tl_c ta_iload ?_
  refine tl_c ta_iload ?_
  refine tl_c ta_cmpeq ?_
  refine tl_c ta_iload ?_
  refine tl_c ta_ifeq ?_
  refine tl_c ta_iload ?_
  refine tl_c ta_int ?_
  refine tl_c ta_cmpne ?_
  refine tl_c ta_iload ?_
  refine tl_c ta_int ?_
  refine tl_c ta_cmpgt ?_
  refine tl_c ta_iload ?_
  refine tl_c ta_int ?_
  refine tl_c ta_cmpne ?_
  refine tl_c ta_iload ?_
  refine tl_c ta_int ?_
  refine tl_c ta_cmpne ?_
  refine tl_c ta_int ?_
  refine tl_c ta_goto ?_
  refine tl_c ta_int ?_
  refine tl_c ta_zret ?_
  exact trivial
set_option maxRecDepth 20000 in
theorem ok_X12_isUnder (l : Launch) : ce_OkL l cX12_isUnder RX12 2 (some .boolean) 1 0 0 pc_X12_isUnder 0 tb_X12_isUnder := by
  unfold tb_X12_isUnder
  refine ok_c (j := 1) rfl (ok_iload_n (j := ⟨0, by decide⟩) (pc := 0) rfl rfl (by decide +kernel)) ?_
  refine ok_c (j := 2) rfl (ok_iload_n (j := ⟨1, by decide⟩) (pc := 1) rfl rfl (by decide +kernel)) ?_
  refine ok_c (j := 3) rfl (ok_cmpeq (off := 27) (tg := 29) (pc := 2) rfl rfl (by decide +kernel) rfl (by decide)) ?_
  refine ok_c (j := 4) rfl (ok_iload_n (j := ⟨1, by decide⟩) (pc := 5) rfl rfl (by decide +kernel)) ?_
  refine ok_c (j := 5) rfl (ok_ifeq (off := 23) (tg := 29) (pc := 6) rfl rfl (by decide +kernel) rfl (by decide)) ?_
  refine ok_c (j := 6) rfl (ok_iload_n (j := ⟨1, by decide⟩) (pc := 9) rfl rfl (by decide +kernel)) ?_
  refine ok_c (j := 7) rfl (ok_iconst (n := 1) (pc := 10) rfl rfl (by decide +kernel) (by decide)) ?_
  refine ok_c (j := 8) rfl (ok_cmpne (off := 8) (tg := 19) (pc := 11) rfl rfl (by decide +kernel) rfl (by decide)) ?_
  refine ok_c (j := 9) rfl (ok_iload_n (j := ⟨0, by decide⟩) (pc := 14) rfl rfl (by decide +kernel)) ?_
  refine ok_c (j := 10) rfl (ok_iconst (n := 3) (pc := 15) rfl rfl (by decide +kernel) (by decide)) ?_
  refine ok_c (j := 11) rfl (ok_cmpgt (off := 13) (tg := 29) (pc := 16) rfl rfl (by decide +kernel) rfl (by decide)) ?_
  refine ok_c (j := 12) rfl (ok_iload_n (j := ⟨1, by decide⟩) (pc := 19) rfl rfl (by decide +kernel)) ?_
  refine ok_c (j := 13) rfl (ok_iconst (n := 2) (pc := 20) rfl rfl (by decide +kernel) (by decide)) ?_
  refine ok_c (j := 14) rfl (ok_cmpne (off := 12) (tg := 33) (pc := 21) rfl rfl (by decide +kernel) rfl (by decide)) ?_
  refine ok_c (j := 15) rfl (ok_iload_n (j := ⟨0, by decide⟩) (pc := 24) rfl rfl (by decide +kernel)) ?_
  refine ok_c (j := 16) rfl (ok_iconst (n := 3) (pc := 25) rfl rfl (by decide +kernel) (by decide)) ?_
  refine ok_c (j := 17) rfl (ok_cmpne (off := 7) (tg := 33) (pc := 26) rfl rfl (by decide +kernel) rfl (by decide)) ?_
  refine ok_c (j := 18) rfl (ok_iconst (n := 1) (pc := 29) rfl rfl (by decide +kernel) (by decide)) ?_
  refine ok_c (j := 19) rfl (ok_goto (off := 4) (tg := 34) (pc := 30) rfl (by decide +kernel) rfl (by decide)) ?_
  refine ok_c (j := 20) rfl (ok_iconst (n := 0) (pc := 33) rfl rfl (by decide +kernel) (by decide)) ?_
  refine ok_c (j := 21) rfl (ok_zret (pc := 34) rfl (by decide +kernel) rfl) ?_
  exact trivial
noncomputable def F_X12_isUnder := ce_fI tb_X12_isUnder 2 none
theorem ct_X12_isUnder (l : Launch) : ce_callee l yX12_isUnder 2 1 0 0 (ce_wI F_X12_isUnder) := ⟨_, _, _, ce_ctr_of (pcs := pc_X12_isUnder) (by decide +kernel) rfl (ok_X12_isUnder l ) ce_fI_run, ce_tw_at wd_1084 rfl, by decide, by decide +kernel, by decide +kernel, by decide +kernel⟩
def pc_X12_stepsOf : List Nat := [0, 1, 4, 5, 6, 7, 8, 9, 10, 13, 14, 15, 16, 19, 20, 21, 56, 57, 58, 59, 60, 61, 62, 63, 64, 65, 66, 67, 68, 69, 70, 73, 74, 75, 76, 77, 80, 81, 82, 83, 86, 87, 90, 91, 92, 93, 94, 95, 96, 97, 98, 99, 100, 101, 102, 103, 106, 107, 108, 109, 112, 114, 115, 118, 119, 120, 121, 124, 125, 126, 127, 128, 129, 130, 131, 132, 133, 136, 137]
noncomputable def tb_X12_stepsOf : List ce_Op := [o_aload 0, o_getS 20 24 (fun _ => 0), o_iload 1, o_ild 24, o_iload 2, o_bin q_sub, o_istore 3, o_iload 3, o_ifgt 11, o_int 0, o_iret, o_aload 0, o_getS 20 21 (fun _ => 0), o_iload 1, o_ild 21, o_sw [(0, 16), (1, 20), (2, 26), (3, 47), (4, 49)] 70, o_iload 3, o_int 4, o_div, o_iret, o_int 2, o_iload 3, o_int 4, o_div, o_bin q_mul, o_iret, o_iload 3, o_int 4, o_div, o_aload 0, o_getS 20 23 (fun _ => 0), o_iload 1, o_ild 23, o_int 1, o_bin q_add, o_cmpge 40, o_iload 3, o_int 4, o_div, o_goto 46, o_aload 0, o_getS 20 23 (fun _ => 0), o_iload 1, o_ild 23, o_int 1, o_bin q_add, o_iret, o_int 0, o_iret, o_int 2, o_iload 3, o_int 4, o_div, o_bin q_mul, o_aload 0, o_getS 20 25 (fun _ => 0), o_iload 1, o_ild 25, o_int 3, o_cmpne 67, o_int 10, o_aload 0, o_getS 20 23 (fun _ => 0), o_iload 1, o_ild 23, o_bin q_mul, o_goto 68, o_int 0, o_bin q_add, o_iret, o_int 2, o_iload 3, o_int 4, o_div, o_bin q_mul, o_aload 0, o_getI 20 9, o_bin q_add, o_iret]
theorem tl_X12_stepsOf : ce_TL tb_X12_stepsOf := by
  unfold tb_X12_stepsOf
  refine tl_c ta_aload ?_
  refine tl_c ta_getS ?_
  refine tl_c ta_iload ?_
  refine tl_c ta_ild ?_
  refine tl_c ta_iload ?_
  refine tl_c ta_bin ?_
  refine tl_c ta_istore ?_
  refine tl_c ta_iload ?_
  refine tl_c ta_ifgt ?_
  refine tl_c ta_int ?_
  refine tl_c ta_iret ?_
  refine tl_c ta_aload ?_
  refine tl_c ta_getS ?_
  refine tl_c ta_iload ?_
  refine tl_c ta_ild ?_
  refine tl_c ta_sw ?_
  refine tl_c ta_iload ?_
  refine tl_c ta_int ?_
  refine tl_c ta_div ?_
  refine tl_c ta_iret ?_
  refine tl_c ta_int ?_
  refine tl_c ta_iload ?_
  refine tl_c ta_int ?_
  refine tl_c ta_div ?_
  refine tl_c ta_bin ?_
  refine tl_c ta_iret ?_
  refine tl_c ta_iload ?_
  refine tl_c ta_int ?_
  refine tl_c ta_div ?_
  refine tl_c ta_aload ?_
  refine tl_c ta_getS ?_
  refine tl_c ta_iload ?_
  refine tl_c ta_ild ?_
  refine tl_c ta_int ?_
  refine tl_c ta_bin ?_
  refine tl_c ta_cmpge ?_
  refine tl_c ta_iload ?_
  refine tl_c ta_int ?_
  refine tl_c ta_div ?_
  refine tl_c ta_goto ?_
  refine tl_c ta_aload ?_
  refine tl_c ta_getS ?_
  refine tl_c ta_iload ?_
  refine tl_c ta_ild ?_
  refine tl_c ta_int ?_
  refine tl_c ta_bin ?_
  refine tl_c ta_iret ?_
  refine tl_c ta_int ?_
  refine tl_c ta_iret ?_
  refine tl_c ta_int ?_
  refine tl_c ta_iload ?_
  refine tl_c ta_int ?_
  refine tl_c ta_div ?_
  refine tl_c ta_bin ?_
  refine tl_c ta_aload ?_
  refine tl_c ta_getS ?_
  refine tl_c ta_iload ?_
  refine tl_c ta_ild ?_
  refine tl_c ta_int ?_
  refine tl_c ta_cmpne ?_
  refine tl_c ta_int ?_
  refine tl_c ta_aload ?_
  refine tl_c ta_getS ?_
  refine tl_c ta_iload ?_
  refine tl_c ta_ild ?_
  refine tl_c ta_bin ?_
  refine tl_c ta_goto ?_
  refine tl_c ta_int ?_
  refine tl_c ta_bin ?_
  refine tl_c ta_iret ?_
  refine tl_c ta_int ?_
  refine tl_c ta_iload ?_
  refine tl_c ta_int ?_
  refine tl_c ta_div ?_
  refine tl_c ta_bin ?_
  refine tl_c ta_aload ?_
  refine tl_c ta_getI ?_
  refine tl_c ta_bin ?_
  refine tl_c ta_iret ?_
  exact trivial
set_option maxRecDepth 20000 in
theorem ok_X12_stepsOf (l : Launch) : ce_OkL l cX12_stepsOf RX12 4 (some .int) 1 0 0 pc_X12_stepsOf 0 tb_X12_stepsOf := by
  unfold tb_X12_stepsOf
  refine ok_c (j := 1) rfl (ok_aload_n (j := ⟨0, by decide⟩) (pc := 0) rfl rfl (by decide +kernel)) ?_
  refine ok_c (j := 2) rfl (ok_getS (f := 3) (ci := 12) (C := RX12) (T := TX12) (N := 45) (ix := 19) (pc := 1) rfl rfl (by decide +kernel) rfl (fun _ => rfl) rfl cw_X12 (by decide) rfl wd_827) ?_
  refine ok_c (j := 3) rfl (ok_iload_n (j := ⟨1, by decide⟩) (pc := 4) rfl rfl (by decide +kernel)) ?_
  refine ok_c (j := 4) rfl (ok_ild (pc := 5) rfl rfl (by decide +kernel) rfl) ?_
  refine ok_c (j := 5) rfl (ok_iload_n (j := ⟨2, by decide⟩) (pc := 6) rfl rfl (by decide +kernel)) ?_
  refine ok_c (j := 6) rfl (ok_isub (pc := 7) rfl rfl (by decide +kernel)) ?_
  refine ok_c (j := 7) rfl (ok_istore_n (j := ⟨3, by decide⟩) (pc := 8) rfl rfl (by decide +kernel) (by decide)) ?_
  refine ok_c (j := 8) rfl (ok_iload_n (j := ⟨3, by decide⟩) (pc := 9) rfl rfl (by decide +kernel)) ?_
  refine ok_c (j := 9) rfl (ok_ifgt (off := 5) (tg := 15) (pc := 10) rfl rfl (by decide +kernel) rfl (by decide)) ?_
  refine ok_c (j := 10) rfl (ok_iconst (n := 0) (pc := 13) rfl rfl (by decide +kernel) (by decide)) ?_
  refine ok_c (j := 11) rfl (ok_iret (pc := 14) rfl (by decide +kernel) rfl) ?_
  refine ok_c (j := 12) rfl (ok_aload_n (j := ⟨0, by decide⟩) (pc := 15) rfl rfl (by decide +kernel)) ?_
  refine ok_c (j := 13) rfl (ok_getS (f := 0) (ci := 12) (C := RX12) (T := TX12) (N := 45) (ix := 7) (pc := 16) rfl rfl (by decide +kernel) rfl (fun _ => rfl) rfl cw_X12 (by decide) rfl wd_824) ?_
  refine ok_c (j := 14) rfl (ok_iload_n (j := ⟨1, by decide⟩) (pc := 19) rfl rfl (by decide +kernel)) ?_
  refine ok_c (j := 15) rfl (ok_ild (pc := 20) rfl rfl (by decide +kernel) rfl) ?_
  refine ok_c (j := 16) rfl (ok_sw (lo := 0) (hi := 4) (dflt := 106) (offs := #[35, 39, 45, 74, 76]) (len := 35) (pc := 21) rfl (by decide +kernel) (by decide +kernel) (by decide) (by decide)) ?_
  refine ok_c (j := 17) rfl (ok_iload_n (j := ⟨3, by decide⟩) (pc := 56) rfl rfl (by decide +kernel)) ?_
  refine ok_c (j := 18) rfl (ok_iconst (n := 4) (pc := 57) rfl rfl (by decide +kernel) (by decide)) ?_
  refine ok_c (j := 19) rfl (ok_idiv (pc := 58) rfl rfl (by decide +kernel)) ?_
  refine ok_c (j := 20) rfl (ok_iret (pc := 59) rfl (by decide +kernel) rfl) ?_
  refine ok_c (j := 21) rfl (ok_iconst (n := 2) (pc := 60) rfl rfl (by decide +kernel) (by decide)) ?_
  refine ok_c (j := 22) rfl (ok_iload_n (j := ⟨3, by decide⟩) (pc := 61) rfl rfl (by decide +kernel)) ?_
  refine ok_c (j := 23) rfl (ok_iconst (n := 4) (pc := 62) rfl rfl (by decide +kernel) (by decide)) ?_
  refine ok_c (j := 24) rfl (ok_idiv (pc := 63) rfl rfl (by decide +kernel)) ?_
  refine ok_c (j := 25) rfl (ok_imul (pc := 64) rfl rfl (by decide +kernel)) ?_
  refine ok_c (j := 26) rfl (ok_iret (pc := 65) rfl (by decide +kernel) rfl) ?_
  refine ok_c (j := 27) rfl (ok_iload_n (j := ⟨3, by decide⟩) (pc := 66) rfl rfl (by decide +kernel)) ?_
  refine ok_c (j := 28) rfl (ok_iconst (n := 4) (pc := 67) rfl rfl (by decide +kernel) (by decide)) ?_
  refine ok_c (j := 29) rfl (ok_idiv (pc := 68) rfl rfl (by decide +kernel)) ?_
  refine ok_c (j := 30) rfl (ok_aload_n (j := ⟨0, by decide⟩) (pc := 69) rfl rfl (by decide +kernel)) ?_
  refine ok_c (j := 31) rfl (ok_getS (f := 2) (ci := 12) (C := RX12) (T := TX12) (N := 45) (ix := 16) (pc := 70) rfl rfl (by decide +kernel) rfl (fun _ => rfl) rfl cw_X12 (by decide) rfl wd_826) ?_
  refine ok_c (j := 32) rfl (ok_iload_n (j := ⟨1, by decide⟩) (pc := 73) rfl rfl (by decide +kernel)) ?_
  refine ok_c (j := 33) rfl (ok_ild (pc := 74) rfl rfl (by decide +kernel) rfl) ?_
  refine ok_c (j := 34) rfl (ok_iconst (n := 1) (pc := 75) rfl rfl (by decide +kernel) (by decide)) ?_
  refine ok_c (j := 35) rfl (ok_iadd (pc := 76) rfl rfl (by decide +kernel)) ?_
  refine ok_c (j := 36) rfl (ok_cmpge (off := 9) (tg := 86) (pc := 77) rfl rfl (by decide +kernel) rfl (by decide)) ?_
  refine ok_c (j := 37) rfl (ok_iload_n (j := ⟨3, by decide⟩) (pc := 80) rfl rfl (by decide +kernel)) ?_
  refine ok_c (j := 38) rfl (ok_iconst (n := 4) (pc := 81) rfl rfl (by decide +kernel) (by decide)) ?_
  refine ok_c (j := 39) rfl (ok_idiv (pc := 82) rfl rfl (by decide +kernel)) ?_
  refine ok_c (j := 40) rfl (ok_goto (off := 11) (tg := 94) (pc := 83) rfl (by decide +kernel) rfl (by decide)) ?_
  refine ok_c (j := 41) rfl (ok_aload_n (j := ⟨0, by decide⟩) (pc := 86) rfl rfl (by decide +kernel)) ?_
  refine ok_c (j := 42) rfl (ok_getS (f := 2) (ci := 12) (C := RX12) (T := TX12) (N := 45) (ix := 16) (pc := 87) rfl rfl (by decide +kernel) rfl (fun _ => rfl) rfl cw_X12 (by decide) rfl wd_826) ?_
  refine ok_c (j := 43) rfl (ok_iload_n (j := ⟨1, by decide⟩) (pc := 90) rfl rfl (by decide +kernel)) ?_
  refine ok_c (j := 44) rfl (ok_ild (pc := 91) rfl rfl (by decide +kernel) rfl) ?_
  refine ok_c (j := 45) rfl (ok_iconst (n := 1) (pc := 92) rfl rfl (by decide +kernel) (by decide)) ?_
  refine ok_c (j := 46) rfl (ok_iadd (pc := 93) rfl rfl (by decide +kernel)) ?_
  refine ok_c (j := 47) rfl (ok_iret (pc := 94) rfl (by decide +kernel) rfl) ?_
  refine ok_c (j := 48) rfl (ok_iconst (n := 0) (pc := 95) rfl rfl (by decide +kernel) (by decide)) ?_
  refine ok_c (j := 49) rfl (ok_iret (pc := 96) rfl (by decide +kernel) rfl) ?_
  refine ok_c (j := 50) rfl (ok_iconst (n := 2) (pc := 97) rfl rfl (by decide +kernel) (by decide)) ?_
  refine ok_c (j := 51) rfl (ok_iload_n (j := ⟨3, by decide⟩) (pc := 98) rfl rfl (by decide +kernel)) ?_
  refine ok_c (j := 52) rfl (ok_iconst (n := 4) (pc := 99) rfl rfl (by decide +kernel) (by decide)) ?_
  refine ok_c (j := 53) rfl (ok_idiv (pc := 100) rfl rfl (by decide +kernel)) ?_
  refine ok_c (j := 54) rfl (ok_imul (pc := 101) rfl rfl (by decide +kernel)) ?_
  refine ok_c (j := 55) rfl (ok_aload_n (j := ⟨0, by decide⟩) (pc := 102) rfl rfl (by decide +kernel)) ?_
  refine ok_c (j := 56) rfl (ok_getS (f := 4) (ci := 12) (C := RX12) (T := TX12) (N := 45) (ix := 22) (pc := 103) rfl rfl (by decide +kernel) rfl (fun _ => rfl) rfl cw_X12 (by decide) rfl wd_828) ?_
  refine ok_c (j := 57) rfl (ok_iload_n (j := ⟨1, by decide⟩) (pc := 106) rfl rfl (by decide +kernel)) ?_
  refine ok_c (j := 58) rfl (ok_ild (pc := 107) rfl rfl (by decide +kernel) rfl) ?_
  refine ok_c (j := 59) rfl (ok_iconst (n := 3) (pc := 108) rfl rfl (by decide +kernel) (by decide)) ?_
  refine ok_c (j := 60) rfl (ok_cmpne (off := 15) (tg := 124) (pc := 109) rfl rfl (by decide +kernel) rfl (by decide)) ?_
  refine ok_c (j := 61) rfl (ok_bipush (n := 10) (pc := 112) rfl rfl (by decide +kernel) (by decide)) ?_
  refine ok_c (j := 62) rfl (ok_aload_n (j := ⟨0, by decide⟩) (pc := 114) rfl rfl (by decide +kernel)) ?_
  refine ok_c (j := 63) rfl (ok_getS (f := 2) (ci := 12) (C := RX12) (T := TX12) (N := 45) (ix := 16) (pc := 115) rfl rfl (by decide +kernel) rfl (fun _ => rfl) rfl cw_X12 (by decide) rfl wd_826) ?_
  refine ok_c (j := 64) rfl (ok_iload_n (j := ⟨1, by decide⟩) (pc := 118) rfl rfl (by decide +kernel)) ?_
  refine ok_c (j := 65) rfl (ok_ild (pc := 119) rfl rfl (by decide +kernel) rfl) ?_
  refine ok_c (j := 66) rfl (ok_imul (pc := 120) rfl rfl (by decide +kernel)) ?_
  refine ok_c (j := 67) rfl (ok_goto (off := 4) (tg := 125) (pc := 121) rfl (by decide +kernel) rfl (by decide)) ?_
  refine ok_c (j := 68) rfl (ok_iconst (n := 0) (pc := 124) rfl rfl (by decide +kernel) (by decide)) ?_
  refine ok_c (j := 69) rfl (ok_iadd (pc := 125) rfl rfl (by decide +kernel)) ?_
  refine ok_c (j := 70) rfl (ok_iret (pc := 126) rfl (by decide +kernel) rfl) ?_
  refine ok_c (j := 71) rfl (ok_iconst (n := 2) (pc := 127) rfl rfl (by decide +kernel) (by decide)) ?_
  refine ok_c (j := 72) rfl (ok_iload_n (j := ⟨3, by decide⟩) (pc := 128) rfl rfl (by decide +kernel)) ?_
  refine ok_c (j := 73) rfl (ok_iconst (n := 4) (pc := 129) rfl rfl (by decide +kernel) (by decide)) ?_
  refine ok_c (j := 74) rfl (ok_idiv (pc := 130) rfl rfl (by decide +kernel)) ?_
  refine ok_c (j := 75) rfl (ok_imul (pc := 131) rfl rfl (by decide +kernel)) ?_
  refine ok_c (j := 76) rfl (ok_aload_n (j := ⟨0, by decide⟩) (pc := 132) rfl rfl (by decide +kernel)) ?_
  refine ok_c (j := 77) rfl (ok_getI (ci := 12) (C := RX12) (T := TX12) (N := 45) (ix := 35) (pc := 133) rfl rfl (by decide +kernel) rfl (fun _ => rfl) rfl cw_X12 (by decide) rfl wd_833) ?_
  refine ok_c (j := 78) rfl (ok_iadd (pc := 136) rfl rfl (by decide +kernel)) ?_
  refine ok_c (j := 79) rfl (ok_iret (pc := 137) rfl (by decide +kernel) rfl) ?_
  exact trivial
noncomputable def F_X12_stepsOf := ce_fI tb_X12_stepsOf 4 (some 20)
theorem ct_X12_stepsOf (l : Launch) : ce_callee l yX12_stepsOf 2 1 0 0 (ce_wI F_X12_stepsOf) := ⟨_, _, _, ce_ctr_of (pcs := pc_X12_stepsOf) (by decide +kernel) rfl (ok_X12_stepsOf l ) ce_fI_run, ce_tw_at wd_1099 rfl, by decide, by decide +kernel, by decide +kernel, by decide +kernel⟩
def pc_X12_doesTake : List Nat := [0, 1, 2, 5, 6, 8, 11, 12, 15, 16, 18, 19, 22, 23, 24, 52, 53, 54, 57, 58, 59, 62, 63, 66, 67, 68, 70, 73, 74, 75, 78, 79, 82, 83, 84, 85, 88, 89, 92, 93, 94, 95, 96, 99, 100, 103, 104, 105, 107]
noncomputable def tb_X12_doesTake : List ce_Op := [o_iload 2, o_iload 3, o_cmplt 8, o_iload 2, o_iload 4, o_cmplt 8, o_int 1, o_goto 9, o_int 0, o_istore 5, o_aload 0, o_getS 20 21 (fun _ => 0), o_iload 1, o_ild 21, o_sw [(3, 15), (4, 25), (5, 40)] 47, o_iload 2, o_aload 0, o_getS 20 24 (fun _ => 0), o_iload 1, o_ild 24, o_cmplt 23, o_int 1, o_goto 24, o_int 0, o_zret, o_iload 5, o_ifne 36, o_iload 2, o_iload 3, o_cmplt 38, o_aload 0, o_getS 20 25 (fun _ => 0), o_iload 1, o_ild 25, o_int 3, o_cmple 38, o_int 1, o_goto 39, o_int 0, o_zret, o_iload 2, o_iload 3, o_cmplt 45, o_int 1, o_goto 46, o_int 0, o_zret, o_iload 5, o_zret]
theorem tl_X12_doesTake : ce_TL tb_X12_doesTake := by
  unfold tb_X12_doesTake
  refine tl_c ta_iload ?_
  refine tl_c ta_iload ?_
  refine tl_c ta_cmplt ?_
  refine tl_c ta_iload ?_
  refine tl_c ta_iload ?_
  refine tl_c ta_cmplt ?_
  refine tl_c ta_int ?_
  refine tl_c ta_goto ?_
  refine tl_c ta_int ?_
  refine tl_c ta_istore ?_
  refine tl_c ta_aload ?_
  refine tl_c ta_getS ?_
  refine tl_c ta_iload ?_
  refine tl_c ta_ild ?_
  refine tl_c ta_sw ?_
  refine tl_c ta_iload ?_
  refine tl_c ta_aload ?_
  refine tl_c ta_getS ?_
  refine tl_c ta_iload ?_
  refine tl_c ta_ild ?_
  refine tl_c ta_cmplt ?_
  refine tl_c ta_int ?_
  refine tl_c ta_goto ?_
  refine tl_c ta_int ?_
  refine tl_c ta_zret ?_
  refine tl_c ta_iload ?_
  refine tl_c ta_ifne ?_
  refine tl_c ta_iload ?_
  refine tl_c ta_iload ?_
  refine tl_c ta_cmplt ?_
  refine tl_c ta_aload ?_
  refine tl_c ta_getS ?_
  refine tl_c ta_iload ?_
  refine tl_c ta_ild ?_
  refine tl_c ta_int ?_
  refine tl_c ta_cmple ?_
  refine tl_c ta_int ?_
  refine tl_c ta_goto ?_
  refine tl_c ta_int ?_
  refine tl_c ta_zret ?_
  refine tl_c ta_iload ?_
  refine tl_c ta_iload ?_
  refine tl_c ta_cmplt ?_
  refine tl_c ta_int ?_
  refine tl_c ta_goto ?_
  refine tl_c ta_int ?_
  refine tl_c ta_zret ?_
  refine tl_c ta_iload ?_
  refine tl_c ta_zret ?_
  exact trivial
set_option maxRecDepth 20000 in
theorem ok_X12_doesTake (l : Launch) : ce_OkL l cX12_doesTake RX12 6 (some .boolean) 1 0 0 pc_X12_doesTake 0 tb_X12_doesTake := by
  unfold tb_X12_doesTake
  refine ok_c (j := 1) rfl (ok_iload_n (j := ⟨2, by decide⟩) (pc := 0) rfl rfl (by decide +kernel)) ?_
  refine ok_c (j := 2) rfl (ok_iload_n (j := ⟨3, by decide⟩) (pc := 1) rfl rfl (by decide +kernel)) ?_
  refine ok_c (j := 3) rfl (ok_cmplt (off := 13) (tg := 15) (pc := 2) rfl rfl (by decide +kernel) rfl (by decide)) ?_
  refine ok_c (j := 4) rfl (ok_iload_n (j := ⟨2, by decide⟩) (pc := 5) rfl rfl (by decide +kernel)) ?_
  refine ok_c (j := 5) rfl (ok_iload (j := 4) (pc := 6) rfl rfl (by decide +kernel)) ?_
  refine ok_c (j := 6) rfl (ok_cmplt (off := 7) (tg := 15) (pc := 8) rfl rfl (by decide +kernel) rfl (by decide)) ?_
  refine ok_c (j := 7) rfl (ok_iconst (n := 1) (pc := 11) rfl rfl (by decide +kernel) (by decide)) ?_
  refine ok_c (j := 8) rfl (ok_goto (off := 4) (tg := 16) (pc := 12) rfl (by decide +kernel) rfl (by decide)) ?_
  refine ok_c (j := 9) rfl (ok_iconst (n := 0) (pc := 15) rfl rfl (by decide +kernel) (by decide)) ?_
  refine ok_c (j := 10) rfl (ok_istore (j := 5) (pc := 16) rfl rfl (by decide +kernel) (by decide)) ?_
  refine ok_c (j := 11) rfl (ok_aload_n (j := ⟨0, by decide⟩) (pc := 18) rfl rfl (by decide +kernel)) ?_
  refine ok_c (j := 12) rfl (ok_getS (f := 0) (ci := 12) (C := RX12) (T := TX12) (N := 45) (ix := 7) (pc := 19) rfl rfl (by decide +kernel) rfl (fun _ => rfl) rfl cw_X12 (by decide) rfl wd_824) ?_
  refine ok_c (j := 13) rfl (ok_iload_n (j := ⟨1, by decide⟩) (pc := 22) rfl rfl (by decide +kernel)) ?_
  refine ok_c (j := 14) rfl (ok_ild (pc := 23) rfl rfl (by decide +kernel) rfl) ?_
  refine ok_c (j := 15) rfl (ok_sw (lo := 3) (hi := 5) (dflt := 81) (offs := #[28, 44, 70]) (len := 28) (pc := 24) rfl (by decide +kernel) (by decide +kernel) (by decide) (by decide)) ?_
  refine ok_c (j := 16) rfl (ok_iload_n (j := ⟨2, by decide⟩) (pc := 52) rfl rfl (by decide +kernel)) ?_
  refine ok_c (j := 17) rfl (ok_aload_n (j := ⟨0, by decide⟩) (pc := 53) rfl rfl (by decide +kernel)) ?_
  refine ok_c (j := 18) rfl (ok_getS (f := 3) (ci := 12) (C := RX12) (T := TX12) (N := 45) (ix := 19) (pc := 54) rfl rfl (by decide +kernel) rfl (fun _ => rfl) rfl cw_X12 (by decide) rfl wd_827) ?_
  refine ok_c (j := 19) rfl (ok_iload_n (j := ⟨1, by decide⟩) (pc := 57) rfl rfl (by decide +kernel)) ?_
  refine ok_c (j := 20) rfl (ok_ild (pc := 58) rfl rfl (by decide +kernel) rfl) ?_
  refine ok_c (j := 21) rfl (ok_cmplt (off := 7) (tg := 66) (pc := 59) rfl rfl (by decide +kernel) rfl (by decide)) ?_
  refine ok_c (j := 22) rfl (ok_iconst (n := 1) (pc := 62) rfl rfl (by decide +kernel) (by decide)) ?_
  refine ok_c (j := 23) rfl (ok_goto (off := 4) (tg := 67) (pc := 63) rfl (by decide +kernel) rfl (by decide)) ?_
  refine ok_c (j := 24) rfl (ok_iconst (n := 0) (pc := 66) rfl rfl (by decide +kernel) (by decide)) ?_
  refine ok_c (j := 25) rfl (ok_zret (pc := 67) rfl (by decide +kernel) rfl) ?_
  refine ok_c (j := 26) rfl (ok_iload (j := 5) (pc := 68) rfl rfl (by decide +kernel)) ?_
  refine ok_c (j := 27) rfl (ok_ifne (off := 18) (tg := 88) (pc := 70) rfl rfl (by decide +kernel) rfl (by decide)) ?_
  refine ok_c (j := 28) rfl (ok_iload_n (j := ⟨2, by decide⟩) (pc := 73) rfl rfl (by decide +kernel)) ?_
  refine ok_c (j := 29) rfl (ok_iload_n (j := ⟨3, by decide⟩) (pc := 74) rfl rfl (by decide +kernel)) ?_
  refine ok_c (j := 30) rfl (ok_cmplt (off := 17) (tg := 92) (pc := 75) rfl rfl (by decide +kernel) rfl (by decide)) ?_
  refine ok_c (j := 31) rfl (ok_aload_n (j := ⟨0, by decide⟩) (pc := 78) rfl rfl (by decide +kernel)) ?_
  refine ok_c (j := 32) rfl (ok_getS (f := 4) (ci := 12) (C := RX12) (T := TX12) (N := 45) (ix := 22) (pc := 79) rfl rfl (by decide +kernel) rfl (fun _ => rfl) rfl cw_X12 (by decide) rfl wd_828) ?_
  refine ok_c (j := 33) rfl (ok_iload_n (j := ⟨1, by decide⟩) (pc := 82) rfl rfl (by decide +kernel)) ?_
  refine ok_c (j := 34) rfl (ok_ild (pc := 83) rfl rfl (by decide +kernel) rfl) ?_
  refine ok_c (j := 35) rfl (ok_iconst (n := 3) (pc := 84) rfl rfl (by decide +kernel) (by decide)) ?_
  refine ok_c (j := 36) rfl (ok_cmple (off := 7) (tg := 92) (pc := 85) rfl rfl (by decide +kernel) rfl (by decide)) ?_
  refine ok_c (j := 37) rfl (ok_iconst (n := 1) (pc := 88) rfl rfl (by decide +kernel) (by decide)) ?_
  refine ok_c (j := 38) rfl (ok_goto (off := 4) (tg := 93) (pc := 89) rfl (by decide +kernel) rfl (by decide)) ?_
  refine ok_c (j := 39) rfl (ok_iconst (n := 0) (pc := 92) rfl rfl (by decide +kernel) (by decide)) ?_
  refine ok_c (j := 40) rfl (ok_zret (pc := 93) rfl (by decide +kernel) rfl) ?_
  refine ok_c (j := 41) rfl (ok_iload_n (j := ⟨2, by decide⟩) (pc := 94) rfl rfl (by decide +kernel)) ?_
  refine ok_c (j := 42) rfl (ok_iload_n (j := ⟨3, by decide⟩) (pc := 95) rfl rfl (by decide +kernel)) ?_
  refine ok_c (j := 43) rfl (ok_cmplt (off := 7) (tg := 103) (pc := 96) rfl rfl (by decide +kernel) rfl (by decide)) ?_
  refine ok_c (j := 44) rfl (ok_iconst (n := 1) (pc := 99) rfl rfl (by decide +kernel) (by decide)) ?_
  refine ok_c (j := 45) rfl (ok_goto (off := 4) (tg := 104) (pc := 100) rfl (by decide +kernel) rfl (by decide)) ?_
  refine ok_c (j := 46) rfl (ok_iconst (n := 0) (pc := 103) rfl rfl (by decide +kernel) (by decide)) ?_
  refine ok_c (j := 47) rfl (ok_zret (pc := 104) rfl (by decide +kernel) rfl) ?_
  refine ok_c (j := 48) rfl (ok_iload (j := 5) (pc := 105) rfl rfl (by decide +kernel)) ?_
  refine ok_c (j := 49) rfl (ok_zret (pc := 107) rfl (by decide +kernel) rfl) ?_
  exact trivial
noncomputable def F_X12_doesTake := ce_fI tb_X12_doesTake 6 (some 20)
theorem ct_X12_doesTake (l : Launch) : ce_callee l yX12_doesTake 4 1 0 0 (ce_wI F_X12_doesTake) := ⟨_, _, _, ce_ctr_of (pcs := pc_X12_doesTake) (by decide +kernel) rfl (ok_X12_doesTake l ) ce_fI_run, ce_tw_at wd_1103 rfl, by decide, by decide +kernel, by decide +kernel, by decide +kernel⟩
def pc_X12_isBid : List Nat := [0, 1, 4, 5, 8, 11, 12, 15, 16]
noncomputable def tb_X12_isBid : List ce_Op := [o_iload 0, o_iflt 7, o_iload 0, o_int 1999, o_cmpgt 7, o_int 1, o_goto 8, o_int 0, o_zret]
theorem tl_X12_isBid : ce_TL tb_X12_isBid := by
  unfold tb_X12_isBid
  refine tl_c ta_iload ?_
  refine tl_c ta_iflt ?_
  refine tl_c ta_iload ?_
  refine tl_c ta_int ?_
  refine tl_c ta_cmpgt ?_
  refine tl_c ta_int ?_
  refine tl_c ta_goto ?_
  refine tl_c ta_int ?_
  refine tl_c ta_zret ?_
  exact trivial
set_option maxRecDepth 20000 in
theorem ok_X12_isBid (l : Launch) : ce_OkL l cX12_isBid RX12 1 (some .boolean) 1 0 0 pc_X12_isBid 0 tb_X12_isBid := by
  unfold tb_X12_isBid
  refine ok_c (j := 1) rfl (ok_iload_n (j := ⟨0, by decide⟩) (pc := 0) rfl rfl (by decide +kernel)) ?_
  refine ok_c (j := 2) rfl (ok_iflt (off := 14) (tg := 15) (pc := 1) rfl rfl (by decide +kernel) rfl (by decide)) ?_
  refine ok_c (j := 3) rfl (ok_iload_n (j := ⟨0, by decide⟩) (pc := 4) rfl rfl (by decide +kernel)) ?_
  refine ok_c (j := 4) rfl (ok_sipush (n := 1999) (pc := 5) rfl rfl (by decide +kernel) (by decide)) ?_
  refine ok_c (j := 5) rfl (ok_cmpgt (off := 7) (tg := 15) (pc := 8) rfl rfl (by decide +kernel) rfl (by decide)) ?_
  refine ok_c (j := 6) rfl (ok_iconst (n := 1) (pc := 11) rfl rfl (by decide +kernel) (by decide)) ?_
  refine ok_c (j := 7) rfl (ok_goto (off := 4) (tg := 16) (pc := 12) rfl (by decide +kernel) rfl (by decide)) ?_
  refine ok_c (j := 8) rfl (ok_iconst (n := 0) (pc := 15) rfl rfl (by decide +kernel) (by decide)) ?_
  refine ok_c (j := 9) rfl (ok_zret (pc := 16) rfl (by decide +kernel) rfl) ?_
  exact trivial
noncomputable def F_X12_isBid := ce_fI tb_X12_isBid 1 none
theorem ct_X12_isBid (l : Launch) : ce_callee l yX12_isBid 1 1 0 0 (ce_wI F_X12_isBid) := ⟨_, _, _, ce_ctr_of (pcs := pc_X12_isBid) (by decide +kernel) rfl (ok_X12_isBid l ) ce_fI_run, ce_tw_at wd_1091 rfl, by decide, by decide +kernel, by decide +kernel, by decide +kernel⟩
def pc_X12_agrees : List Nat := [0, 1, 4, 5, 6, 7, 8, 11, 12, 13, 16, 17, 18, 19, 20, 23, 24, 25]
noncomputable def tb_X12_agrees : List ce_Op := [o_aload 0, o_getS 20 26 (fun _ => 0), o_iload 1, o_int 1, o_ist 26, o_aload 0, o_getS 20 27 (fun _ => 0), o_iload 1, o_aload 0, o_getS 20 24 (fun _ => 0), o_iload 1, o_ild 24, o_ist 27, o_aload 0, o_getS 20 27 (fun _ => 0), o_iload 1, o_ild 27, o_iret]
theorem tl_X12_agrees : ce_TL tb_X12_agrees := by
  unfold tb_X12_agrees
  refine tl_c ta_aload ?_
  refine tl_c ta_getS ?_
  refine tl_c ta_iload ?_
  refine tl_c ta_int ?_
  refine tl_c ta_ist ?_
  refine tl_c ta_aload ?_
  refine tl_c ta_getS ?_
  refine tl_c ta_iload ?_
  refine tl_c ta_aload ?_
  refine tl_c ta_getS ?_
  refine tl_c ta_iload ?_
  refine tl_c ta_ild ?_
  refine tl_c ta_ist ?_
  refine tl_c ta_aload ?_
  refine tl_c ta_getS ?_
  refine tl_c ta_iload ?_
  refine tl_c ta_ild ?_
  refine tl_c ta_iret ?_
  exact trivial
set_option maxRecDepth 20000 in
theorem ok_X12_agrees (l : Launch) : ce_OkL l cX12_agrees RX12 2 (some .int) 1 0 0 pc_X12_agrees 0 tb_X12_agrees := by
  unfold tb_X12_agrees
  refine ok_c (j := 1) rfl (ok_aload_n (j := ⟨0, by decide⟩) (pc := 0) rfl rfl (by decide +kernel)) ?_
  refine ok_c (j := 2) rfl (ok_getS (f := 5) (ci := 12) (C := RX12) (T := TX12) (N := 45) (ix := 25) (pc := 1) rfl rfl (by decide +kernel) rfl (fun _ => rfl) rfl cw_X12 (by decide) rfl wd_829) ?_
  refine ok_c (j := 3) rfl (ok_iload_n (j := ⟨1, by decide⟩) (pc := 4) rfl rfl (by decide +kernel)) ?_
  refine ok_c (j := 4) rfl (ok_iconst (n := 1) (pc := 5) rfl rfl (by decide +kernel) (by decide)) ?_
  refine ok_c (j := 5) rfl (ok_ist (pc := 6) rfl rfl (by decide +kernel) rfl) ?_
  refine ok_c (j := 6) rfl (ok_aload_n (j := ⟨0, by decide⟩) (pc := 7) rfl rfl (by decide +kernel)) ?_
  refine ok_c (j := 7) rfl (ok_getS (f := 6) (ci := 12) (C := RX12) (T := TX12) (N := 45) (ix := 28) (pc := 8) rfl rfl (by decide +kernel) rfl (fun _ => rfl) rfl cw_X12 (by decide) rfl wd_830) ?_
  refine ok_c (j := 8) rfl (ok_iload_n (j := ⟨1, by decide⟩) (pc := 11) rfl rfl (by decide +kernel)) ?_
  refine ok_c (j := 9) rfl (ok_aload_n (j := ⟨0, by decide⟩) (pc := 12) rfl rfl (by decide +kernel)) ?_
  refine ok_c (j := 10) rfl (ok_getS (f := 3) (ci := 12) (C := RX12) (T := TX12) (N := 45) (ix := 19) (pc := 13) rfl rfl (by decide +kernel) rfl (fun _ => rfl) rfl cw_X12 (by decide) rfl wd_827) ?_
  refine ok_c (j := 11) rfl (ok_iload_n (j := ⟨1, by decide⟩) (pc := 16) rfl rfl (by decide +kernel)) ?_
  refine ok_c (j := 12) rfl (ok_ild (pc := 17) rfl rfl (by decide +kernel) rfl) ?_
  refine ok_c (j := 13) rfl (ok_ist (pc := 18) rfl rfl (by decide +kernel) rfl) ?_
  refine ok_c (j := 14) rfl (ok_aload_n (j := ⟨0, by decide⟩) (pc := 19) rfl rfl (by decide +kernel)) ?_
  refine ok_c (j := 15) rfl (ok_getS (f := 6) (ci := 12) (C := RX12) (T := TX12) (N := 45) (ix := 28) (pc := 20) rfl rfl (by decide +kernel) rfl (fun _ => rfl) rfl cw_X12 (by decide) rfl wd_830) ?_
  refine ok_c (j := 16) rfl (ok_iload_n (j := ⟨1, by decide⟩) (pc := 23) rfl rfl (by decide +kernel)) ?_
  refine ok_c (j := 17) rfl (ok_ild (pc := 24) rfl rfl (by decide +kernel) rfl) ?_
  refine ok_c (j := 18) rfl (ok_iret (pc := 25) rfl (by decide +kernel) rfl) ?_
  exact trivial
noncomputable def F_X12_agrees := ce_fI tb_X12_agrees 2 (some 20)
theorem ct_X12_agrees (l : Launch) : ce_callee l yX12_agrees 1 1 0 0 (ce_wI F_X12_agrees) := ⟨_, _, _, ce_ctr_of (pcs := pc_X12_agrees) (by decide +kernel) rfl (ok_X12_agrees l ) ce_fI_run, ce_tw_at wd_1111 rfl, by decide, by decide +kernel, by decide +kernel, by decide +kernel⟩
def pc_X12_keeps : List Nat := [0, 1, 2, 3, 5, 8, 10, 11, 12, 13, 14, 15, 16, 17, 18, 21, 22, 23, 26, 27, 28, 29, 30, 33, 34, 35, 36, 37, 40, 41, 42, 43, 44, 47, 48, 49, 50, 51, 54, 55, 56, 57, 58, 61, 62, 63, 64, 65, 68, 69, 70, 71, 74, 77]
noncomputable def tb_X12_keeps : List ce_Op := [o_int 0, o_istore 2, o_iload 2, o_int 6, o_cmpge 53, o_int 60, o_iload 1, o_bin q_mul, o_int 5, o_iload 2, o_bin q_mul, o_bin q_add, o_istore 3, o_aload 0, o_getS 20 33 (fun _ => 0), o_iload 3, o_aload 0, o_getS 20 24 (fun _ => 0), o_iload 2, o_ild 24, o_ist 33, o_aload 0, o_getS 20 33 (fun _ => 0), o_iload 3, o_int 1, o_bin q_add, o_aload 0, o_getS 20 25 (fun _ => 0), o_iload 2, o_ild 25, o_ist 33, o_aload 0, o_getS 20 33 (fun _ => 0), o_iload 3, o_int 2, o_bin q_add, o_aload 0, o_getS 20 26 (fun _ => 0), o_iload 2, o_ild 26, o_ist 33, o_aload 0, o_getS 20 33 (fun _ => 0), o_iload 3, o_int 3, o_bin q_add, o_aload 0, o_getS 20 27 (fun _ => 0), o_iload 2, o_ild 27, o_ist 33, o_iinc 2 1, o_goto 2, o_vret]
theorem tl_X12_keeps : ce_TL tb_X12_keeps := by
  unfold tb_X12_keeps
  refine tl_c ta_int ?_
  refine tl_c ta_istore ?_
  refine tl_c ta_iload ?_
  refine tl_c ta_int ?_
  refine tl_c ta_cmpge ?_
  refine tl_c ta_int ?_
  refine tl_c ta_iload ?_
  refine tl_c ta_bin ?_
  refine tl_c ta_int ?_
  refine tl_c ta_iload ?_
  refine tl_c ta_bin ?_
  refine tl_c ta_bin ?_
  refine tl_c ta_istore ?_
  refine tl_c ta_aload ?_
  refine tl_c ta_getS ?_
  refine tl_c ta_iload ?_
  refine tl_c ta_aload ?_
  refine tl_c ta_getS ?_
  refine tl_c ta_iload ?_
  refine tl_c ta_ild ?_
  refine tl_c ta_ist ?_
  refine tl_c ta_aload ?_
  refine tl_c ta_getS ?_
  refine tl_c ta_iload ?_
  refine tl_c ta_int ?_
  refine tl_c ta_bin ?_
  refine tl_c ta_aload ?_
  refine tl_c ta_getS ?_
  refine tl_c ta_iload ?_
  refine tl_c ta_ild ?_
  refine tl_c ta_ist ?_
  refine tl_c ta_aload ?_
  refine tl_c ta_getS ?_
  refine tl_c ta_iload ?_
  refine tl_c ta_int ?_
  refine tl_c ta_bin ?_
  refine tl_c ta_aload ?_
  refine tl_c ta_getS ?_
  refine tl_c ta_iload ?_
  refine tl_c ta_ild ?_
  refine tl_c ta_ist ?_
  refine tl_c ta_aload ?_
  refine tl_c ta_getS ?_
  refine tl_c ta_iload ?_
  refine tl_c ta_int ?_
  refine tl_c ta_bin ?_
  refine tl_c ta_aload ?_
  refine tl_c ta_getS ?_
  refine tl_c ta_iload ?_
  refine tl_c ta_ild ?_
  refine tl_c ta_ist ?_
  refine tl_c ta_iinc ?_
  refine tl_c ta_goto ?_
  refine tl_c ta_vret ?_
  exact trivial
set_option maxRecDepth 20000 in
theorem ok_X12_keeps (l : Launch) : ce_OkL l cX12_keeps RX12 4 none 1 0 0 pc_X12_keeps 0 tb_X12_keeps := by
  unfold tb_X12_keeps
  refine ok_c (j := 1) rfl (ok_iconst (n := 0) (pc := 0) rfl rfl (by decide +kernel) (by decide)) ?_
  refine ok_c (j := 2) rfl (ok_istore_n (j := ⟨2, by decide⟩) (pc := 1) rfl rfl (by decide +kernel) (by decide)) ?_
  refine ok_c (j := 3) rfl (ok_iload_n (j := ⟨2, by decide⟩) (pc := 2) rfl rfl (by decide +kernel)) ?_
  refine ok_c (j := 4) rfl (ok_bipush (n := 6) (pc := 3) rfl rfl (by decide +kernel) (by decide)) ?_
  refine ok_c (j := 5) rfl (ok_cmpge (off := 72) (tg := 77) (pc := 5) rfl rfl (by decide +kernel) rfl (by decide)) ?_
  refine ok_c (j := 6) rfl (ok_bipush (n := 60) (pc := 8) rfl rfl (by decide +kernel) (by decide)) ?_
  refine ok_c (j := 7) rfl (ok_iload_n (j := ⟨1, by decide⟩) (pc := 10) rfl rfl (by decide +kernel)) ?_
  refine ok_c (j := 8) rfl (ok_imul (pc := 11) rfl rfl (by decide +kernel)) ?_
  refine ok_c (j := 9) rfl (ok_iconst (n := 5) (pc := 12) rfl rfl (by decide +kernel) (by decide)) ?_
  refine ok_c (j := 10) rfl (ok_iload_n (j := ⟨2, by decide⟩) (pc := 13) rfl rfl (by decide +kernel)) ?_
  refine ok_c (j := 11) rfl (ok_imul (pc := 14) rfl rfl (by decide +kernel)) ?_
  refine ok_c (j := 12) rfl (ok_iadd (pc := 15) rfl rfl (by decide +kernel)) ?_
  refine ok_c (j := 13) rfl (ok_istore_n (j := ⟨3, by decide⟩) (pc := 16) rfl rfl (by decide +kernel) (by decide)) ?_
  refine ok_c (j := 14) rfl (ok_aload_n (j := ⟨0, by decide⟩) (pc := 17) rfl rfl (by decide +kernel)) ?_
  refine ok_c (j := 15) rfl (ok_getS (f := 27) (ci := 12) (C := RX12) (T := TX12) (N := 45) (ix := 64) (pc := 18) rfl rfl (by decide +kernel) rfl (fun _ => rfl) rfl cw_X12 (by decide) rfl wd_851) ?_
  refine ok_c (j := 16) rfl (ok_iload_n (j := ⟨3, by decide⟩) (pc := 21) rfl rfl (by decide +kernel)) ?_
  refine ok_c (j := 17) rfl (ok_aload_n (j := ⟨0, by decide⟩) (pc := 22) rfl rfl (by decide +kernel)) ?_
  refine ok_c (j := 18) rfl (ok_getS (f := 3) (ci := 12) (C := RX12) (T := TX12) (N := 45) (ix := 19) (pc := 23) rfl rfl (by decide +kernel) rfl (fun _ => rfl) rfl cw_X12 (by decide) rfl wd_827) ?_
  refine ok_c (j := 19) rfl (ok_iload_n (j := ⟨2, by decide⟩) (pc := 26) rfl rfl (by decide +kernel)) ?_
  refine ok_c (j := 20) rfl (ok_ild (pc := 27) rfl rfl (by decide +kernel) rfl) ?_
  refine ok_c (j := 21) rfl (ok_ist (pc := 28) rfl rfl (by decide +kernel) rfl) ?_
  refine ok_c (j := 22) rfl (ok_aload_n (j := ⟨0, by decide⟩) (pc := 29) rfl rfl (by decide +kernel)) ?_
  refine ok_c (j := 23) rfl (ok_getS (f := 27) (ci := 12) (C := RX12) (T := TX12) (N := 45) (ix := 64) (pc := 30) rfl rfl (by decide +kernel) rfl (fun _ => rfl) rfl cw_X12 (by decide) rfl wd_851) ?_
  refine ok_c (j := 24) rfl (ok_iload_n (j := ⟨3, by decide⟩) (pc := 33) rfl rfl (by decide +kernel)) ?_
  refine ok_c (j := 25) rfl (ok_iconst (n := 1) (pc := 34) rfl rfl (by decide +kernel) (by decide)) ?_
  refine ok_c (j := 26) rfl (ok_iadd (pc := 35) rfl rfl (by decide +kernel)) ?_
  refine ok_c (j := 27) rfl (ok_aload_n (j := ⟨0, by decide⟩) (pc := 36) rfl rfl (by decide +kernel)) ?_
  refine ok_c (j := 28) rfl (ok_getS (f := 4) (ci := 12) (C := RX12) (T := TX12) (N := 45) (ix := 22) (pc := 37) rfl rfl (by decide +kernel) rfl (fun _ => rfl) rfl cw_X12 (by decide) rfl wd_828) ?_
  refine ok_c (j := 29) rfl (ok_iload_n (j := ⟨2, by decide⟩) (pc := 40) rfl rfl (by decide +kernel)) ?_
  refine ok_c (j := 30) rfl (ok_ild (pc := 41) rfl rfl (by decide +kernel) rfl) ?_
  refine ok_c (j := 31) rfl (ok_ist (pc := 42) rfl rfl (by decide +kernel) rfl) ?_
  refine ok_c (j := 32) rfl (ok_aload_n (j := ⟨0, by decide⟩) (pc := 43) rfl rfl (by decide +kernel)) ?_
  refine ok_c (j := 33) rfl (ok_getS (f := 27) (ci := 12) (C := RX12) (T := TX12) (N := 45) (ix := 64) (pc := 44) rfl rfl (by decide +kernel) rfl (fun _ => rfl) rfl cw_X12 (by decide) rfl wd_851) ?_
  refine ok_c (j := 34) rfl (ok_iload_n (j := ⟨3, by decide⟩) (pc := 47) rfl rfl (by decide +kernel)) ?_
  refine ok_c (j := 35) rfl (ok_iconst (n := 2) (pc := 48) rfl rfl (by decide +kernel) (by decide)) ?_
  refine ok_c (j := 36) rfl (ok_iadd (pc := 49) rfl rfl (by decide +kernel)) ?_
  refine ok_c (j := 37) rfl (ok_aload_n (j := ⟨0, by decide⟩) (pc := 50) rfl rfl (by decide +kernel)) ?_
  refine ok_c (j := 38) rfl (ok_getS (f := 5) (ci := 12) (C := RX12) (T := TX12) (N := 45) (ix := 25) (pc := 51) rfl rfl (by decide +kernel) rfl (fun _ => rfl) rfl cw_X12 (by decide) rfl wd_829) ?_
  refine ok_c (j := 39) rfl (ok_iload_n (j := ⟨2, by decide⟩) (pc := 54) rfl rfl (by decide +kernel)) ?_
  refine ok_c (j := 40) rfl (ok_ild (pc := 55) rfl rfl (by decide +kernel) rfl) ?_
  refine ok_c (j := 41) rfl (ok_ist (pc := 56) rfl rfl (by decide +kernel) rfl) ?_
  refine ok_c (j := 42) rfl (ok_aload_n (j := ⟨0, by decide⟩) (pc := 57) rfl rfl (by decide +kernel)) ?_
  refine ok_c (j := 43) rfl (ok_getS (f := 27) (ci := 12) (C := RX12) (T := TX12) (N := 45) (ix := 64) (pc := 58) rfl rfl (by decide +kernel) rfl (fun _ => rfl) rfl cw_X12 (by decide) rfl wd_851) ?_
  refine ok_c (j := 44) rfl (ok_iload_n (j := ⟨3, by decide⟩) (pc := 61) rfl rfl (by decide +kernel)) ?_
  refine ok_c (j := 45) rfl (ok_iconst (n := 3) (pc := 62) rfl rfl (by decide +kernel) (by decide)) ?_
  refine ok_c (j := 46) rfl (ok_iadd (pc := 63) rfl rfl (by decide +kernel)) ?_
  refine ok_c (j := 47) rfl (ok_aload_n (j := ⟨0, by decide⟩) (pc := 64) rfl rfl (by decide +kernel)) ?_
  refine ok_c (j := 48) rfl (ok_getS (f := 6) (ci := 12) (C := RX12) (T := TX12) (N := 45) (ix := 28) (pc := 65) rfl rfl (by decide +kernel) rfl (fun _ => rfl) rfl cw_X12 (by decide) rfl wd_830) ?_
  refine ok_c (j := 49) rfl (ok_iload_n (j := ⟨2, by decide⟩) (pc := 68) rfl rfl (by decide +kernel)) ?_
  refine ok_c (j := 50) rfl (ok_ild (pc := 69) rfl rfl (by decide +kernel) rfl) ?_
  refine ok_c (j := 51) rfl (ok_ist (pc := 70) rfl rfl (by decide +kernel) rfl) ?_
  refine ok_c (j := 52) rfl (ok_iinc (n := 1) (pc := 71) rfl rfl (by decide +kernel) (by decide) (by decide)) ?_
  refine ok_c (j := 53) rfl (ok_goto (off := (-72)) (tg := 2) (pc := 74) rfl (by decide +kernel) rfl (by decide)) ?_
  refine ok_c (j := 54) rfl (ok_vret (pc := 77) rfl (by decide +kernel) rfl) ?_
  exact trivial
noncomputable def F_X12_keeps := ce_fV tb_X12_keeps 4 (some 20)
theorem ct_X12_keeps (l : Launch) : ce_callee l yX12_keeps 1 1 0 0 (ce_wV F_X12_keeps) := ⟨_, _, _, ce_ctr_of (pcs := pc_X12_keeps) (by decide +kernel) rfl (ok_X12_keeps l ) ce_fV_run, ce_tw_at wd_1119 rfl, by decide, by decide +kernel, by decide +kernel, by decide +kernel⟩
def pc_X12_putsBack : List Nat := [0, 1, 2, 3, 4, 7, 9, 10, 11, 12, 13, 14, 15, 17, 18, 21, 22, 23, 26, 28, 29, 30, 31, 34, 35, 36, 39, 41, 42, 43, 44, 45, 46, 49, 50, 51, 54, 56, 57, 58, 59, 60, 61, 64, 65, 66, 69, 71, 72, 73, 74, 75, 78, 81]
noncomputable def tb_X12_putsBack : List ce_Op := [o_int 0, o_istore 3, o_iload 3, o_iload 2, o_cmpge 53, o_int 60, o_iload 1, o_bin q_mul, o_int 5, o_iload 3, o_bin q_mul, o_bin q_add, o_istore 4, o_aload 0, o_getS 20 24 (fun _ => 0), o_iload 3, o_aload 0, o_getS 20 33 (fun _ => 0), o_iload 4, o_ild 33, o_ist 24, o_aload 0, o_getS 20 25 (fun _ => 0), o_iload 3, o_aload 0, o_getS 20 33 (fun _ => 0), o_iload 4, o_int 1, o_bin q_add, o_ild 33, o_ist 25, o_aload 0, o_getS 20 26 (fun _ => 0), o_iload 3, o_aload 0, o_getS 20 33 (fun _ => 0), o_iload 4, o_int 2, o_bin q_add, o_ild 33, o_ist 26, o_aload 0, o_getS 20 27 (fun _ => 0), o_iload 3, o_aload 0, o_getS 20 33 (fun _ => 0), o_iload 4, o_int 3, o_bin q_add, o_ild 33, o_ist 27, o_iinc 3 1, o_goto 2, o_vret]
theorem tl_X12_putsBack : ce_TL tb_X12_putsBack := by
  unfold tb_X12_putsBack
  refine tl_c ta_int ?_
  refine tl_c ta_istore ?_
  refine tl_c ta_iload ?_
  refine tl_c ta_iload ?_
  refine tl_c ta_cmpge ?_
  refine tl_c ta_int ?_
  refine tl_c ta_iload ?_
  refine tl_c ta_bin ?_
  refine tl_c ta_int ?_
  refine tl_c ta_iload ?_
  refine tl_c ta_bin ?_
  refine tl_c ta_bin ?_
  refine tl_c ta_istore ?_
  refine tl_c ta_aload ?_
  refine tl_c ta_getS ?_
  refine tl_c ta_iload ?_
  refine tl_c ta_aload ?_
  refine tl_c ta_getS ?_
  refine tl_c ta_iload ?_
  refine tl_c ta_ild ?_
  refine tl_c ta_ist ?_
  refine tl_c ta_aload ?_
  refine tl_c ta_getS ?_
  refine tl_c ta_iload ?_
  refine tl_c ta_aload ?_
  refine tl_c ta_getS ?_
  refine tl_c ta_iload ?_
  refine tl_c ta_int ?_
  refine tl_c ta_bin ?_
  refine tl_c ta_ild ?_
  refine tl_c ta_ist ?_
  refine tl_c ta_aload ?_
  refine tl_c ta_getS ?_
  refine tl_c ta_iload ?_
  refine tl_c ta_aload ?_
  refine tl_c ta_getS ?_
  refine tl_c ta_iload ?_
  refine tl_c ta_int ?_
  refine tl_c ta_bin ?_
  refine tl_c ta_ild ?_
  refine tl_c ta_ist ?_
  refine tl_c ta_aload ?_
  refine tl_c ta_getS ?_
  refine tl_c ta_iload ?_
  refine tl_c ta_aload ?_
  refine tl_c ta_getS ?_
  refine tl_c ta_iload ?_
  refine tl_c ta_int ?_
  refine tl_c ta_bin ?_
  refine tl_c ta_ild ?_
  refine tl_c ta_ist ?_
  refine tl_c ta_iinc ?_
  refine tl_c ta_goto ?_
  refine tl_c ta_vret ?_
  exact trivial
set_option maxRecDepth 20000 in
theorem ok_X12_putsBack (l : Launch) : ce_OkL l cX12_putsBack RX12 5 none 1 0 0 pc_X12_putsBack 0 tb_X12_putsBack := by
  unfold tb_X12_putsBack
  refine ok_c (j := 1) rfl (ok_iconst (n := 0) (pc := 0) rfl rfl (by decide +kernel) (by decide)) ?_
  refine ok_c (j := 2) rfl (ok_istore_n (j := ⟨3, by decide⟩) (pc := 1) rfl rfl (by decide +kernel) (by decide)) ?_
  refine ok_c (j := 3) rfl (ok_iload_n (j := ⟨3, by decide⟩) (pc := 2) rfl rfl (by decide +kernel)) ?_
  refine ok_c (j := 4) rfl (ok_iload_n (j := ⟨2, by decide⟩) (pc := 3) rfl rfl (by decide +kernel)) ?_
  refine ok_c (j := 5) rfl (ok_cmpge (off := 77) (tg := 81) (pc := 4) rfl rfl (by decide +kernel) rfl (by decide)) ?_
  refine ok_c (j := 6) rfl (ok_bipush (n := 60) (pc := 7) rfl rfl (by decide +kernel) (by decide)) ?_
  refine ok_c (j := 7) rfl (ok_iload_n (j := ⟨1, by decide⟩) (pc := 9) rfl rfl (by decide +kernel)) ?_
  refine ok_c (j := 8) rfl (ok_imul (pc := 10) rfl rfl (by decide +kernel)) ?_
  refine ok_c (j := 9) rfl (ok_iconst (n := 5) (pc := 11) rfl rfl (by decide +kernel) (by decide)) ?_
  refine ok_c (j := 10) rfl (ok_iload_n (j := ⟨3, by decide⟩) (pc := 12) rfl rfl (by decide +kernel)) ?_
  refine ok_c (j := 11) rfl (ok_imul (pc := 13) rfl rfl (by decide +kernel)) ?_
  refine ok_c (j := 12) rfl (ok_iadd (pc := 14) rfl rfl (by decide +kernel)) ?_
  refine ok_c (j := 13) rfl (ok_istore (j := 4) (pc := 15) rfl rfl (by decide +kernel) (by decide)) ?_
  refine ok_c (j := 14) rfl (ok_aload_n (j := ⟨0, by decide⟩) (pc := 17) rfl rfl (by decide +kernel)) ?_
  refine ok_c (j := 15) rfl (ok_getS (f := 3) (ci := 12) (C := RX12) (T := TX12) (N := 45) (ix := 19) (pc := 18) rfl rfl (by decide +kernel) rfl (fun _ => rfl) rfl cw_X12 (by decide) rfl wd_827) ?_
  refine ok_c (j := 16) rfl (ok_iload_n (j := ⟨3, by decide⟩) (pc := 21) rfl rfl (by decide +kernel)) ?_
  refine ok_c (j := 17) rfl (ok_aload_n (j := ⟨0, by decide⟩) (pc := 22) rfl rfl (by decide +kernel)) ?_
  refine ok_c (j := 18) rfl (ok_getS (f := 27) (ci := 12) (C := RX12) (T := TX12) (N := 45) (ix := 64) (pc := 23) rfl rfl (by decide +kernel) rfl (fun _ => rfl) rfl cw_X12 (by decide) rfl wd_851) ?_
  refine ok_c (j := 19) rfl (ok_iload (j := 4) (pc := 26) rfl rfl (by decide +kernel)) ?_
  refine ok_c (j := 20) rfl (ok_ild (pc := 28) rfl rfl (by decide +kernel) rfl) ?_
  refine ok_c (j := 21) rfl (ok_ist (pc := 29) rfl rfl (by decide +kernel) rfl) ?_
  refine ok_c (j := 22) rfl (ok_aload_n (j := ⟨0, by decide⟩) (pc := 30) rfl rfl (by decide +kernel)) ?_
  refine ok_c (j := 23) rfl (ok_getS (f := 4) (ci := 12) (C := RX12) (T := TX12) (N := 45) (ix := 22) (pc := 31) rfl rfl (by decide +kernel) rfl (fun _ => rfl) rfl cw_X12 (by decide) rfl wd_828) ?_
  refine ok_c (j := 24) rfl (ok_iload_n (j := ⟨3, by decide⟩) (pc := 34) rfl rfl (by decide +kernel)) ?_
  refine ok_c (j := 25) rfl (ok_aload_n (j := ⟨0, by decide⟩) (pc := 35) rfl rfl (by decide +kernel)) ?_
  refine ok_c (j := 26) rfl (ok_getS (f := 27) (ci := 12) (C := RX12) (T := TX12) (N := 45) (ix := 64) (pc := 36) rfl rfl (by decide +kernel) rfl (fun _ => rfl) rfl cw_X12 (by decide) rfl wd_851) ?_
  refine ok_c (j := 27) rfl (ok_iload (j := 4) (pc := 39) rfl rfl (by decide +kernel)) ?_
  refine ok_c (j := 28) rfl (ok_iconst (n := 1) (pc := 41) rfl rfl (by decide +kernel) (by decide)) ?_
  refine ok_c (j := 29) rfl (ok_iadd (pc := 42) rfl rfl (by decide +kernel)) ?_
  refine ok_c (j := 30) rfl (ok_ild (pc := 43) rfl rfl (by decide +kernel) rfl) ?_
  refine ok_c (j := 31) rfl (ok_ist (pc := 44) rfl rfl (by decide +kernel) rfl) ?_
  refine ok_c (j := 32) rfl (ok_aload_n (j := ⟨0, by decide⟩) (pc := 45) rfl rfl (by decide +kernel)) ?_
  refine ok_c (j := 33) rfl (ok_getS (f := 5) (ci := 12) (C := RX12) (T := TX12) (N := 45) (ix := 25) (pc := 46) rfl rfl (by decide +kernel) rfl (fun _ => rfl) rfl cw_X12 (by decide) rfl wd_829) ?_
  refine ok_c (j := 34) rfl (ok_iload_n (j := ⟨3, by decide⟩) (pc := 49) rfl rfl (by decide +kernel)) ?_
  refine ok_c (j := 35) rfl (ok_aload_n (j := ⟨0, by decide⟩) (pc := 50) rfl rfl (by decide +kernel)) ?_
  refine ok_c (j := 36) rfl (ok_getS (f := 27) (ci := 12) (C := RX12) (T := TX12) (N := 45) (ix := 64) (pc := 51) rfl rfl (by decide +kernel) rfl (fun _ => rfl) rfl cw_X12 (by decide) rfl wd_851) ?_
  refine ok_c (j := 37) rfl (ok_iload (j := 4) (pc := 54) rfl rfl (by decide +kernel)) ?_
  refine ok_c (j := 38) rfl (ok_iconst (n := 2) (pc := 56) rfl rfl (by decide +kernel) (by decide)) ?_
  refine ok_c (j := 39) rfl (ok_iadd (pc := 57) rfl rfl (by decide +kernel)) ?_
  refine ok_c (j := 40) rfl (ok_ild (pc := 58) rfl rfl (by decide +kernel) rfl) ?_
  refine ok_c (j := 41) rfl (ok_ist (pc := 59) rfl rfl (by decide +kernel) rfl) ?_
  refine ok_c (j := 42) rfl (ok_aload_n (j := ⟨0, by decide⟩) (pc := 60) rfl rfl (by decide +kernel)) ?_
  refine ok_c (j := 43) rfl (ok_getS (f := 6) (ci := 12) (C := RX12) (T := TX12) (N := 45) (ix := 28) (pc := 61) rfl rfl (by decide +kernel) rfl (fun _ => rfl) rfl cw_X12 (by decide) rfl wd_830) ?_
  refine ok_c (j := 44) rfl (ok_iload_n (j := ⟨3, by decide⟩) (pc := 64) rfl rfl (by decide +kernel)) ?_
  refine ok_c (j := 45) rfl (ok_aload_n (j := ⟨0, by decide⟩) (pc := 65) rfl rfl (by decide +kernel)) ?_
  refine ok_c (j := 46) rfl (ok_getS (f := 27) (ci := 12) (C := RX12) (T := TX12) (N := 45) (ix := 64) (pc := 66) rfl rfl (by decide +kernel) rfl (fun _ => rfl) rfl cw_X12 (by decide) rfl wd_851) ?_
  refine ok_c (j := 47) rfl (ok_iload (j := 4) (pc := 69) rfl rfl (by decide +kernel)) ?_
  refine ok_c (j := 48) rfl (ok_iconst (n := 3) (pc := 71) rfl rfl (by decide +kernel) (by decide)) ?_
  refine ok_c (j := 49) rfl (ok_iadd (pc := 72) rfl rfl (by decide +kernel)) ?_
  refine ok_c (j := 50) rfl (ok_ild (pc := 73) rfl rfl (by decide +kernel) rfl) ?_
  refine ok_c (j := 51) rfl (ok_ist (pc := 74) rfl rfl (by decide +kernel) rfl) ?_
  refine ok_c (j := 52) rfl (ok_iinc (n := 1) (pc := 75) rfl rfl (by decide +kernel) (by decide) (by decide)) ?_
  refine ok_c (j := 53) rfl (ok_goto (off := (-76)) (tg := 2) (pc := 78) rfl (by decide +kernel) rfl (by decide)) ?_
  refine ok_c (j := 54) rfl (ok_vret (pc := 81) rfl (by decide +kernel) rfl) ?_
  exact trivial
noncomputable def F_X12_putsBack := ce_fV tb_X12_putsBack 5 (some 20)
theorem ct_X12_putsBack (l : Launch) : ce_callee l yX12_putsBack 2 1 0 0 (ce_wV F_X12_putsBack) := ⟨_, _, _, ce_ctr_of (pcs := pc_X12_putsBack) (by decide +kernel) rfl (ok_X12_putsBack l ) ce_fV_run, ce_tw_at wd_1131 rfl, by decide, by decide +kernel, by decide +kernel, by decide +kernel⟩
def pc_X12_standing : List Nat := [0, 1, 2, 3, 4, 5, 6, 9, 12, 13, 14, 17, 18, 19, 20, 23, 24, 27, 28, 29, 30, 33, 36, 37]
noncomputable def tb_X12_standing : List ce_Op := [o_int 0, o_istore 2, o_int 0, o_istore 3, o_iload 3, o_aload 0, o_getI 20 7, o_cmpge 22, o_iload 2, o_aload 0, o_getS 20 26 (fun _ => 0), o_iload 3, o_ild 26, o_iload 1, o_cmpne 17, o_int 1, o_goto 18, o_int 0, o_bin q_add, o_istore 2, o_iinc 3 1, o_goto 4, o_iload 2, o_iret]
theorem tl_X12_standing : ce_TL tb_X12_standing := by
  unfold tb_X12_standing
  refine tl_c ta_int ?_
  refine tl_c ta_istore ?_
  refine tl_c ta_int ?_
  refine tl_c ta_istore ?_
  refine tl_c ta_iload ?_
  refine tl_c ta_aload ?_
  refine tl_c ta_getI ?_
  refine tl_c ta_cmpge ?_
  refine tl_c ta_iload ?_
  refine tl_c ta_aload ?_
  refine tl_c ta_getS ?_
  refine tl_c ta_iload ?_
  refine tl_c ta_ild ?_
  refine tl_c ta_iload ?_
  refine tl_c ta_cmpne ?_
  refine tl_c ta_int ?_
  refine tl_c ta_goto ?_
  refine tl_c ta_int ?_
  refine tl_c ta_bin ?_
  refine tl_c ta_istore ?_
  refine tl_c ta_iinc ?_
  refine tl_c ta_goto ?_
  refine tl_c ta_iload ?_
  refine tl_c ta_iret ?_
  exact trivial
set_option maxRecDepth 20000 in
theorem ok_X12_standing (l : Launch) : ce_OkL l cX12_standing RX12 4 (some .int) 1 0 0 pc_X12_standing 0 tb_X12_standing := by
  unfold tb_X12_standing
  refine ok_c (j := 1) rfl (ok_iconst (n := 0) (pc := 0) rfl rfl (by decide +kernel) (by decide)) ?_
  refine ok_c (j := 2) rfl (ok_istore_n (j := ⟨2, by decide⟩) (pc := 1) rfl rfl (by decide +kernel) (by decide)) ?_
  refine ok_c (j := 3) rfl (ok_iconst (n := 0) (pc := 2) rfl rfl (by decide +kernel) (by decide)) ?_
  refine ok_c (j := 4) rfl (ok_istore_n (j := ⟨3, by decide⟩) (pc := 3) rfl rfl (by decide +kernel) (by decide)) ?_
  refine ok_c (j := 5) rfl (ok_iload_n (j := ⟨3, by decide⟩) (pc := 4) rfl rfl (by decide +kernel)) ?_
  refine ok_c (j := 6) rfl (ok_aload_n (j := ⟨0, by decide⟩) (pc := 5) rfl rfl (by decide +kernel)) ?_
  refine ok_c (j := 7) rfl (ok_getI (ci := 12) (C := RX12) (T := TX12) (N := 45) (ix := 82) (pc := 6) rfl rfl (by decide +kernel) rfl (fun _ => rfl) rfl cw_X12 (by decide) rfl wd_831) ?_
  refine ok_c (j := 8) rfl (ok_cmpge (off := 27) (tg := 36) (pc := 9) rfl rfl (by decide +kernel) rfl (by decide)) ?_
  refine ok_c (j := 9) rfl (ok_iload_n (j := ⟨2, by decide⟩) (pc := 12) rfl rfl (by decide +kernel)) ?_
  refine ok_c (j := 10) rfl (ok_aload_n (j := ⟨0, by decide⟩) (pc := 13) rfl rfl (by decide +kernel)) ?_
  refine ok_c (j := 11) rfl (ok_getS (f := 5) (ci := 12) (C := RX12) (T := TX12) (N := 45) (ix := 25) (pc := 14) rfl rfl (by decide +kernel) rfl (fun _ => rfl) rfl cw_X12 (by decide) rfl wd_829) ?_
  refine ok_c (j := 12) rfl (ok_iload_n (j := ⟨3, by decide⟩) (pc := 17) rfl rfl (by decide +kernel)) ?_
  refine ok_c (j := 13) rfl (ok_ild (pc := 18) rfl rfl (by decide +kernel) rfl) ?_
  refine ok_c (j := 14) rfl (ok_iload_n (j := ⟨1, by decide⟩) (pc := 19) rfl rfl (by decide +kernel)) ?_
  refine ok_c (j := 15) rfl (ok_cmpne (off := 7) (tg := 27) (pc := 20) rfl rfl (by decide +kernel) rfl (by decide)) ?_
  refine ok_c (j := 16) rfl (ok_iconst (n := 1) (pc := 23) rfl rfl (by decide +kernel) (by decide)) ?_
  refine ok_c (j := 17) rfl (ok_goto (off := 4) (tg := 28) (pc := 24) rfl (by decide +kernel) rfl (by decide)) ?_
  refine ok_c (j := 18) rfl (ok_iconst (n := 0) (pc := 27) rfl rfl (by decide +kernel) (by decide)) ?_
  refine ok_c (j := 19) rfl (ok_iadd (pc := 28) rfl rfl (by decide +kernel)) ?_
  refine ok_c (j := 20) rfl (ok_istore_n (j := ⟨2, by decide⟩) (pc := 29) rfl rfl (by decide +kernel) (by decide)) ?_
  refine ok_c (j := 21) rfl (ok_iinc (n := 1) (pc := 30) rfl rfl (by decide +kernel) (by decide) (by decide)) ?_
  refine ok_c (j := 22) rfl (ok_goto (off := (-29)) (tg := 4) (pc := 33) rfl (by decide +kernel) rfl (by decide)) ?_
  refine ok_c (j := 23) rfl (ok_iload_n (j := ⟨2, by decide⟩) (pc := 36) rfl rfl (by decide +kernel)) ?_
  refine ok_c (j := 24) rfl (ok_iret (pc := 37) rfl (by decide +kernel) rfl) ?_
  exact trivial
noncomputable def F_X12_standing := ce_fI tb_X12_standing 4 (some 20)
theorem ct_X12_standing (l : Launch) : ce_callee l yX12_standing 1 1 0 0 (ce_wI F_X12_standing) := ⟨_, _, _, ce_ctr_of (pcs := pc_X12_standing) (by decide +kernel) rfl (ok_X12_standing l ) ce_fI_run, ce_tw_at wd_1123 rfl, by decide, by decide +kernel, by decide +kernel, by decide +kernel⟩
def pc_X12_isRule : List Nat := [0, 1, 4, 5, 8, 11, 12, 15, 16, 18, 21, 22, 25, 26]
noncomputable def tb_X12_isRule : List ce_Op := [o_iload 0, o_iflt 12, o_iload 0, o_int 1999, o_cmpgt 12, o_iload 1, o_iflt 12, o_iload 1, o_int 10, o_cmpgt 12, o_int 1, o_goto 13, o_int 0, o_zret]
theorem tl_X12_isRule : ce_TL tb_X12_isRule := by
  unfold tb_X12_isRule
  refine tl_c ta_iload ?_
  refine tl_c ta_iflt ?_
  refine tl_c ta_iload ?_
  refine tl_c ta_int ?_
  refine tl_c ta_cmpgt ?_
  refine tl_c ta_iload ?_
  refine tl_c ta_iflt ?_
  refine tl_c ta_iload ?_
  refine tl_c ta_int ?_
  refine tl_c ta_cmpgt ?_
  refine tl_c ta_int ?_
  refine tl_c ta_goto ?_
  refine tl_c ta_int ?_
  refine tl_c ta_zret ?_
  exact trivial
set_option maxRecDepth 20000 in
theorem ok_X12_isRule (l : Launch) : ce_OkL l cX12_isRule RX12 2 (some .boolean) 1 0 0 pc_X12_isRule 0 tb_X12_isRule := by
  unfold tb_X12_isRule
  refine ok_c (j := 1) rfl (ok_iload_n (j := ⟨0, by decide⟩) (pc := 0) rfl rfl (by decide +kernel)) ?_
  refine ok_c (j := 2) rfl (ok_iflt (off := 24) (tg := 25) (pc := 1) rfl rfl (by decide +kernel) rfl (by decide)) ?_
  refine ok_c (j := 3) rfl (ok_iload_n (j := ⟨0, by decide⟩) (pc := 4) rfl rfl (by decide +kernel)) ?_
  refine ok_c (j := 4) rfl (ok_sipush (n := 1999) (pc := 5) rfl rfl (by decide +kernel) (by decide)) ?_
  refine ok_c (j := 5) rfl (ok_cmpgt (off := 17) (tg := 25) (pc := 8) rfl rfl (by decide +kernel) rfl (by decide)) ?_
  refine ok_c (j := 6) rfl (ok_iload_n (j := ⟨1, by decide⟩) (pc := 11) rfl rfl (by decide +kernel)) ?_
  refine ok_c (j := 7) rfl (ok_iflt (off := 13) (tg := 25) (pc := 12) rfl rfl (by decide +kernel) rfl (by decide)) ?_
  refine ok_c (j := 8) rfl (ok_iload_n (j := ⟨1, by decide⟩) (pc := 15) rfl rfl (by decide +kernel)) ?_
  refine ok_c (j := 9) rfl (ok_bipush (n := 10) (pc := 16) rfl rfl (by decide +kernel) (by decide)) ?_
  refine ok_c (j := 10) rfl (ok_cmpgt (off := 7) (tg := 25) (pc := 18) rfl rfl (by decide +kernel) rfl (by decide)) ?_
  refine ok_c (j := 11) rfl (ok_iconst (n := 1) (pc := 21) rfl rfl (by decide +kernel) (by decide)) ?_
  refine ok_c (j := 12) rfl (ok_goto (off := 4) (tg := 26) (pc := 22) rfl (by decide +kernel) rfl (by decide)) ?_
  refine ok_c (j := 13) rfl (ok_iconst (n := 0) (pc := 25) rfl rfl (by decide +kernel) (by decide)) ?_
  refine ok_c (j := 14) rfl (ok_zret (pc := 26) rfl (by decide +kernel) rfl) ?_
  exact trivial
noncomputable def F_X12_isRule := ce_fI tb_X12_isRule 2 none
theorem ct_X12_isRule (l : Launch) : ce_callee l yX12_isRule 2 1 0 0 (ce_wI F_X12_isRule) := ⟨_, _, _, ce_ctr_of (pcs := pc_X12_isRule) (by decide +kernel) rfl (ok_X12_isRule l ) ce_fI_run, ce_tw_at wd_1138 rfl, by decide, by decide +kernel, by decide +kernel, by decide +kernel⟩
def pc_X12_divisor : List Nat := [0, 1, 2, 3, 4, 5, 8, 9, 10, 11, 13, 14, 15, 17, 18, 21, 22]
noncomputable def tb_X12_divisor : List ce_Op := [o_iload 0, o_istore 2, o_iload 1, o_istore 3, o_iload 3, o_ifeq 15, o_iload 2, o_iload 3, o_rem, o_istore 4, o_iload 3, o_istore 2, o_iload 4, o_istore 3, o_goto 4, o_iload 2, o_iret]
theorem tl_X12_divisor : ce_TL tb_X12_divisor := by
  unfold tb_X12_divisor
  refine tl_c ta_iload ?_
  refine tl_c ta_istore ?_
  refine tl_c ta_iload ?_
  refine tl_c ta_istore ?_
  refine tl_c ta_iload ?_
  refine tl_c ta_ifeq ?_
  refine tl_c ta_iload ?_
  refine tl_c ta_iload ?_
  refine tl_c ta_rem ?_
  refine tl_c ta_istore ?_
  refine tl_c ta_iload ?_
  refine tl_c ta_istore ?_
  refine tl_c ta_iload ?_
  refine tl_c ta_istore ?_
  refine tl_c ta_goto ?_
  refine tl_c ta_iload ?_
  refine tl_c ta_iret ?_
  exact trivial
set_option maxRecDepth 20000 in
theorem ok_X12_divisor (l : Launch) : ce_OkL l cX12_divisor RX12 5 (some .int) 1 0 0 pc_X12_divisor 0 tb_X12_divisor := by
  unfold tb_X12_divisor
  refine ok_c (j := 1) rfl (ok_iload_n (j := ⟨0, by decide⟩) (pc := 0) rfl rfl (by decide +kernel)) ?_
  refine ok_c (j := 2) rfl (ok_istore_n (j := ⟨2, by decide⟩) (pc := 1) rfl rfl (by decide +kernel) (by decide)) ?_
  refine ok_c (j := 3) rfl (ok_iload_n (j := ⟨1, by decide⟩) (pc := 2) rfl rfl (by decide +kernel)) ?_
  refine ok_c (j := 4) rfl (ok_istore_n (j := ⟨3, by decide⟩) (pc := 3) rfl rfl (by decide +kernel) (by decide)) ?_
  refine ok_c (j := 5) rfl (ok_iload_n (j := ⟨3, by decide⟩) (pc := 4) rfl rfl (by decide +kernel)) ?_
  refine ok_c (j := 6) rfl (ok_ifeq (off := 16) (tg := 21) (pc := 5) rfl rfl (by decide +kernel) rfl (by decide)) ?_
  refine ok_c (j := 7) rfl (ok_iload_n (j := ⟨2, by decide⟩) (pc := 8) rfl rfl (by decide +kernel)) ?_
  refine ok_c (j := 8) rfl (ok_iload_n (j := ⟨3, by decide⟩) (pc := 9) rfl rfl (by decide +kernel)) ?_
  refine ok_c (j := 9) rfl (ok_irem (pc := 10) rfl rfl (by decide +kernel)) ?_
  refine ok_c (j := 10) rfl (ok_istore (j := 4) (pc := 11) rfl rfl (by decide +kernel) (by decide)) ?_
  refine ok_c (j := 11) rfl (ok_iload_n (j := ⟨3, by decide⟩) (pc := 13) rfl rfl (by decide +kernel)) ?_
  refine ok_c (j := 12) rfl (ok_istore_n (j := ⟨2, by decide⟩) (pc := 14) rfl rfl (by decide +kernel) (by decide)) ?_
  refine ok_c (j := 13) rfl (ok_iload (j := 4) (pc := 15) rfl rfl (by decide +kernel)) ?_
  refine ok_c (j := 14) rfl (ok_istore_n (j := ⟨3, by decide⟩) (pc := 17) rfl rfl (by decide +kernel) (by decide)) ?_
  refine ok_c (j := 15) rfl (ok_goto (off := (-14)) (tg := 4) (pc := 18) rfl (by decide +kernel) rfl (by decide)) ?_
  refine ok_c (j := 16) rfl (ok_iload_n (j := ⟨2, by decide⟩) (pc := 21) rfl rfl (by decide +kernel)) ?_
  refine ok_c (j := 17) rfl (ok_iret (pc := 22) rfl (by decide +kernel) rfl) ?_
  exact trivial
noncomputable def F_X12_divisor := ce_fI tb_X12_divisor 5 none
theorem ct_X12_divisor (l : Launch) : ce_callee l yX12_divisor 2 1 0 0 (ce_wI F_X12_divisor) := ⟨_, _, _, ce_ctr_of (pcs := pc_X12_divisor) (by decide +kernel) rfl (ok_X12_divisor l ) ce_fI_run, ce_tw_at wd_1206 rfl, by decide, by decide +kernel, by decide +kernel, by decide +kernel⟩
def pc_X12_isSheet : List Nat := [0, 1, 4, 5, 6, 9, 10, 13, 14]
noncomputable def tb_X12_isSheet : List ce_Op := [o_iload 0, o_iflt 7, o_iload 0, o_int 4, o_cmpge 7, o_int 1, o_goto 8, o_int 0, o_zret]
theorem tl_X12_isSheet : ce_TL tb_X12_isSheet := by
  unfold tb_X12_isSheet
  refine tl_c ta_iload ?_
  refine tl_c ta_iflt ?_
  refine tl_c ta_iload ?_
  refine tl_c ta_int ?_
  refine tl_c ta_cmpge ?_
  refine tl_c ta_int ?_
  refine tl_c ta_goto ?_
  refine tl_c ta_int ?_
  refine tl_c ta_zret ?_
  exact trivial
set_option maxRecDepth 20000 in
theorem ok_X12_isSheet (l : Launch) : ce_OkL l cX12_isSheet RX12 1 (some .boolean) 1 0 0 pc_X12_isSheet 0 tb_X12_isSheet := by
  unfold tb_X12_isSheet
  refine ok_c (j := 1) rfl (ok_iload_n (j := ⟨0, by decide⟩) (pc := 0) rfl rfl (by decide +kernel)) ?_
  refine ok_c (j := 2) rfl (ok_iflt (off := 12) (tg := 13) (pc := 1) rfl rfl (by decide +kernel) rfl (by decide)) ?_
  refine ok_c (j := 3) rfl (ok_iload_n (j := ⟨0, by decide⟩) (pc := 4) rfl rfl (by decide +kernel)) ?_
  refine ok_c (j := 4) rfl (ok_iconst (n := 4) (pc := 5) rfl rfl (by decide +kernel) (by decide)) ?_
  refine ok_c (j := 5) rfl (ok_cmpge (off := 7) (tg := 13) (pc := 6) rfl rfl (by decide +kernel) rfl (by decide)) ?_
  refine ok_c (j := 6) rfl (ok_iconst (n := 1) (pc := 9) rfl rfl (by decide +kernel) (by decide)) ?_
  refine ok_c (j := 7) rfl (ok_goto (off := 4) (tg := 14) (pc := 10) rfl (by decide +kernel) rfl (by decide)) ?_
  refine ok_c (j := 8) rfl (ok_iconst (n := 0) (pc := 13) rfl rfl (by decide +kernel) (by decide)) ?_
  refine ok_c (j := 9) rfl (ok_zret (pc := 14) rfl (by decide +kernel) rfl) ?_
  exact trivial
noncomputable def F_X12_isSheet := ce_fI tb_X12_isSheet 1 none
theorem ct_X12_isSheet (l : Launch) : ce_callee l yX12_isSheet 1 1 0 0 (ce_wI F_X12_isSheet) := ⟨_, _, _, ce_ctr_of (pcs := pc_X12_isSheet) (by decide +kernel) rfl (ok_X12_isSheet l ) ce_fI_run, ce_tw_at wd_1169 rfl, by decide, by decide +kernel, by decide +kernel, by decide +kernel⟩
def pc_X12_hasCells : List Nat := [0, 1, 4, 5, 6, 9, 10, 11, 14, 15, 16, 19, 20, 21, 22, 23, 26, 27, 30, 31]
noncomputable def tb_X12_hasCells : List ce_Op := [o_iload 2, o_iflt 18, o_iload 2, o_aload 0, o_getS 20 35 (fun _ => 0), o_iload 1, o_ild 35, o_cmpgt 18, o_iload 3, o_aload 0, o_getS 20 35 (fun _ => 0), o_iload 1, o_ild 35, o_iload 2, o_bin q_sub, o_cmpgt 18, o_int 1, o_goto 19, o_int 0, o_zret]
theorem tl_X12_hasCells : ce_TL tb_X12_hasCells := by
  unfold tb_X12_hasCells
  refine tl_c ta_iload ?_
  refine tl_c ta_iflt ?_
  refine tl_c ta_iload ?_
  refine tl_c ta_aload ?_
  refine tl_c ta_getS ?_
  refine tl_c ta_iload ?_
  refine tl_c ta_ild ?_
  refine tl_c ta_cmpgt ?_
  refine tl_c ta_iload ?_
  refine tl_c ta_aload ?_
  refine tl_c ta_getS ?_
  refine tl_c ta_iload ?_
  refine tl_c ta_ild ?_
  refine tl_c ta_iload ?_
  refine tl_c ta_bin ?_
  refine tl_c ta_cmpgt ?_
  refine tl_c ta_int ?_
  refine tl_c ta_goto ?_
  refine tl_c ta_int ?_
  refine tl_c ta_zret ?_
  exact trivial
set_option maxRecDepth 20000 in
theorem ok_X12_hasCells (l : Launch) : ce_OkL l cX12_hasCells RX12 4 (some .boolean) 1 0 0 pc_X12_hasCells 0 tb_X12_hasCells := by
  unfold tb_X12_hasCells
  refine ok_c (j := 1) rfl (ok_iload_n (j := ⟨2, by decide⟩) (pc := 0) rfl rfl (by decide +kernel)) ?_
  refine ok_c (j := 2) rfl (ok_iflt (off := 29) (tg := 30) (pc := 1) rfl rfl (by decide +kernel) rfl (by decide)) ?_
  refine ok_c (j := 3) rfl (ok_iload_n (j := ⟨2, by decide⟩) (pc := 4) rfl rfl (by decide +kernel)) ?_
  refine ok_c (j := 4) rfl (ok_aload_n (j := ⟨0, by decide⟩) (pc := 5) rfl rfl (by decide +kernel)) ?_
  refine ok_c (j := 5) rfl (ok_getS (f := 42) (ci := 12) (C := RX12) (T := TX12) (N := 45) (ix := 70) (pc := 6) rfl rfl (by decide +kernel) rfl (fun _ => rfl) rfl cw_X12 (by decide) rfl wd_866) ?_
  refine ok_c (j := 6) rfl (ok_iload_n (j := ⟨1, by decide⟩) (pc := 9) rfl rfl (by decide +kernel)) ?_
  refine ok_c (j := 7) rfl (ok_ild (pc := 10) rfl rfl (by decide +kernel) rfl) ?_
  refine ok_c (j := 8) rfl (ok_cmpgt (off := 19) (tg := 30) (pc := 11) rfl rfl (by decide +kernel) rfl (by decide)) ?_
  refine ok_c (j := 9) rfl (ok_iload_n (j := ⟨3, by decide⟩) (pc := 14) rfl rfl (by decide +kernel)) ?_
  refine ok_c (j := 10) rfl (ok_aload_n (j := ⟨0, by decide⟩) (pc := 15) rfl rfl (by decide +kernel)) ?_
  refine ok_c (j := 11) rfl (ok_getS (f := 42) (ci := 12) (C := RX12) (T := TX12) (N := 45) (ix := 70) (pc := 16) rfl rfl (by decide +kernel) rfl (fun _ => rfl) rfl cw_X12 (by decide) rfl wd_866) ?_
  refine ok_c (j := 12) rfl (ok_iload_n (j := ⟨1, by decide⟩) (pc := 19) rfl rfl (by decide +kernel)) ?_
  refine ok_c (j := 13) rfl (ok_ild (pc := 20) rfl rfl (by decide +kernel) rfl) ?_
  refine ok_c (j := 14) rfl (ok_iload_n (j := ⟨2, by decide⟩) (pc := 21) rfl rfl (by decide +kernel)) ?_
  refine ok_c (j := 15) rfl (ok_isub (pc := 22) rfl rfl (by decide +kernel)) ?_
  refine ok_c (j := 16) rfl (ok_cmpgt (off := 7) (tg := 30) (pc := 23) rfl rfl (by decide +kernel) rfl (by decide)) ?_
  refine ok_c (j := 17) rfl (ok_iconst (n := 1) (pc := 26) rfl rfl (by decide +kernel) (by decide)) ?_
  refine ok_c (j := 18) rfl (ok_goto (off := 4) (tg := 31) (pc := 27) rfl (by decide +kernel) rfl (by decide)) ?_
  refine ok_c (j := 19) rfl (ok_iconst (n := 0) (pc := 30) rfl rfl (by decide +kernel) (by decide)) ?_
  refine ok_c (j := 20) rfl (ok_zret (pc := 31) rfl (by decide +kernel) rfl) ?_
  exact trivial
noncomputable def F_X12_hasCells := ce_fI tb_X12_hasCells 4 (some 20)
theorem ct_X12_hasCells (l : Launch) : ce_callee l yX12_hasCells 3 1 0 0 (ce_wI F_X12_hasCells) := ⟨_, _, _, ce_ctr_of (pcs := pc_X12_hasCells) (by decide +kernel) rfl (ok_X12_hasCells l ) ce_fI_run, ce_tw_at wd_1226 rfl, by decide, by decide +kernel, by decide +kernel, by decide +kernel⟩
def pc_X12_firstRule : List Nat := [0, 1, 2, 5, 6, 9, 12, 13, 16, 19, 20, 21, 24, 25, 28, 31, 32, 35, 38, 39, 42, 45, 46, 48, 51, 52, 55, 58, 59, 61, 64, 65, 68, 71, 72, 75, 78, 79, 80, 83, 84, 85, 88, 89, 92, 95, 96, 99, 102, 103, 106, 109, 110, 112, 115, 116, 119, 122, 123, 126, 129, 130, 131, 134, 135, 136, 139]
noncomputable def tb_X12_firstRule : List ce_Op := [o_aload 0, o_int 0, o_putI 20 26, o_aload 0, o_int 20000, o_cv 2 F_X12_writes 0 0 0 0, o_aload 0, o_int 20001, o_cv 2 F_X12_writes 0 0 0 0, o_aload 0, o_int 2, o_cv 2 F_X12_writes 0 0 0 0, o_aload 0, o_int 30003, o_cv 2 F_X12_writes 0 0 0 0, o_aload 0, o_int 30001, o_cv 2 F_X12_writes 0 0 0 0, o_aload 0, o_int 20002, o_cv 2 F_X12_writes 0 0 0 0, o_aload 0, o_int 9, o_cv 2 F_X12_writes 0 0 0 0, o_aload 0, o_int 30004, o_cv 2 F_X12_writes 0 0 0 0, o_aload 0, o_int 10, o_cv 2 F_X12_writes 0 0 0 0, o_aload 0, o_int 30003, o_cv 2 F_X12_writes 0 0 0 0, o_aload 0, o_int 30002, o_cv 2 F_X12_writes 0 0 0 0, o_aload 0, o_int 1, o_putI 20 26, o_aload 0, o_int 2, o_cv 2 F_X12_writes 0 0 0 0, o_aload 0, o_int 20000, o_cv 2 F_X12_writes 0 0 0 0, o_aload 0, o_int 30003, o_cv 2 F_X12_writes 0 0 0 0, o_aload 0, o_int 20001, o_cv 2 F_X12_writes 0 0 0 0, o_aload 0, o_int 20, o_cv 2 F_X12_writes 0 0 0 0, o_aload 0, o_int 30003, o_cv 2 F_X12_writes 0 0 0 0, o_aload 0, o_int 30001, o_cv 2 F_X12_writes 0 0 0 0, o_aload 0, o_int 2, o_putI 20 26, o_aload 0, o_int 0, o_cv 2 F_X12_writes 0 0 0 0, o_vret]
theorem tl_X12_firstRule : ce_TL tb_X12_firstRule := by
  unfold tb_X12_firstRule
  refine tl_c ta_aload ?_
  refine tl_c ta_int ?_
  refine tl_c ta_putI ?_
  refine tl_c ta_aload ?_
  refine tl_c ta_int ?_
  refine tl_c ta_cv ?_
  refine tl_c ta_aload ?_
  refine tl_c ta_int ?_
  refine tl_c ta_cv ?_
  refine tl_c ta_aload ?_
  refine tl_c ta_int ?_
  refine tl_c ta_cv ?_
  refine tl_c ta_aload ?_
  refine tl_c ta_int ?_
  refine tl_c ta_cv ?_
  refine tl_c ta_aload ?_
  refine tl_c ta_int ?_
  refine tl_c ta_cv ?_
  refine tl_c ta_aload ?_
  refine tl_c ta_int ?_
  refine tl_c ta_cv ?_
  refine tl_c ta_aload ?_
  refine tl_c ta_int ?_
  refine tl_c ta_cv ?_
  refine tl_c ta_aload ?_
  refine tl_c ta_int ?_
  refine tl_c ta_cv ?_
  refine tl_c ta_aload ?_
  refine tl_c ta_int ?_
  refine tl_c ta_cv ?_
  refine tl_c ta_aload ?_
  refine tl_c ta_int ?_
  refine tl_c ta_cv ?_
  refine tl_c ta_aload ?_
  refine tl_c ta_int ?_
  refine tl_c ta_cv ?_
  refine tl_c ta_aload ?_
  refine tl_c ta_int ?_
  refine tl_c ta_putI ?_
  refine tl_c ta_aload ?_
  refine tl_c ta_int ?_
  refine tl_c ta_cv ?_
  refine tl_c ta_aload ?_
  refine tl_c ta_int ?_
  refine tl_c ta_cv ?_
  refine tl_c ta_aload ?_
  refine tl_c ta_int ?_
  refine tl_c ta_cv ?_
  refine tl_c ta_aload ?_
  refine tl_c ta_int ?_
  refine tl_c ta_cv ?_
  refine tl_c ta_aload ?_
  refine tl_c ta_int ?_
  refine tl_c ta_cv ?_
  refine tl_c ta_aload ?_
  refine tl_c ta_int ?_
  refine tl_c ta_cv ?_
  refine tl_c ta_aload ?_
  refine tl_c ta_int ?_
  refine tl_c ta_cv ?_
  refine tl_c ta_aload ?_
  refine tl_c ta_int ?_
  refine tl_c ta_putI ?_
  refine tl_c ta_aload ?_
  refine tl_c ta_int ?_
  refine tl_c ta_cv ?_
  refine tl_c ta_vret ?_
  exact trivial
set_option maxRecDepth 20000 in
theorem ok_X12_firstRule (l : Launch) : ce_OkL l cX12_firstRule RX12 1 none 2 0 0 pc_X12_firstRule 0 tb_X12_firstRule := by
  unfold tb_X12_firstRule
  refine ok_c (j := 1) rfl (ok_aload_n (j := ⟨0, by decide⟩) (pc := 0) rfl rfl (by decide +kernel)) ?_
  refine ok_c (j := 2) rfl (ok_iconst (n := 0) (pc := 1) rfl rfl (by decide +kernel) (by decide)) ?_
  refine ok_c (j := 3) rfl (ok_putI (ci := 12) (C := RX12) (T := TX12) (N := 45) (ty := tyX12) (ix := 85) (pc := 2) rfl rfl (by decide +kernel) rfl (fun _ => rfl) rfl cw_X12 tyX12_ok nmX12 (by decide) rfl rfl rfl wd_850) ?_
  refine ok_c (j := 4) rfl (ok_aload_n (j := ⟨0, by decide⟩) (pc := 5) rfl rfl (by decide +kernel)) ?_
  refine ok_c (j := 5) rfl (ok_sipush (n := 20000) (pc := 6) rfl rfl (by decide +kernel) (by decide)) ?_
  refine ok_c (j := 6) rfl (ok_virtual (y := yX12_writes) (n := 1) (d' := 1) (t := 20) (T := TX12) (N := 45) (ix := 88) is_cv (pc := 9) rfl rfl (by decide +kernel) (by decide) (ct_X12_writes l) rfl (fun _ => rfl) ce_fV_rec wd_820 wd_822 wd_24 wd_75) ?_
  refine ok_c (j := 7) rfl (ok_aload_n (j := ⟨0, by decide⟩) (pc := 12) rfl rfl (by decide +kernel)) ?_
  refine ok_c (j := 8) rfl (ok_sipush (n := 20001) (pc := 13) rfl rfl (by decide +kernel) (by decide)) ?_
  refine ok_c (j := 9) rfl (ok_virtual (y := yX12_writes) (n := 1) (d' := 1) (t := 20) (T := TX12) (N := 45) (ix := 88) is_cv (pc := 16) rfl rfl (by decide +kernel) (by decide) (ct_X12_writes l) rfl (fun _ => rfl) ce_fV_rec wd_820 wd_822 wd_24 wd_75) ?_
  refine ok_c (j := 10) rfl (ok_aload_n (j := ⟨0, by decide⟩) (pc := 19) rfl rfl (by decide +kernel)) ?_
  refine ok_c (j := 11) rfl (ok_iconst (n := 2) (pc := 20) rfl rfl (by decide +kernel) (by decide)) ?_
  refine ok_c (j := 12) rfl (ok_virtual (y := yX12_writes) (n := 1) (d' := 1) (t := 20) (T := TX12) (N := 45) (ix := 88) is_cv (pc := 21) rfl rfl (by decide +kernel) (by decide) (ct_X12_writes l) rfl (fun _ => rfl) ce_fV_rec wd_820 wd_822 wd_24 wd_75) ?_
  refine ok_c (j := 13) rfl (ok_aload_n (j := ⟨0, by decide⟩) (pc := 24) rfl rfl (by decide +kernel)) ?_
  refine ok_c (j := 14) rfl (ok_sipush (n := 30003) (pc := 25) rfl rfl (by decide +kernel) (by decide)) ?_
  refine ok_c (j := 15) rfl (ok_virtual (y := yX12_writes) (n := 1) (d' := 1) (t := 20) (T := TX12) (N := 45) (ix := 88) is_cv (pc := 28) rfl rfl (by decide +kernel) (by decide) (ct_X12_writes l) rfl (fun _ => rfl) ce_fV_rec wd_820 wd_822 wd_24 wd_75) ?_
  refine ok_c (j := 16) rfl (ok_aload_n (j := ⟨0, by decide⟩) (pc := 31) rfl rfl (by decide +kernel)) ?_
  refine ok_c (j := 17) rfl (ok_sipush (n := 30001) (pc := 32) rfl rfl (by decide +kernel) (by decide)) ?_
  refine ok_c (j := 18) rfl (ok_virtual (y := yX12_writes) (n := 1) (d' := 1) (t := 20) (T := TX12) (N := 45) (ix := 88) is_cv (pc := 35) rfl rfl (by decide +kernel) (by decide) (ct_X12_writes l) rfl (fun _ => rfl) ce_fV_rec wd_820 wd_822 wd_24 wd_75) ?_
  refine ok_c (j := 19) rfl (ok_aload_n (j := ⟨0, by decide⟩) (pc := 38) rfl rfl (by decide +kernel)) ?_
  refine ok_c (j := 20) rfl (ok_sipush (n := 20002) (pc := 39) rfl rfl (by decide +kernel) (by decide)) ?_
  refine ok_c (j := 21) rfl (ok_virtual (y := yX12_writes) (n := 1) (d' := 1) (t := 20) (T := TX12) (N := 45) (ix := 88) is_cv (pc := 42) rfl rfl (by decide +kernel) (by decide) (ct_X12_writes l) rfl (fun _ => rfl) ce_fV_rec wd_820 wd_822 wd_24 wd_75) ?_
  refine ok_c (j := 22) rfl (ok_aload_n (j := ⟨0, by decide⟩) (pc := 45) rfl rfl (by decide +kernel)) ?_
  refine ok_c (j := 23) rfl (ok_bipush (n := 9) (pc := 46) rfl rfl (by decide +kernel) (by decide)) ?_
  refine ok_c (j := 24) rfl (ok_virtual (y := yX12_writes) (n := 1) (d' := 1) (t := 20) (T := TX12) (N := 45) (ix := 88) is_cv (pc := 48) rfl rfl (by decide +kernel) (by decide) (ct_X12_writes l) rfl (fun _ => rfl) ce_fV_rec wd_820 wd_822 wd_24 wd_75) ?_
  refine ok_c (j := 25) rfl (ok_aload_n (j := ⟨0, by decide⟩) (pc := 51) rfl rfl (by decide +kernel)) ?_
  refine ok_c (j := 26) rfl (ok_sipush (n := 30004) (pc := 52) rfl rfl (by decide +kernel) (by decide)) ?_
  refine ok_c (j := 27) rfl (ok_virtual (y := yX12_writes) (n := 1) (d' := 1) (t := 20) (T := TX12) (N := 45) (ix := 88) is_cv (pc := 55) rfl rfl (by decide +kernel) (by decide) (ct_X12_writes l) rfl (fun _ => rfl) ce_fV_rec wd_820 wd_822 wd_24 wd_75) ?_
  refine ok_c (j := 28) rfl (ok_aload_n (j := ⟨0, by decide⟩) (pc := 58) rfl rfl (by decide +kernel)) ?_
  refine ok_c (j := 29) rfl (ok_bipush (n := 10) (pc := 59) rfl rfl (by decide +kernel) (by decide)) ?_
  refine ok_c (j := 30) rfl (ok_virtual (y := yX12_writes) (n := 1) (d' := 1) (t := 20) (T := TX12) (N := 45) (ix := 88) is_cv (pc := 61) rfl rfl (by decide +kernel) (by decide) (ct_X12_writes l) rfl (fun _ => rfl) ce_fV_rec wd_820 wd_822 wd_24 wd_75) ?_
  refine ok_c (j := 31) rfl (ok_aload_n (j := ⟨0, by decide⟩) (pc := 64) rfl rfl (by decide +kernel)) ?_
  refine ok_c (j := 32) rfl (ok_sipush (n := 30003) (pc := 65) rfl rfl (by decide +kernel) (by decide)) ?_
  refine ok_c (j := 33) rfl (ok_virtual (y := yX12_writes) (n := 1) (d' := 1) (t := 20) (T := TX12) (N := 45) (ix := 88) is_cv (pc := 68) rfl rfl (by decide +kernel) (by decide) (ct_X12_writes l) rfl (fun _ => rfl) ce_fV_rec wd_820 wd_822 wd_24 wd_75) ?_
  refine ok_c (j := 34) rfl (ok_aload_n (j := ⟨0, by decide⟩) (pc := 71) rfl rfl (by decide +kernel)) ?_
  refine ok_c (j := 35) rfl (ok_sipush (n := 30002) (pc := 72) rfl rfl (by decide +kernel) (by decide)) ?_
  refine ok_c (j := 36) rfl (ok_virtual (y := yX12_writes) (n := 1) (d' := 1) (t := 20) (T := TX12) (N := 45) (ix := 88) is_cv (pc := 75) rfl rfl (by decide +kernel) (by decide) (ct_X12_writes l) rfl (fun _ => rfl) ce_fV_rec wd_820 wd_822 wd_24 wd_75) ?_
  refine ok_c (j := 37) rfl (ok_aload_n (j := ⟨0, by decide⟩) (pc := 78) rfl rfl (by decide +kernel)) ?_
  refine ok_c (j := 38) rfl (ok_iconst (n := 1) (pc := 79) rfl rfl (by decide +kernel) (by decide)) ?_
  refine ok_c (j := 39) rfl (ok_putI (ci := 12) (C := RX12) (T := TX12) (N := 45) (ty := tyX12) (ix := 85) (pc := 80) rfl rfl (by decide +kernel) rfl (fun _ => rfl) rfl cw_X12 tyX12_ok nmX12 (by decide) rfl rfl rfl wd_850) ?_
  refine ok_c (j := 40) rfl (ok_aload_n (j := ⟨0, by decide⟩) (pc := 83) rfl rfl (by decide +kernel)) ?_
  refine ok_c (j := 41) rfl (ok_iconst (n := 2) (pc := 84) rfl rfl (by decide +kernel) (by decide)) ?_
  refine ok_c (j := 42) rfl (ok_virtual (y := yX12_writes) (n := 1) (d' := 1) (t := 20) (T := TX12) (N := 45) (ix := 88) is_cv (pc := 85) rfl rfl (by decide +kernel) (by decide) (ct_X12_writes l) rfl (fun _ => rfl) ce_fV_rec wd_820 wd_822 wd_24 wd_75) ?_
  refine ok_c (j := 43) rfl (ok_aload_n (j := ⟨0, by decide⟩) (pc := 88) rfl rfl (by decide +kernel)) ?_
  refine ok_c (j := 44) rfl (ok_sipush (n := 20000) (pc := 89) rfl rfl (by decide +kernel) (by decide)) ?_
  refine ok_c (j := 45) rfl (ok_virtual (y := yX12_writes) (n := 1) (d' := 1) (t := 20) (T := TX12) (N := 45) (ix := 88) is_cv (pc := 92) rfl rfl (by decide +kernel) (by decide) (ct_X12_writes l) rfl (fun _ => rfl) ce_fV_rec wd_820 wd_822 wd_24 wd_75) ?_
  refine ok_c (j := 46) rfl (ok_aload_n (j := ⟨0, by decide⟩) (pc := 95) rfl rfl (by decide +kernel)) ?_
  refine ok_c (j := 47) rfl (ok_sipush (n := 30003) (pc := 96) rfl rfl (by decide +kernel) (by decide)) ?_
  refine ok_c (j := 48) rfl (ok_virtual (y := yX12_writes) (n := 1) (d' := 1) (t := 20) (T := TX12) (N := 45) (ix := 88) is_cv (pc := 99) rfl rfl (by decide +kernel) (by decide) (ct_X12_writes l) rfl (fun _ => rfl) ce_fV_rec wd_820 wd_822 wd_24 wd_75) ?_
  refine ok_c (j := 49) rfl (ok_aload_n (j := ⟨0, by decide⟩) (pc := 102) rfl rfl (by decide +kernel)) ?_
  refine ok_c (j := 50) rfl (ok_sipush (n := 20001) (pc := 103) rfl rfl (by decide +kernel) (by decide)) ?_
  refine ok_c (j := 51) rfl (ok_virtual (y := yX12_writes) (n := 1) (d' := 1) (t := 20) (T := TX12) (N := 45) (ix := 88) is_cv (pc := 106) rfl rfl (by decide +kernel) (by decide) (ct_X12_writes l) rfl (fun _ => rfl) ce_fV_rec wd_820 wd_822 wd_24 wd_75) ?_
  refine ok_c (j := 52) rfl (ok_aload_n (j := ⟨0, by decide⟩) (pc := 109) rfl rfl (by decide +kernel)) ?_
  refine ok_c (j := 53) rfl (ok_bipush (n := 20) (pc := 110) rfl rfl (by decide +kernel) (by decide)) ?_
  refine ok_c (j := 54) rfl (ok_virtual (y := yX12_writes) (n := 1) (d' := 1) (t := 20) (T := TX12) (N := 45) (ix := 88) is_cv (pc := 112) rfl rfl (by decide +kernel) (by decide) (ct_X12_writes l) rfl (fun _ => rfl) ce_fV_rec wd_820 wd_822 wd_24 wd_75) ?_
  refine ok_c (j := 55) rfl (ok_aload_n (j := ⟨0, by decide⟩) (pc := 115) rfl rfl (by decide +kernel)) ?_
  refine ok_c (j := 56) rfl (ok_sipush (n := 30003) (pc := 116) rfl rfl (by decide +kernel) (by decide)) ?_
  refine ok_c (j := 57) rfl (ok_virtual (y := yX12_writes) (n := 1) (d' := 1) (t := 20) (T := TX12) (N := 45) (ix := 88) is_cv (pc := 119) rfl rfl (by decide +kernel) (by decide) (ct_X12_writes l) rfl (fun _ => rfl) ce_fV_rec wd_820 wd_822 wd_24 wd_75) ?_
  refine ok_c (j := 58) rfl (ok_aload_n (j := ⟨0, by decide⟩) (pc := 122) rfl rfl (by decide +kernel)) ?_
  refine ok_c (j := 59) rfl (ok_sipush (n := 30001) (pc := 123) rfl rfl (by decide +kernel) (by decide)) ?_
  refine ok_c (j := 60) rfl (ok_virtual (y := yX12_writes) (n := 1) (d' := 1) (t := 20) (T := TX12) (N := 45) (ix := 88) is_cv (pc := 126) rfl rfl (by decide +kernel) (by decide) (ct_X12_writes l) rfl (fun _ => rfl) ce_fV_rec wd_820 wd_822 wd_24 wd_75) ?_
  refine ok_c (j := 61) rfl (ok_aload_n (j := ⟨0, by decide⟩) (pc := 129) rfl rfl (by decide +kernel)) ?_
  refine ok_c (j := 62) rfl (ok_iconst (n := 2) (pc := 130) rfl rfl (by decide +kernel) (by decide)) ?_
  refine ok_c (j := 63) rfl (ok_putI (ci := 12) (C := RX12) (T := TX12) (N := 45) (ty := tyX12) (ix := 85) (pc := 131) rfl rfl (by decide +kernel) rfl (fun _ => rfl) rfl cw_X12 tyX12_ok nmX12 (by decide) rfl rfl rfl wd_850) ?_
  refine ok_c (j := 64) rfl (ok_aload_n (j := ⟨0, by decide⟩) (pc := 134) rfl rfl (by decide +kernel)) ?_
  refine ok_c (j := 65) rfl (ok_iconst (n := 0) (pc := 135) rfl rfl (by decide +kernel) (by decide)) ?_
  refine ok_c (j := 66) rfl (ok_virtual (y := yX12_writes) (n := 1) (d' := 1) (t := 20) (T := TX12) (N := 45) (ix := 88) is_cv (pc := 136) rfl rfl (by decide +kernel) (by decide) (ct_X12_writes l) rfl (fun _ => rfl) ce_fV_rec wd_820 wd_822 wd_24 wd_75) ?_
  refine ok_c (j := 67) rfl (ok_vret (pc := 139) rfl (by decide +kernel) rfl) ?_
  exact trivial
noncomputable def F_X12_firstRule := ce_fV tb_X12_firstRule 1 (some 20)
theorem ct_X12_firstRule (l : Launch) : ce_callee l yX12_firstRule 0 2 0 0 (ce_wV F_X12_firstRule) := ⟨_, _, _, ce_ctr_of (pcs := pc_X12_firstRule) (by decide +kernel) rfl (ok_X12_firstRule l ) ce_fV_run, ce_tw_at wd_819 rfl, by decide, by decide +kernel, by decide +kernel, by decide +kernel⟩
def pc_X12_feed : List Nat := [0, 1, 2, 5, 8, 11, 13, 14, 15, 18, 21, 24, 26, 27, 28, 31, 32, 35, 36, 37, 38, 39, 42, 43, 44, 47, 48, 51]
noncomputable def tb_X12_feed : List ce_Op := [o_iload 1, o_int 0, o_int 255, o_ci 3 F_X12_isIn 0 0 0 0, o_ifne 7, o_int (-2), o_iret, o_aload 0, o_getI 20 18, o_int 160, o_cmpne 13, o_int (-4), o_iret, o_aload 0, o_getS 20 28 (fun _ => 0), o_aload 0, o_getI 20 18, o_iload 1, o_ist 28, o_aload 0, o_dup, o_getI 20 18, o_int 1, o_bin q_add, o_putI 20 18, o_aload 0, o_getI 20 18, o_iret]
theorem tl_X12_feed : ce_TL tb_X12_feed := by
  unfold tb_X12_feed
  refine tl_c ta_iload ?_
  refine tl_c ta_int ?_
  refine tl_c ta_int ?_
  refine tl_c ta_ci ?_
  refine tl_c ta_ifne ?_
  refine tl_c ta_int ?_
  refine tl_c ta_iret ?_
  refine tl_c ta_aload ?_
  refine tl_c ta_getI ?_
  refine tl_c ta_int ?_
  refine tl_c ta_cmpne ?_
  refine tl_c ta_int ?_
  refine tl_c ta_iret ?_
  refine tl_c ta_aload ?_
  refine tl_c ta_getS ?_
  refine tl_c ta_aload ?_
  refine tl_c ta_getI ?_
  refine tl_c ta_iload ?_
  refine tl_c ta_ist ?_
  refine tl_c ta_aload ?_
  refine tl_c ta_dup ?_
  refine tl_c ta_getI ?_
  refine tl_c ta_int ?_
  refine tl_c ta_bin ?_
  refine tl_c ta_putI ?_
  refine tl_c ta_aload ?_
  refine tl_c ta_getI ?_
  refine tl_c ta_iret ?_
  exact trivial
set_option maxRecDepth 20000 in
theorem ok_X12_feed (l : Launch) : ce_OkL l cX12_feed RX12 2 (some .int) 2 0 0 pc_X12_feed 0 tb_X12_feed := by
  unfold tb_X12_feed
  refine ok_c (j := 1) rfl (ok_iload_n (j := ⟨1, by decide⟩) (pc := 0) rfl rfl (by decide +kernel)) ?_
  refine ok_c (j := 2) rfl (ok_iconst (n := 0) (pc := 1) rfl rfl (by decide +kernel) (by decide)) ?_
  refine ok_c (j := 3) rfl (ok_sipush (n := 255) (pc := 2) rfl rfl (by decide +kernel) (by decide)) ?_
  refine ok_c (j := 4) rfl (ok_static (y := yX12_isIn) (n := 3) (d' := 1) (ix := 92) is_ci (pc := 5) rfl rfl (by decide +kernel) (by decide) rfl (ct_X12_isIn l) wd_964 wd_965 wd_75) ?_
  refine ok_c (j := 5) rfl (ok_ifne (off := 6) (tg := 14) (pc := 8) rfl rfl (by decide +kernel) rfl (by decide)) ?_
  refine ok_c (j := 6) rfl (ok_bipush (n := (-2)) (pc := 11) rfl rfl (by decide +kernel) (by decide)) ?_
  refine ok_c (j := 7) rfl (ok_iret (pc := 13) rfl (by decide +kernel) rfl) ?_
  refine ok_c (j := 8) rfl (ok_aload_n (j := ⟨0, by decide⟩) (pc := 14) rfl rfl (by decide +kernel)) ?_
  refine ok_c (j := 9) rfl (ok_getI (ci := 12) (C := RX12) (T := TX12) (N := 45) (ix := 96) (pc := 15) rfl rfl (by decide +kernel) rfl (fun _ => rfl) rfl cw_X12 (by decide) rfl wd_842) ?_
  refine ok_c (j := 10) rfl (ok_sipush (n := 160) (pc := 18) rfl rfl (by decide +kernel) (by decide)) ?_
  refine ok_c (j := 11) rfl (ok_cmpne (off := 6) (tg := 27) (pc := 21) rfl rfl (by decide +kernel) rfl (by decide)) ?_
  refine ok_c (j := 12) rfl (ok_bipush (n := (-4)) (pc := 24) rfl rfl (by decide +kernel) (by decide)) ?_
  refine ok_c (j := 13) rfl (ok_iret (pc := 26) rfl (by decide +kernel) rfl) ?_
  refine ok_c (j := 14) rfl (ok_aload_n (j := ⟨0, by decide⟩) (pc := 27) rfl rfl (by decide +kernel)) ?_
  refine ok_c (j := 15) rfl (ok_getS (f := 13) (ci := 12) (C := RX12) (T := TX12) (N := 45) (ix := 46) (pc := 28) rfl rfl (by decide +kernel) rfl (fun _ => rfl) rfl cw_X12 (by decide) rfl wd_837) ?_
  refine ok_c (j := 16) rfl (ok_aload_n (j := ⟨0, by decide⟩) (pc := 31) rfl rfl (by decide +kernel)) ?_
  refine ok_c (j := 17) rfl (ok_getI (ci := 12) (C := RX12) (T := TX12) (N := 45) (ix := 96) (pc := 32) rfl rfl (by decide +kernel) rfl (fun _ => rfl) rfl cw_X12 (by decide) rfl wd_842) ?_
  refine ok_c (j := 18) rfl (ok_iload_n (j := ⟨1, by decide⟩) (pc := 35) rfl rfl (by decide +kernel)) ?_
  refine ok_c (j := 19) rfl (ok_ist (pc := 36) rfl rfl (by decide +kernel) rfl) ?_
  refine ok_c (j := 20) rfl (ok_aload_n (j := ⟨0, by decide⟩) (pc := 37) rfl rfl (by decide +kernel)) ?_
  refine ok_c (j := 21) rfl (ok_dup (pc := 38) rfl rfl (by decide +kernel)) ?_
  refine ok_c (j := 22) rfl (ok_getI (ci := 12) (C := RX12) (T := TX12) (N := 45) (ix := 96) (pc := 39) rfl rfl (by decide +kernel) rfl (fun _ => rfl) rfl cw_X12 (by decide) rfl wd_842) ?_
  refine ok_c (j := 23) rfl (ok_iconst (n := 1) (pc := 42) rfl rfl (by decide +kernel) (by decide)) ?_
  refine ok_c (j := 24) rfl (ok_iadd (pc := 43) rfl rfl (by decide +kernel)) ?_
  refine ok_c (j := 25) rfl (ok_putI (ci := 12) (C := RX12) (T := TX12) (N := 45) (ty := tyX12) (ix := 96) (pc := 44) rfl rfl (by decide +kernel) rfl (fun _ => rfl) rfl cw_X12 tyX12_ok nmX12 (by decide) rfl rfl rfl wd_842) ?_
  refine ok_c (j := 26) rfl (ok_aload_n (j := ⟨0, by decide⟩) (pc := 47) rfl rfl (by decide +kernel)) ?_
  refine ok_c (j := 27) rfl (ok_getI (ci := 12) (C := RX12) (T := TX12) (N := 45) (ix := 96) (pc := 48) rfl rfl (by decide +kernel) rfl (fun _ => rfl) rfl cw_X12 (by decide) rfl wd_842) ?_
  refine ok_c (j := 28) rfl (ok_iret (pc := 51) rfl (by decide +kernel) rfl) ?_
  exact trivial
noncomputable def F_X12_feed := ce_fI tb_X12_feed 2 (some 20)
theorem ct_X12_feed (l : Launch) : ce_callee l yX12_feed 1 2 0 0 (ce_wI F_X12_feed) := ⟨_, _, _, ce_ctr_of (pcs := pc_X12_feed) (by decide +kernel) rfl (ok_X12_feed l ) ce_fI_run, ce_tw_at wd_963 rfl, by decide, by decide +kernel, by decide +kernel, by decide +kernel⟩
def pc_X12_isAt : List Nat := [0, 1, 4, 5, 8, 11, 12, 15, 16, 19, 20, 21, 22, 25, 28, 29, 32, 33]
noncomputable def tb_X12_isAt : List ce_Op := [o_aload 0, o_getI 20 20, o_aload 0, o_getI 20 18, o_cmpge 16, o_aload 0, o_getS 20 28 (fun _ => 0), o_aload 0, o_getI 20 20, o_ild 28, o_iload 1, o_iload 2, o_ci 3 F_X12_isIn 0 0 0 0, o_ifeq 16, o_int 1, o_goto 17, o_int 0, o_zret]
theorem tl_X12_isAt : ce_TL tb_X12_isAt := by
  unfold tb_X12_isAt
  refine tl_c ta_aload ?_
  refine tl_c ta_getI ?_
  refine tl_c ta_aload ?_
  refine tl_c ta_getI ?_
  refine tl_c ta_cmpge ?_
  refine tl_c ta_aload ?_
  refine tl_c ta_getS ?_
  refine tl_c ta_aload ?_
  refine tl_c ta_getI ?_
  refine tl_c ta_ild ?_
  refine tl_c ta_iload ?_
  refine tl_c ta_iload ?_
  refine tl_c ta_ci ?_
  refine tl_c ta_ifeq ?_
  refine tl_c ta_int ?_
  refine tl_c ta_goto ?_
  refine tl_c ta_int ?_
  refine tl_c ta_zret ?_
  exact trivial
set_option maxRecDepth 20000 in
theorem ok_X12_isAt (l : Launch) : ce_OkL l cX12_isAt RX12 3 (some .boolean) 2 0 0 pc_X12_isAt 0 tb_X12_isAt := by
  unfold tb_X12_isAt
  refine ok_c (j := 1) rfl (ok_aload_n (j := ⟨0, by decide⟩) (pc := 0) rfl rfl (by decide +kernel)) ?_
  refine ok_c (j := 2) rfl (ok_getI (ci := 12) (C := RX12) (T := TX12) (N := 45) (ix := 99) (pc := 1) rfl rfl (by decide +kernel) rfl (fun _ => rfl) rfl cw_X12 (by decide) rfl wd_844) ?_
  refine ok_c (j := 3) rfl (ok_aload_n (j := ⟨0, by decide⟩) (pc := 4) rfl rfl (by decide +kernel)) ?_
  refine ok_c (j := 4) rfl (ok_getI (ci := 12) (C := RX12) (T := TX12) (N := 45) (ix := 96) (pc := 5) rfl rfl (by decide +kernel) rfl (fun _ => rfl) rfl cw_X12 (by decide) rfl wd_842) ?_
  refine ok_c (j := 5) rfl (ok_cmpge (off := 24) (tg := 32) (pc := 8) rfl rfl (by decide +kernel) rfl (by decide)) ?_
  refine ok_c (j := 6) rfl (ok_aload_n (j := ⟨0, by decide⟩) (pc := 11) rfl rfl (by decide +kernel)) ?_
  refine ok_c (j := 7) rfl (ok_getS (f := 13) (ci := 12) (C := RX12) (T := TX12) (N := 45) (ix := 46) (pc := 12) rfl rfl (by decide +kernel) rfl (fun _ => rfl) rfl cw_X12 (by decide) rfl wd_837) ?_
  refine ok_c (j := 8) rfl (ok_aload_n (j := ⟨0, by decide⟩) (pc := 15) rfl rfl (by decide +kernel)) ?_
  refine ok_c (j := 9) rfl (ok_getI (ci := 12) (C := RX12) (T := TX12) (N := 45) (ix := 99) (pc := 16) rfl rfl (by decide +kernel) rfl (fun _ => rfl) rfl cw_X12 (by decide) rfl wd_844) ?_
  refine ok_c (j := 10) rfl (ok_ild (pc := 19) rfl rfl (by decide +kernel) rfl) ?_
  refine ok_c (j := 11) rfl (ok_iload_n (j := ⟨1, by decide⟩) (pc := 20) rfl rfl (by decide +kernel)) ?_
  refine ok_c (j := 12) rfl (ok_iload_n (j := ⟨2, by decide⟩) (pc := 21) rfl rfl (by decide +kernel)) ?_
  refine ok_c (j := 13) rfl (ok_static (y := yX12_isIn) (n := 3) (d' := 1) (ix := 92) is_ci (pc := 22) rfl rfl (by decide +kernel) (by decide) rfl (ct_X12_isIn l) wd_964 wd_965 wd_75) ?_
  refine ok_c (j := 14) rfl (ok_ifeq (off := 7) (tg := 32) (pc := 25) rfl rfl (by decide +kernel) rfl (by decide)) ?_
  refine ok_c (j := 15) rfl (ok_iconst (n := 1) (pc := 28) rfl rfl (by decide +kernel) (by decide)) ?_
  refine ok_c (j := 16) rfl (ok_goto (off := 4) (tg := 33) (pc := 29) rfl (by decide +kernel) rfl (by decide)) ?_
  refine ok_c (j := 17) rfl (ok_iconst (n := 0) (pc := 32) rfl rfl (by decide +kernel) (by decide)) ?_
  refine ok_c (j := 18) rfl (ok_zret (pc := 33) rfl (by decide +kernel) rfl) ?_
  exact trivial
noncomputable def F_X12_isAt := ce_fI tb_X12_isAt 3 (some 20)
theorem ct_X12_isAt (l : Launch) : ce_callee l yX12_isAt 2 2 0 0 (ce_wI F_X12_isAt) := ⟨_, _, _, ce_ctr_of (pcs := pc_X12_isAt) (by decide +kernel) rfl (ok_X12_isAt l ) ce_fI_run, ce_tw_at wd_978 rfl, by decide, by decide +kernel, by decide +kernel, by decide +kernel⟩
def pc_X12_lets : List Nat := [0, 1, 2, 5, 6, 7, 10, 11, 14, 15, 18, 19, 20, 21, 23, 26, 27, 29, 32, 33, 34, 37, 38, 39, 42, 43, 46, 47, 48, 51]
noncomputable def tb_X12_lets : List ce_Op := [o_aload 0, o_dup, o_getI 20 25, o_int 1, o_bin q_sub, o_putI 20 25, o_aload 0, o_getS 20 31 (fun _ => 0), o_aload 0, o_getI 20 25, o_ild 31, o_istore 1, o_iload 1, o_int 8, o_cmpeq 18, o_iload 1, o_int 9, o_cmpne 24, o_aload 0, o_dup, o_getI 20 24, o_int 1, o_bin q_sub, o_putI 20 24, o_aload 0, o_int 30000, o_iload 1, o_bin q_add, o_cv 2 F_X12_writes 0 0 0 0, o_vret]
theorem tl_X12_lets : ce_TL tb_X12_lets := by
  unfold tb_X12_lets
  refine tl_c ta_aload ?_
  refine tl_c ta_dup ?_
  refine tl_c ta_getI ?_
  refine tl_c ta_int ?_
  refine tl_c ta_bin ?_
  refine tl_c ta_putI ?_
  refine tl_c ta_aload ?_
  refine tl_c ta_getS ?_
  refine tl_c ta_aload ?_
  refine tl_c ta_getI ?_
  refine tl_c ta_ild ?_
  refine tl_c ta_istore ?_
  refine tl_c ta_iload ?_
  refine tl_c ta_int ?_
  refine tl_c ta_cmpeq ?_
  refine tl_c ta_iload ?_
  refine tl_c ta_int ?_
  refine tl_c ta_cmpne ?_
  refine tl_c ta_aload ?_
  refine tl_c ta_dup ?_
  refine tl_c ta_getI ?_
  refine tl_c ta_int ?_
  refine tl_c ta_bin ?_
  refine tl_c ta_putI ?_
  refine tl_c ta_aload ?_
  refine tl_c ta_int ?_
  refine tl_c ta_iload ?_
  refine tl_c ta_bin ?_
  refine tl_c ta_cv ?_
  refine tl_c ta_vret ?_
  exact trivial
set_option maxRecDepth 20000 in
theorem ok_X12_lets (l : Launch) : ce_OkL l cX12_lets RX12 2 none 2 0 0 pc_X12_lets 0 tb_X12_lets := by
  unfold tb_X12_lets
  refine ok_c (j := 1) rfl (ok_aload_n (j := ⟨0, by decide⟩) (pc := 0) rfl rfl (by decide +kernel)) ?_
  refine ok_c (j := 2) rfl (ok_dup (pc := 1) rfl rfl (by decide +kernel)) ?_
  refine ok_c (j := 3) rfl (ok_getI (ci := 12) (C := RX12) (T := TX12) (N := 45) (ix := 123) (pc := 2) rfl rfl (by decide +kernel) rfl (fun _ => rfl) rfl cw_X12 (by decide) rfl wd_849) ?_
  refine ok_c (j := 4) rfl (ok_iconst (n := 1) (pc := 5) rfl rfl (by decide +kernel) (by decide)) ?_
  refine ok_c (j := 5) rfl (ok_isub (pc := 6) rfl rfl (by decide +kernel)) ?_
  refine ok_c (j := 6) rfl (ok_putI (ci := 12) (C := RX12) (T := TX12) (N := 45) (ty := tyX12) (ix := 123) (pc := 7) rfl rfl (by decide +kernel) rfl (fun _ => rfl) rfl cw_X12 tyX12_ok nmX12 (by decide) rfl rfl rfl wd_849) ?_
  refine ok_c (j := 7) rfl (ok_aload_n (j := ⟨0, by decide⟩) (pc := 10) rfl rfl (by decide +kernel)) ?_
  refine ok_c (j := 8) rfl (ok_getS (f := 16) (ci := 12) (C := RX12) (T := TX12) (N := 45) (ix := 55) (pc := 11) rfl rfl (by decide +kernel) rfl (fun _ => rfl) rfl cw_X12 (by decide) rfl wd_840) ?_
  refine ok_c (j := 9) rfl (ok_aload_n (j := ⟨0, by decide⟩) (pc := 14) rfl rfl (by decide +kernel)) ?_
  refine ok_c (j := 10) rfl (ok_getI (ci := 12) (C := RX12) (T := TX12) (N := 45) (ix := 123) (pc := 15) rfl rfl (by decide +kernel) rfl (fun _ => rfl) rfl cw_X12 (by decide) rfl wd_849) ?_
  refine ok_c (j := 11) rfl (ok_ild (pc := 18) rfl rfl (by decide +kernel) rfl) ?_
  refine ok_c (j := 12) rfl (ok_istore_n (j := ⟨1, by decide⟩) (pc := 19) rfl rfl (by decide +kernel) (by decide)) ?_
  refine ok_c (j := 13) rfl (ok_iload_n (j := ⟨1, by decide⟩) (pc := 20) rfl rfl (by decide +kernel)) ?_
  refine ok_c (j := 14) rfl (ok_bipush (n := 8) (pc := 21) rfl rfl (by decide +kernel) (by decide)) ?_
  refine ok_c (j := 15) rfl (ok_cmpeq (off := 9) (tg := 32) (pc := 23) rfl rfl (by decide +kernel) rfl (by decide)) ?_
  refine ok_c (j := 16) rfl (ok_iload_n (j := ⟨1, by decide⟩) (pc := 26) rfl rfl (by decide +kernel)) ?_
  refine ok_c (j := 17) rfl (ok_bipush (n := 9) (pc := 27) rfl rfl (by decide +kernel) (by decide)) ?_
  refine ok_c (j := 18) rfl (ok_cmpne (off := 13) (tg := 42) (pc := 29) rfl rfl (by decide +kernel) rfl (by decide)) ?_
  refine ok_c (j := 19) rfl (ok_aload_n (j := ⟨0, by decide⟩) (pc := 32) rfl rfl (by decide +kernel)) ?_
  refine ok_c (j := 20) rfl (ok_dup (pc := 33) rfl rfl (by decide +kernel)) ?_
  refine ok_c (j := 21) rfl (ok_getI (ci := 12) (C := RX12) (T := TX12) (N := 45) (ix := 126) (pc := 34) rfl rfl (by decide +kernel) rfl (fun _ => rfl) rfl cw_X12 (by decide) rfl wd_848) ?_
  refine ok_c (j := 22) rfl (ok_iconst (n := 1) (pc := 37) rfl rfl (by decide +kernel) (by decide)) ?_
  refine ok_c (j := 23) rfl (ok_isub (pc := 38) rfl rfl (by decide +kernel)) ?_
  refine ok_c (j := 24) rfl (ok_putI (ci := 12) (C := RX12) (T := TX12) (N := 45) (ty := tyX12) (ix := 126) (pc := 39) rfl rfl (by decide +kernel) rfl (fun _ => rfl) rfl cw_X12 tyX12_ok nmX12 (by decide) rfl rfl rfl wd_848) ?_
  refine ok_c (j := 25) rfl (ok_aload_n (j := ⟨0, by decide⟩) (pc := 42) rfl rfl (by decide +kernel)) ?_
  refine ok_c (j := 26) rfl (ok_sipush (n := 30000) (pc := 43) rfl rfl (by decide +kernel) (by decide)) ?_
  refine ok_c (j := 27) rfl (ok_iload_n (j := ⟨1, by decide⟩) (pc := 46) rfl rfl (by decide +kernel)) ?_
  refine ok_c (j := 28) rfl (ok_iadd (pc := 47) rfl rfl (by decide +kernel)) ?_
  refine ok_c (j := 29) rfl (ok_virtual (y := yX12_writes) (n := 1) (d' := 1) (t := 20) (T := TX12) (N := 45) (ix := 88) is_cv (pc := 48) rfl rfl (by decide +kernel) (by decide) (ct_X12_writes l) rfl (fun _ => rfl) ce_fV_rec wd_820 wd_822 wd_24 wd_75) ?_
  refine ok_c (j := 30) rfl (ok_vret (pc := 51) rfl (by decide +kernel) rfl) ?_
  exact trivial
noncomputable def F_X12_lets := ce_fV tb_X12_lets 2 (some 20)
theorem ct_X12_lets (l : Launch) : ce_callee l yX12_lets 0 2 0 0 (ce_wV F_X12_lets) := ⟨_, _, _, ce_ctr_of (pcs := pc_X12_lets) (by decide +kernel) rfl (ok_X12_lets l ) ce_fV_run, ce_tw_at wd_1020 rfl, by decide, by decide +kernel, by decide +kernel, by decide +kernel⟩
def pc_X12_mayNot : List Nat := [0, 1, 4, 5, 6, 9, 12, 13, 15, 18, 19, 21, 24, 25, 27, 30, 31, 33, 36, 37, 40, 41]
noncomputable def tb_X12_mayNot : List ce_Op := [o_aload 0, o_ci 1 F_X12_top 0 0 0 0, o_istore 1, o_aload 0, o_getI 20 25, o_ifeq 18, o_iload 1, o_int 10, o_cmpeq 18, o_iload 1, o_int 7, o_cmpeq 18, o_iload 1, o_int 6, o_cmpeq 18, o_iload 1, o_int 8, o_cmpne 20, o_int 1, o_goto 21, o_int 0, o_zret]
theorem tl_X12_mayNot : ce_TL tb_X12_mayNot := by
  unfold tb_X12_mayNot
  refine tl_c ta_aload ?_
  refine tl_c ta_ci ?_
  refine tl_c ta_istore ?_
  refine tl_c ta_aload ?_
  refine tl_c ta_getI ?_
  refine tl_c ta_ifeq ?_
  refine tl_c ta_iload ?_
  refine tl_c ta_int ?_
  refine tl_c ta_cmpeq ?_
  refine tl_c ta_iload ?_
  refine tl_c ta_int ?_
  refine tl_c ta_cmpeq ?_
  refine tl_c ta_iload ?_
  refine tl_c ta_int ?_
  refine tl_c ta_cmpeq ?_
  refine tl_c ta_iload ?_
  refine tl_c ta_int ?_
  refine tl_c ta_cmpne ?_
  refine tl_c ta_int ?_
  refine tl_c ta_goto ?_
  refine tl_c ta_int ?_
  refine tl_c ta_zret ?_
  exact trivial
set_option maxRecDepth 20000 in
theorem ok_X12_mayNot (l : Launch) : ce_OkL l cX12_mayNot RX12 2 (some .boolean) 2 0 0 pc_X12_mayNot 0 tb_X12_mayNot := by
  unfold tb_X12_mayNot
  refine ok_c (j := 1) rfl (ok_aload_n (j := ⟨0, by decide⟩) (pc := 0) rfl rfl (by decide +kernel)) ?_
  refine ok_c (j := 2) rfl (ok_virtual (y := yX12_top) (n := 0) (d' := 1) (t := 20) (T := TX12) (N := 45) (ix := 129) is_ci (pc := 1) rfl rfl (by decide +kernel) (by decide) (ct_X12_top l) rfl (fun _ => rfl) ce_fI_rec wd_998 wd_1000 wd_31 wd_75) ?_
  refine ok_c (j := 3) rfl (ok_istore_n (j := ⟨1, by decide⟩) (pc := 4) rfl rfl (by decide +kernel) (by decide)) ?_
  refine ok_c (j := 4) rfl (ok_aload_n (j := ⟨0, by decide⟩) (pc := 5) rfl rfl (by decide +kernel)) ?_
  refine ok_c (j := 5) rfl (ok_getI (ci := 12) (C := RX12) (T := TX12) (N := 45) (ix := 123) (pc := 6) rfl rfl (by decide +kernel) rfl (fun _ => rfl) rfl cw_X12 (by decide) rfl wd_849) ?_
  refine ok_c (j := 6) rfl (ok_ifeq (off := 27) (tg := 36) (pc := 9) rfl rfl (by decide +kernel) rfl (by decide)) ?_
  refine ok_c (j := 7) rfl (ok_iload_n (j := ⟨1, by decide⟩) (pc := 12) rfl rfl (by decide +kernel)) ?_
  refine ok_c (j := 8) rfl (ok_bipush (n := 10) (pc := 13) rfl rfl (by decide +kernel) (by decide)) ?_
  refine ok_c (j := 9) rfl (ok_cmpeq (off := 21) (tg := 36) (pc := 15) rfl rfl (by decide +kernel) rfl (by decide)) ?_
  refine ok_c (j := 10) rfl (ok_iload_n (j := ⟨1, by decide⟩) (pc := 18) rfl rfl (by decide +kernel)) ?_
  refine ok_c (j := 11) rfl (ok_bipush (n := 7) (pc := 19) rfl rfl (by decide +kernel) (by decide)) ?_
  refine ok_c (j := 12) rfl (ok_cmpeq (off := 15) (tg := 36) (pc := 21) rfl rfl (by decide +kernel) rfl (by decide)) ?_
  refine ok_c (j := 13) rfl (ok_iload_n (j := ⟨1, by decide⟩) (pc := 24) rfl rfl (by decide +kernel)) ?_
  refine ok_c (j := 14) rfl (ok_bipush (n := 6) (pc := 25) rfl rfl (by decide +kernel) (by decide)) ?_
  refine ok_c (j := 15) rfl (ok_cmpeq (off := 9) (tg := 36) (pc := 27) rfl rfl (by decide +kernel) rfl (by decide)) ?_
  refine ok_c (j := 16) rfl (ok_iload_n (j := ⟨1, by decide⟩) (pc := 30) rfl rfl (by decide +kernel)) ?_
  refine ok_c (j := 17) rfl (ok_bipush (n := 8) (pc := 31) rfl rfl (by decide +kernel) (by decide)) ?_
  refine ok_c (j := 18) rfl (ok_cmpne (off := 7) (tg := 40) (pc := 33) rfl rfl (by decide +kernel) rfl (by decide)) ?_
  refine ok_c (j := 19) rfl (ok_iconst (n := 1) (pc := 36) rfl rfl (by decide +kernel) (by decide)) ?_
  refine ok_c (j := 20) rfl (ok_goto (off := 4) (tg := 41) (pc := 37) rfl (by decide +kernel) rfl (by decide)) ?_
  refine ok_c (j := 21) rfl (ok_iconst (n := 0) (pc := 40) rfl rfl (by decide +kernel) (by decide)) ?_
  refine ok_c (j := 22) rfl (ok_zret (pc := 41) rfl (by decide +kernel) rfl) ?_
  exact trivial
noncomputable def F_X12_mayNot := ce_fI tb_X12_mayNot 2 (some 20)
theorem ct_X12_mayNot (l : Launch) : ce_callee l yX12_mayNot 0 2 0 0 (ce_wI F_X12_mayNot) := ⟨_, _, _, ce_ctr_of (pcs := pc_X12_mayNot) (by decide +kernel) rfl (ok_X12_mayNot l ) ce_fI_run, ce_tw_at wd_997 rfl, by decide, by decide +kernel, by decide +kernel, by decide +kernel⟩
def pc_X12_force : List Nat := [0, 1, 2, 3, 6, 7, 8, 11, 14, 16, 17, 18, 21, 22, 23, 24, 27, 28]
noncomputable def tb_X12_force : List ce_Op := [o_iload 1, o_int 0, o_aload 0, o_getI 20 19, o_int 1, o_bin q_sub, o_ci 3 F_X12_isIn 0 0 0 0, o_ifne 10, o_int (-2), o_iret, o_aload 0, o_getI 20 11, o_istore 2, o_aload 0, o_iload 1, o_putI 20 11, o_iload 2, o_iret]
theorem tl_X12_force : ce_TL tb_X12_force := by
  unfold tb_X12_force
  refine tl_c ta_iload ?_
  refine tl_c ta_int ?_
  refine tl_c ta_aload ?_
  refine tl_c ta_getI ?_
  refine tl_c ta_int ?_
  refine tl_c ta_bin ?_
  refine tl_c ta_ci ?_
  refine tl_c ta_ifne ?_
  refine tl_c ta_int ?_
  refine tl_c ta_iret ?_
  refine tl_c ta_aload ?_
  refine tl_c ta_getI ?_
  refine tl_c ta_istore ?_
  refine tl_c ta_aload ?_
  refine tl_c ta_iload ?_
  refine tl_c ta_putI ?_
  refine tl_c ta_iload ?_
  refine tl_c ta_iret ?_
  exact trivial
set_option maxRecDepth 20000 in
theorem ok_X12_force (l : Launch) : ce_OkL l cX12_force RX12 3 (some .int) 2 0 0 pc_X12_force 0 tb_X12_force := by
  unfold tb_X12_force
  refine ok_c (j := 1) rfl (ok_iload_n (j := ⟨1, by decide⟩) (pc := 0) rfl rfl (by decide +kernel)) ?_
  refine ok_c (j := 2) rfl (ok_iconst (n := 0) (pc := 1) rfl rfl (by decide +kernel) (by decide)) ?_
  refine ok_c (j := 3) rfl (ok_aload_n (j := ⟨0, by decide⟩) (pc := 2) rfl rfl (by decide +kernel)) ?_
  refine ok_c (j := 4) rfl (ok_getI (ci := 12) (C := RX12) (T := TX12) (N := 45) (ix := 61) (pc := 3) rfl rfl (by decide +kernel) rfl (fun _ => rfl) rfl cw_X12 (by decide) rfl wd_843) ?_
  refine ok_c (j := 5) rfl (ok_iconst (n := 1) (pc := 6) rfl rfl (by decide +kernel) (by decide)) ?_
  refine ok_c (j := 6) rfl (ok_isub (pc := 7) rfl rfl (by decide +kernel)) ?_
  refine ok_c (j := 7) rfl (ok_static (y := yX12_isIn) (n := 3) (d' := 1) (ix := 92) is_ci (pc := 8) rfl rfl (by decide +kernel) (by decide) rfl (ct_X12_isIn l) wd_964 wd_965 wd_75) ?_
  refine ok_c (j := 8) rfl (ok_ifne (off := 6) (tg := 17) (pc := 11) rfl rfl (by decide +kernel) rfl (by decide)) ?_
  refine ok_c (j := 9) rfl (ok_bipush (n := (-2)) (pc := 14) rfl rfl (by decide +kernel) (by decide)) ?_
  refine ok_c (j := 10) rfl (ok_iret (pc := 16) rfl (by decide +kernel) rfl) ?_
  refine ok_c (j := 11) rfl (ok_aload_n (j := ⟨0, by decide⟩) (pc := 17) rfl rfl (by decide +kernel)) ?_
  refine ok_c (j := 12) rfl (ok_getI (ci := 12) (C := RX12) (T := TX12) (N := 45) (ix := 165) (pc := 18) rfl rfl (by decide +kernel) rfl (fun _ => rfl) rfl cw_X12 (by decide) rfl wd_835) ?_
  refine ok_c (j := 13) rfl (ok_istore_n (j := ⟨2, by decide⟩) (pc := 21) rfl rfl (by decide +kernel) (by decide)) ?_
  refine ok_c (j := 14) rfl (ok_aload_n (j := ⟨0, by decide⟩) (pc := 22) rfl rfl (by decide +kernel)) ?_
  refine ok_c (j := 15) rfl (ok_iload_n (j := ⟨1, by decide⟩) (pc := 23) rfl rfl (by decide +kernel)) ?_
  refine ok_c (j := 16) rfl (ok_putI (ci := 12) (C := RX12) (T := TX12) (N := 45) (ty := tyX12) (ix := 165) (pc := 24) rfl rfl (by decide +kernel) rfl (fun _ => rfl) rfl cw_X12 tyX12_ok nmX12 (by decide) rfl rfl rfl wd_835) ?_
  refine ok_c (j := 17) rfl (ok_iload_n (j := ⟨2, by decide⟩) (pc := 27) rfl rfl (by decide +kernel)) ?_
  refine ok_c (j := 18) rfl (ok_iret (pc := 28) rfl (by decide +kernel) rfl) ?_
  exact trivial
noncomputable def F_X12_force := ce_fI tb_X12_force 3 (some 20)
theorem ct_X12_force (l : Launch) : ce_callee l yX12_force 1 2 0 0 (ce_wI F_X12_force) := ⟨_, _, _, ce_ctr_of (pcs := pc_X12_force) (by decide +kernel) rfl (ok_X12_force l ) ce_fI_run, ce_tw_at wd_1027 rfl, by decide, by decide +kernel, by decide +kernel, by decide +kernel⟩
def pc_X12_says : List Nat := [0, 1, 2, 5, 6, 7, 8, 10, 11, 13, 14, 16, 18, 19, 22, 24, 25, 28, 29, 32, 35, 37, 38, 40, 41, 42, 44, 46, 49, 52, 53, 56, 58, 60, 61, 64, 67, 69, 72, 75, 76, 79, 81, 82, 84, 87, 88, 89, 90, 92, 95, 96, 99, 102, 104, 107, 110, 111, 114, 116, 117, 118, 119, 122, 124, 125, 126, 127, 130, 131, 134, 135, 136, 139, 141, 144, 147, 148, 151, 153, 154, 155, 156, 159, 161, 162, 163, 164, 165, 166, 169, 172, 173, 176, 178, 179, 180, 182, 185, 186, 187, 190, 192, 193, 194, 195, 196, 199, 201, 202, 205, 206, 209, 212, 213, 216, 217, 218]
noncomputable def tb_X12_says : List ce_Op := [o_int 3, o_aload 0, o_getI 20 11, o_bin q_mul, o_iload 1, o_bin q_add, o_istore 5, o_int 0, o_istore 6, o_int 0, o_istore 7, o_iload 7, o_aload 0, o_getS 20 30 (fun _ => 0), o_iload 5, o_ild 30, o_cmpge 113, o_aload 0, o_getS 20 29 (fun _ => 0), o_int 170, o_iload 5, o_bin q_mul, o_iload 7, o_bin q_add, o_ild 29, o_istore 8, o_iload 8, o_int 20000, o_cmpge 36, o_aload 0, o_getS 20 32 (fun _ => 0), o_iload 6, o_iload 8, o_ist 32, o_iinc 6 1, o_goto 111, o_iload 8, o_int 30000, o_cmpge 53, o_aload 0, o_getS 20 32 (fun _ => 0), o_iload 6, o_aload 0, o_iload 8, o_int 20000, o_bin q_sub, o_iload 2, o_iload 3, o_iload 4, o_ci 5 F_X12_named 0 0 0 0, o_ist 32, o_iinc 6 1, o_goto 111, o_iload 8, o_int 30008, o_cmpne 73, o_aload 0, o_getS 20 32 (fun _ => 0), o_iload 6, o_int 1, o_bin q_sub, o_aload 0, o_getS 20 32 (fun _ => 0), o_iload 6, o_int 1, o_bin q_sub, o_ild 32, o_ifne 70, o_int 1, o_goto 71, o_int 0, o_ist 32, o_goto 111, o_iload 8, o_int 30009, o_cmpne 90, o_aload 0, o_getS 20 32 (fun _ => 0), o_iload 6, o_int 1, o_bin q_sub, o_aload 0, o_getS 20 32 (fun _ => 0), o_iload 6, o_int 1, o_bin q_sub, o_ild 32, o_un q_neg, o_ist 32, o_goto 111, o_iinc 6 (-1), o_aload 0, o_getS 20 32 (fun _ => 0), o_iload 6, o_int 1, o_bin q_sub, o_iload 8, o_int 30000, o_bin q_sub, o_aload 0, o_getS 20 32 (fun _ => 0), o_iload 6, o_int 1, o_bin q_sub, o_ild 32, o_aload 0, o_getS 20 32 (fun _ => 0), o_iload 6, o_ild 32, o_ci 3 F_X12_done 0 0 0 0, o_ist 32, o_iinc 7 1, o_goto 11, o_aload 0, o_getS 20 32 (fun _ => 0), o_int 0, o_ild 32, o_iret]
theorem tl_X12_says : ce_TL tb_X12_says := by
  unfold tb_X12_says
  refine tl_c ta_int ?_
  refine tl_c ta_aload ?_
  refine tl_c ta_getI ?_
  refine tl_c ta_bin ?_
  refine tl_c ta_iload ?_
  refine tl_c ta_bin ?_
  refine tl_c ta_istore ?_
  refine tl_c ta_int ?_
  refine tl_c ta_istore ?_
  refine tl_c ta_int ?_
  refine tl_c ta_istore ?_
  refine tl_c ta_iload ?_
  refine tl_c ta_aload ?_
  refine tl_c ta_getS ?_
  refine tl_c ta_iload ?_
  refine tl_c ta_ild ?_
  refine tl_c ta_cmpge ?_
  refine tl_c ta_aload ?_
  refine tl_c ta_getS ?_
  refine tl_c ta_int ?_
  refine tl_c ta_iload ?_
  refine tl_c ta_bin ?_
  refine tl_c ta_iload ?_
  refine tl_c ta_bin ?_
  refine tl_c ta_ild ?_
  refine tl_c ta_istore ?_
  refine tl_c ta_iload ?_
  refine tl_c ta_int ?_
  refine tl_c ta_cmpge ?_
  refine tl_c ta_aload ?_
  refine tl_c ta_getS ?_
  refine tl_c ta_iload ?_
  refine tl_c ta_iload ?_
  refine tl_c ta_ist ?_
  refine tl_c ta_iinc ?_
  refine tl_c ta_goto ?_
  refine tl_c ta_iload ?_
  refine tl_c ta_int ?_
  refine tl_c ta_cmpge ?_
  refine tl_c ta_aload ?_
  refine tl_c ta_getS ?_
  refine tl_c ta_iload ?_
  refine tl_c ta_aload ?_
  refine tl_c ta_iload ?_
  refine tl_c ta_int ?_
  refine tl_c ta_bin ?_
  refine tl_c ta_iload ?_
  refine tl_c ta_iload ?_
  refine tl_c ta_iload ?_
  refine tl_c ta_ci ?_
  refine tl_c ta_ist ?_
  refine tl_c ta_iinc ?_
  refine tl_c ta_goto ?_
  refine tl_c ta_iload ?_
  refine tl_c ta_int ?_
  refine tl_c ta_cmpne ?_
  refine tl_c ta_aload ?_
  refine tl_c ta_getS ?_
  refine tl_c ta_iload ?_
  refine tl_c ta_int ?_
  refine tl_c ta_bin ?_
  refine tl_c ta_aload ?_
  refine tl_c ta_getS ?_
  refine tl_c ta_iload ?_
  refine tl_c ta_int ?_
  refine tl_c ta_bin ?_
  refine tl_c ta_ild ?_
  refine tl_c ta_ifne ?_
  refine tl_c ta_int ?_
  refine tl_c ta_goto ?_
  refine tl_c ta_int ?_
  refine tl_c ta_ist ?_
  refine tl_c ta_goto ?_
  refine tl_c ta_iload ?_
  refine tl_c ta_int ?_
  refine tl_c ta_cmpne ?_
  refine tl_c ta_aload ?_
  refine tl_c ta_getS ?_
  refine tl_c ta_iload ?_
  refine tl_c ta_int ?_
  refine tl_c ta_bin ?_
  refine tl_c ta_aload ?_
  refine tl_c ta_getS ?_
  refine tl_c ta_iload ?_
  refine tl_c ta_int ?_
  refine tl_c ta_bin ?_
  refine tl_c ta_ild ?_
  refine tl_c ta_un ?_
  refine tl_c ta_ist ?_
  refine tl_c ta_goto ?_
  refine tl_c ta_iinc ?_
  refine tl_c ta_aload ?_
  refine tl_c ta_getS ?_
  refine tl_c ta_iload ?_
  refine tl_c ta_int ?_
  refine tl_c ta_bin ?_
  refine tl_c ta_iload ?_
  refine tl_c ta_int ?_
  refine tl_c ta_bin ?_
  refine tl_c ta_aload ?_
  refine tl_c ta_getS ?_
  refine tl_c ta_iload ?_
  refine tl_c ta_int ?_
  refine tl_c ta_bin ?_
  refine tl_c ta_ild ?_
  refine tl_c ta_aload ?_
  refine tl_c ta_getS ?_
  refine tl_c ta_iload ?_
  refine tl_c ta_ild ?_
  refine tl_c ta_ci ?_
  refine tl_c ta_ist ?_
  refine tl_c ta_iinc ?_
  refine tl_c ta_goto ?_
  refine tl_c ta_aload ?_
  refine tl_c ta_getS ?_
  refine tl_c ta_int ?_
  refine tl_c ta_ild ?_
  refine tl_c ta_iret ?_
  exact trivial
set_option maxRecDepth 20000 in
theorem ok_X12_says (l : Launch) : ce_OkL l cX12_says RX12 9 (some .int) 2 0 0 pc_X12_says 0 tb_X12_says := by
  unfold tb_X12_says
  refine ok_c (j := 1) rfl (ok_iconst (n := 3) (pc := 0) rfl rfl (by decide +kernel) (by decide)) ?_
  refine ok_c (j := 2) rfl (ok_aload_n (j := ⟨0, by decide⟩) (pc := 1) rfl rfl (by decide +kernel)) ?_
  refine ok_c (j := 3) rfl (ok_getI (ci := 12) (C := RX12) (T := TX12) (N := 45) (ix := 165) (pc := 2) rfl rfl (by decide +kernel) rfl (fun _ => rfl) rfl cw_X12 (by decide) rfl wd_835) ?_
  refine ok_c (j := 4) rfl (ok_imul (pc := 5) rfl rfl (by decide +kernel)) ?_
  refine ok_c (j := 5) rfl (ok_iload_n (j := ⟨1, by decide⟩) (pc := 6) rfl rfl (by decide +kernel)) ?_
  refine ok_c (j := 6) rfl (ok_iadd (pc := 7) rfl rfl (by decide +kernel)) ?_
  refine ok_c (j := 7) rfl (ok_istore (j := 5) (pc := 8) rfl rfl (by decide +kernel) (by decide)) ?_
  refine ok_c (j := 8) rfl (ok_iconst (n := 0) (pc := 10) rfl rfl (by decide +kernel) (by decide)) ?_
  refine ok_c (j := 9) rfl (ok_istore (j := 6) (pc := 11) rfl rfl (by decide +kernel) (by decide)) ?_
  refine ok_c (j := 10) rfl (ok_iconst (n := 0) (pc := 13) rfl rfl (by decide +kernel) (by decide)) ?_
  refine ok_c (j := 11) rfl (ok_istore (j := 7) (pc := 14) rfl rfl (by decide +kernel) (by decide)) ?_
  refine ok_c (j := 12) rfl (ok_iload (j := 7) (pc := 16) rfl rfl (by decide +kernel)) ?_
  refine ok_c (j := 13) rfl (ok_aload_n (j := ⟨0, by decide⟩) (pc := 18) rfl rfl (by decide +kernel)) ?_
  refine ok_c (j := 14) rfl (ok_getS (f := 15) (ci := 12) (C := RX12) (T := TX12) (N := 45) (ix := 52) (pc := 19) rfl rfl (by decide +kernel) rfl (fun _ => rfl) rfl cw_X12 (by decide) rfl wd_839) ?_
  refine ok_c (j := 15) rfl (ok_iload (j := 5) (pc := 22) rfl rfl (by decide +kernel)) ?_
  refine ok_c (j := 16) rfl (ok_ild (pc := 24) rfl rfl (by decide +kernel) rfl) ?_
  refine ok_c (j := 17) rfl (ok_cmpge (off := 187) (tg := 212) (pc := 25) rfl rfl (by decide +kernel) rfl (by decide)) ?_
  refine ok_c (j := 18) rfl (ok_aload_n (j := ⟨0, by decide⟩) (pc := 28) rfl rfl (by decide +kernel)) ?_
  refine ok_c (j := 19) rfl (ok_getS (f := 14) (ci := 12) (C := RX12) (T := TX12) (N := 45) (ix := 49) (pc := 29) rfl rfl (by decide +kernel) rfl (fun _ => rfl) rfl cw_X12 (by decide) rfl wd_838) ?_
  refine ok_c (j := 20) rfl (ok_sipush (n := 170) (pc := 32) rfl rfl (by decide +kernel) (by decide)) ?_
  refine ok_c (j := 21) rfl (ok_iload (j := 5) (pc := 35) rfl rfl (by decide +kernel)) ?_
  refine ok_c (j := 22) rfl (ok_imul (pc := 37) rfl rfl (by decide +kernel)) ?_
  refine ok_c (j := 23) rfl (ok_iload (j := 7) (pc := 38) rfl rfl (by decide +kernel)) ?_
  refine ok_c (j := 24) rfl (ok_iadd (pc := 40) rfl rfl (by decide +kernel)) ?_
  refine ok_c (j := 25) rfl (ok_ild (pc := 41) rfl rfl (by decide +kernel) rfl) ?_
  refine ok_c (j := 26) rfl (ok_istore (j := 8) (pc := 42) rfl rfl (by decide +kernel) (by decide)) ?_
  refine ok_c (j := 27) rfl (ok_iload (j := 8) (pc := 44) rfl rfl (by decide +kernel)) ?_
  refine ok_c (j := 28) rfl (ok_sipush (n := 20000) (pc := 46) rfl rfl (by decide +kernel) (by decide)) ?_
  refine ok_c (j := 29) rfl (ok_cmpge (off := 18) (tg := 67) (pc := 49) rfl rfl (by decide +kernel) rfl (by decide)) ?_
  refine ok_c (j := 30) rfl (ok_aload_n (j := ⟨0, by decide⟩) (pc := 52) rfl rfl (by decide +kernel)) ?_
  refine ok_c (j := 31) rfl (ok_getS (f := 17) (ci := 12) (C := RX12) (T := TX12) (N := 45) (ix := 58) (pc := 53) rfl rfl (by decide +kernel) rfl (fun _ => rfl) rfl cw_X12 (by decide) rfl wd_841) ?_
  refine ok_c (j := 32) rfl (ok_iload (j := 6) (pc := 56) rfl rfl (by decide +kernel)) ?_
  refine ok_c (j := 33) rfl (ok_iload (j := 8) (pc := 58) rfl rfl (by decide +kernel)) ?_
  refine ok_c (j := 34) rfl (ok_ist (pc := 60) rfl rfl (by decide +kernel) rfl) ?_
  refine ok_c (j := 35) rfl (ok_iinc (n := 1) (pc := 61) rfl rfl (by decide +kernel) (by decide) (by decide)) ?_
  refine ok_c (j := 36) rfl (ok_goto (off := 142) (tg := 206) (pc := 64) rfl (by decide +kernel) rfl (by decide)) ?_
  refine ok_c (j := 37) rfl (ok_iload (j := 8) (pc := 67) rfl rfl (by decide +kernel)) ?_
  refine ok_c (j := 38) rfl (ok_sipush (n := 30000) (pc := 69) rfl rfl (by decide +kernel) (by decide)) ?_
  refine ok_c (j := 39) rfl (ok_cmpge (off := 30) (tg := 102) (pc := 72) rfl rfl (by decide +kernel) rfl (by decide)) ?_
  refine ok_c (j := 40) rfl (ok_aload_n (j := ⟨0, by decide⟩) (pc := 75) rfl rfl (by decide +kernel)) ?_
  refine ok_c (j := 41) rfl (ok_getS (f := 17) (ci := 12) (C := RX12) (T := TX12) (N := 45) (ix := 58) (pc := 76) rfl rfl (by decide +kernel) rfl (fun _ => rfl) rfl cw_X12 (by decide) rfl wd_841) ?_
  refine ok_c (j := 42) rfl (ok_iload (j := 6) (pc := 79) rfl rfl (by decide +kernel)) ?_
  refine ok_c (j := 43) rfl (ok_aload_n (j := ⟨0, by decide⟩) (pc := 81) rfl rfl (by decide +kernel)) ?_
  refine ok_c (j := 44) rfl (ok_iload (j := 8) (pc := 82) rfl rfl (by decide +kernel)) ?_
  refine ok_c (j := 45) rfl (ok_sipush (n := 20000) (pc := 84) rfl rfl (by decide +kernel) (by decide)) ?_
  refine ok_c (j := 46) rfl (ok_isub (pc := 87) rfl rfl (by decide +kernel)) ?_
  refine ok_c (j := 47) rfl (ok_iload_n (j := ⟨2, by decide⟩) (pc := 88) rfl rfl (by decide +kernel)) ?_
  refine ok_c (j := 48) rfl (ok_iload_n (j := ⟨3, by decide⟩) (pc := 89) rfl rfl (by decide +kernel)) ?_
  refine ok_c (j := 49) rfl (ok_iload (j := 4) (pc := 90) rfl rfl (by decide +kernel)) ?_
  refine ok_c (j := 50) rfl (ok_virtual (y := yX12_named) (n := 4) (d' := 1) (t := 20) (T := TX12) (N := 45) (ix := 168) is_ci (pc := 92) rfl rfl (by decide +kernel) (by decide) (ct_X12_named l) rfl (fun _ => rfl) ce_fI_rec wd_1044 wd_1046 wd_39 wd_75) ?_
  refine ok_c (j := 51) rfl (ok_ist (pc := 95) rfl rfl (by decide +kernel) rfl) ?_
  refine ok_c (j := 52) rfl (ok_iinc (n := 1) (pc := 96) rfl rfl (by decide +kernel) (by decide) (by decide)) ?_
  refine ok_c (j := 53) rfl (ok_goto (off := 107) (tg := 206) (pc := 99) rfl (by decide +kernel) rfl (by decide)) ?_
  refine ok_c (j := 54) rfl (ok_iload (j := 8) (pc := 102) rfl rfl (by decide +kernel)) ?_
  refine ok_c (j := 55) rfl (ok_sipush (n := 30008) (pc := 104) rfl rfl (by decide +kernel) (by decide)) ?_
  refine ok_c (j := 56) rfl (ok_cmpne (off := 32) (tg := 139) (pc := 107) rfl rfl (by decide +kernel) rfl (by decide)) ?_
  refine ok_c (j := 57) rfl (ok_aload_n (j := ⟨0, by decide⟩) (pc := 110) rfl rfl (by decide +kernel)) ?_
  refine ok_c (j := 58) rfl (ok_getS (f := 17) (ci := 12) (C := RX12) (T := TX12) (N := 45) (ix := 58) (pc := 111) rfl rfl (by decide +kernel) rfl (fun _ => rfl) rfl cw_X12 (by decide) rfl wd_841) ?_
  refine ok_c (j := 59) rfl (ok_iload (j := 6) (pc := 114) rfl rfl (by decide +kernel)) ?_
  refine ok_c (j := 60) rfl (ok_iconst (n := 1) (pc := 116) rfl rfl (by decide +kernel) (by decide)) ?_
  refine ok_c (j := 61) rfl (ok_isub (pc := 117) rfl rfl (by decide +kernel)) ?_
  refine ok_c (j := 62) rfl (ok_aload_n (j := ⟨0, by decide⟩) (pc := 118) rfl rfl (by decide +kernel)) ?_
  refine ok_c (j := 63) rfl (ok_getS (f := 17) (ci := 12) (C := RX12) (T := TX12) (N := 45) (ix := 58) (pc := 119) rfl rfl (by decide +kernel) rfl (fun _ => rfl) rfl cw_X12 (by decide) rfl wd_841) ?_
  refine ok_c (j := 64) rfl (ok_iload (j := 6) (pc := 122) rfl rfl (by decide +kernel)) ?_
  refine ok_c (j := 65) rfl (ok_iconst (n := 1) (pc := 124) rfl rfl (by decide +kernel) (by decide)) ?_
  refine ok_c (j := 66) rfl (ok_isub (pc := 125) rfl rfl (by decide +kernel)) ?_
  refine ok_c (j := 67) rfl (ok_ild (pc := 126) rfl rfl (by decide +kernel) rfl) ?_
  refine ok_c (j := 68) rfl (ok_ifne (off := 7) (tg := 134) (pc := 127) rfl rfl (by decide +kernel) rfl (by decide)) ?_
  refine ok_c (j := 69) rfl (ok_iconst (n := 1) (pc := 130) rfl rfl (by decide +kernel) (by decide)) ?_
  refine ok_c (j := 70) rfl (ok_goto (off := 4) (tg := 135) (pc := 131) rfl (by decide +kernel) rfl (by decide)) ?_
  refine ok_c (j := 71) rfl (ok_iconst (n := 0) (pc := 134) rfl rfl (by decide +kernel) (by decide)) ?_
  refine ok_c (j := 72) rfl (ok_ist (pc := 135) rfl rfl (by decide +kernel) rfl) ?_
  refine ok_c (j := 73) rfl (ok_goto (off := 70) (tg := 206) (pc := 136) rfl (by decide +kernel) rfl (by decide)) ?_
  refine ok_c (j := 74) rfl (ok_iload (j := 8) (pc := 139) rfl rfl (by decide +kernel)) ?_
  refine ok_c (j := 75) rfl (ok_sipush (n := 30009) (pc := 141) rfl rfl (by decide +kernel) (by decide)) ?_
  refine ok_c (j := 76) rfl (ok_cmpne (off := 25) (tg := 169) (pc := 144) rfl rfl (by decide +kernel) rfl (by decide)) ?_
  refine ok_c (j := 77) rfl (ok_aload_n (j := ⟨0, by decide⟩) (pc := 147) rfl rfl (by decide +kernel)) ?_
  refine ok_c (j := 78) rfl (ok_getS (f := 17) (ci := 12) (C := RX12) (T := TX12) (N := 45) (ix := 58) (pc := 148) rfl rfl (by decide +kernel) rfl (fun _ => rfl) rfl cw_X12 (by decide) rfl wd_841) ?_
  refine ok_c (j := 79) rfl (ok_iload (j := 6) (pc := 151) rfl rfl (by decide +kernel)) ?_
  refine ok_c (j := 80) rfl (ok_iconst (n := 1) (pc := 153) rfl rfl (by decide +kernel) (by decide)) ?_
  refine ok_c (j := 81) rfl (ok_isub (pc := 154) rfl rfl (by decide +kernel)) ?_
  refine ok_c (j := 82) rfl (ok_aload_n (j := ⟨0, by decide⟩) (pc := 155) rfl rfl (by decide +kernel)) ?_
  refine ok_c (j := 83) rfl (ok_getS (f := 17) (ci := 12) (C := RX12) (T := TX12) (N := 45) (ix := 58) (pc := 156) rfl rfl (by decide +kernel) rfl (fun _ => rfl) rfl cw_X12 (by decide) rfl wd_841) ?_
  refine ok_c (j := 84) rfl (ok_iload (j := 6) (pc := 159) rfl rfl (by decide +kernel)) ?_
  refine ok_c (j := 85) rfl (ok_iconst (n := 1) (pc := 161) rfl rfl (by decide +kernel) (by decide)) ?_
  refine ok_c (j := 86) rfl (ok_isub (pc := 162) rfl rfl (by decide +kernel)) ?_
  refine ok_c (j := 87) rfl (ok_ild (pc := 163) rfl rfl (by decide +kernel) rfl) ?_
  refine ok_c (j := 88) rfl (ok_ineg (pc := 164) rfl rfl (by decide +kernel)) ?_
  refine ok_c (j := 89) rfl (ok_ist (pc := 165) rfl rfl (by decide +kernel) rfl) ?_
  refine ok_c (j := 90) rfl (ok_goto (off := 40) (tg := 206) (pc := 166) rfl (by decide +kernel) rfl (by decide)) ?_
  refine ok_c (j := 91) rfl (ok_iinc (n := (-1)) (pc := 169) rfl rfl (by decide +kernel) (by decide) (by decide)) ?_
  refine ok_c (j := 92) rfl (ok_aload_n (j := ⟨0, by decide⟩) (pc := 172) rfl rfl (by decide +kernel)) ?_
  refine ok_c (j := 93) rfl (ok_getS (f := 17) (ci := 12) (C := RX12) (T := TX12) (N := 45) (ix := 58) (pc := 173) rfl rfl (by decide +kernel) rfl (fun _ => rfl) rfl cw_X12 (by decide) rfl wd_841) ?_
  refine ok_c (j := 94) rfl (ok_iload (j := 6) (pc := 176) rfl rfl (by decide +kernel)) ?_
  refine ok_c (j := 95) rfl (ok_iconst (n := 1) (pc := 178) rfl rfl (by decide +kernel) (by decide)) ?_
  refine ok_c (j := 96) rfl (ok_isub (pc := 179) rfl rfl (by decide +kernel)) ?_
  refine ok_c (j := 97) rfl (ok_iload (j := 8) (pc := 180) rfl rfl (by decide +kernel)) ?_
  refine ok_c (j := 98) rfl (ok_sipush (n := 30000) (pc := 182) rfl rfl (by decide +kernel) (by decide)) ?_
  refine ok_c (j := 99) rfl (ok_isub (pc := 185) rfl rfl (by decide +kernel)) ?_
  refine ok_c (j := 100) rfl (ok_aload_n (j := ⟨0, by decide⟩) (pc := 186) rfl rfl (by decide +kernel)) ?_
  refine ok_c (j := 101) rfl (ok_getS (f := 17) (ci := 12) (C := RX12) (T := TX12) (N := 45) (ix := 58) (pc := 187) rfl rfl (by decide +kernel) rfl (fun _ => rfl) rfl cw_X12 (by decide) rfl wd_841) ?_
  refine ok_c (j := 102) rfl (ok_iload (j := 6) (pc := 190) rfl rfl (by decide +kernel)) ?_
  refine ok_c (j := 103) rfl (ok_iconst (n := 1) (pc := 192) rfl rfl (by decide +kernel) (by decide)) ?_
  refine ok_c (j := 104) rfl (ok_isub (pc := 193) rfl rfl (by decide +kernel)) ?_
  refine ok_c (j := 105) rfl (ok_ild (pc := 194) rfl rfl (by decide +kernel) rfl) ?_
  refine ok_c (j := 106) rfl (ok_aload_n (j := ⟨0, by decide⟩) (pc := 195) rfl rfl (by decide +kernel)) ?_
  refine ok_c (j := 107) rfl (ok_getS (f := 17) (ci := 12) (C := RX12) (T := TX12) (N := 45) (ix := 58) (pc := 196) rfl rfl (by decide +kernel) rfl (fun _ => rfl) rfl cw_X12 (by decide) rfl wd_841) ?_
  refine ok_c (j := 108) rfl (ok_iload (j := 6) (pc := 199) rfl rfl (by decide +kernel)) ?_
  refine ok_c (j := 109) rfl (ok_ild (pc := 201) rfl rfl (by decide +kernel) rfl) ?_
  refine ok_c (j := 110) rfl (ok_static (y := yX12_done) (n := 3) (d' := 1) (ix := 172) is_ci (pc := 202) rfl rfl (by decide +kernel) (by decide) rfl (ct_X12_done l) wd_1048 wd_1049 wd_75) ?_
  refine ok_c (j := 111) rfl (ok_ist (pc := 205) rfl rfl (by decide +kernel) rfl) ?_
  refine ok_c (j := 112) rfl (ok_iinc (n := 1) (pc := 206) rfl rfl (by decide +kernel) (by decide) (by decide)) ?_
  refine ok_c (j := 113) rfl (ok_goto (off := (-193)) (tg := 16) (pc := 209) rfl (by decide +kernel) rfl (by decide)) ?_
  refine ok_c (j := 114) rfl (ok_aload_n (j := ⟨0, by decide⟩) (pc := 212) rfl rfl (by decide +kernel)) ?_
  refine ok_c (j := 115) rfl (ok_getS (f := 17) (ci := 12) (C := RX12) (T := TX12) (N := 45) (ix := 58) (pc := 213) rfl rfl (by decide +kernel) rfl (fun _ => rfl) rfl cw_X12 (by decide) rfl wd_841) ?_
  refine ok_c (j := 116) rfl (ok_iconst (n := 0) (pc := 216) rfl rfl (by decide +kernel) (by decide)) ?_
  refine ok_c (j := 117) rfl (ok_ild (pc := 217) rfl rfl (by decide +kernel) rfl) ?_
  refine ok_c (j := 118) rfl (ok_iret (pc := 218) rfl (by decide +kernel) rfl) ?_
  exact trivial
noncomputable def F_X12_says := ce_fI tb_X12_says 9 (some 20)
theorem ct_X12_says (l : Launch) : ce_callee l yX12_says 4 2 0 0 (ce_wI F_X12_says) := ⟨_, _, _, ce_ctr_of (pcs := pc_X12_says) (by decide +kernel) rfl (ok_X12_says l ) ce_fI_run, ce_tw_at wd_1043 rfl, by decide, by decide +kernel, by decide +kernel, by decide +kernel⟩
def pc_X12_taken : List Nat := [0, 1, 2, 3, 6, 9, 11, 12, 13, 14, 17, 20, 22, 23, 24, 27, 28, 29, 30, 33, 36, 37, 40, 41, 42, 45, 47]
noncomputable def tb_X12_taken : List ce_Op := [o_iload 2, o_int 0, o_int 5, o_ci 3 F_X12_isIn 0 0 0 0, o_ifne 7, o_int (-2), o_iret, o_aload 0, o_iload 1, o_ci 2 F_X12_isSeller 0 0 0 0, o_ifne 13, o_int (-11), o_iret, o_aload 0, o_getS 20 21 (fun _ => 0), o_iload 1, o_ild 21, o_iload 2, o_ci 2 F_X12_isUnder 0 0 0 0, o_ifeq 25, o_aload 0, o_getS 20 23 (fun _ => 0), o_iload 1, o_ild 23, o_goto 26, o_int (-13), o_iret]
theorem tl_X12_taken : ce_TL tb_X12_taken := by
  unfold tb_X12_taken
  refine tl_c ta_iload ?_
  refine tl_c ta_int ?_
  refine tl_c ta_int ?_
  refine tl_c ta_ci ?_
  refine tl_c ta_ifne ?_
  refine tl_c ta_int ?_
  refine tl_c ta_iret ?_
  refine tl_c ta_aload ?_
  refine tl_c ta_iload ?_
  refine tl_c ta_ci ?_
  refine tl_c ta_ifne ?_
  refine tl_c ta_int ?_
  refine tl_c ta_iret ?_
  refine tl_c ta_aload ?_
  refine tl_c ta_getS ?_
  refine tl_c ta_iload ?_
  refine tl_c ta_ild ?_
  refine tl_c ta_iload ?_
  refine tl_c ta_ci ?_
  refine tl_c ta_ifeq ?_
  refine tl_c ta_aload ?_
  refine tl_c ta_getS ?_
  refine tl_c ta_iload ?_
  refine tl_c ta_ild ?_
  refine tl_c ta_goto ?_
  refine tl_c ta_int ?_
  refine tl_c ta_iret ?_
  exact trivial
set_option maxRecDepth 20000 in
theorem ok_X12_taken (l : Launch) : ce_OkL l cX12_taken RX12 3 (some .int) 2 0 0 pc_X12_taken 0 tb_X12_taken := by
  unfold tb_X12_taken
  refine ok_c (j := 1) rfl (ok_iload_n (j := ⟨2, by decide⟩) (pc := 0) rfl rfl (by decide +kernel)) ?_
  refine ok_c (j := 2) rfl (ok_iconst (n := 0) (pc := 1) rfl rfl (by decide +kernel) (by decide)) ?_
  refine ok_c (j := 3) rfl (ok_iconst (n := 5) (pc := 2) rfl rfl (by decide +kernel) (by decide)) ?_
  refine ok_c (j := 4) rfl (ok_static (y := yX12_isIn) (n := 3) (d' := 1) (ix := 92) is_ci (pc := 3) rfl rfl (by decide +kernel) (by decide) rfl (ct_X12_isIn l) wd_964 wd_965 wd_75) ?_
  refine ok_c (j := 5) rfl (ok_ifne (off := 6) (tg := 12) (pc := 6) rfl rfl (by decide +kernel) rfl (by decide)) ?_
  refine ok_c (j := 6) rfl (ok_bipush (n := (-2)) (pc := 9) rfl rfl (by decide +kernel) (by decide)) ?_
  refine ok_c (j := 7) rfl (ok_iret (pc := 11) rfl (by decide +kernel) rfl) ?_
  refine ok_c (j := 8) rfl (ok_aload_n (j := ⟨0, by decide⟩) (pc := 12) rfl rfl (by decide +kernel)) ?_
  refine ok_c (j := 9) rfl (ok_iload_n (j := ⟨1, by decide⟩) (pc := 13) rfl rfl (by decide +kernel)) ?_
  refine ok_c (j := 10) rfl (ok_virtual (y := yX12_isSeller) (n := 1) (d' := 1) (t := 20) (T := TX12) (N := 45) (ix := 192) is_ci (pc := 14) rfl rfl (by decide +kernel) (by decide) (ct_X12_isSeller l) rfl (fun _ => rfl) ce_fI_rec wd_1062 wd_1064 wd_41 wd_75) ?_
  refine ok_c (j := 11) rfl (ok_ifne (off := 6) (tg := 23) (pc := 17) rfl rfl (by decide +kernel) rfl (by decide)) ?_
  refine ok_c (j := 12) rfl (ok_bipush (n := (-11)) (pc := 20) rfl rfl (by decide +kernel) (by decide)) ?_
  refine ok_c (j := 13) rfl (ok_iret (pc := 22) rfl (by decide +kernel) rfl) ?_
  refine ok_c (j := 14) rfl (ok_aload_n (j := ⟨0, by decide⟩) (pc := 23) rfl rfl (by decide +kernel)) ?_
  refine ok_c (j := 15) rfl (ok_getS (f := 0) (ci := 12) (C := RX12) (T := TX12) (N := 45) (ix := 7) (pc := 24) rfl rfl (by decide +kernel) rfl (fun _ => rfl) rfl cw_X12 (by decide) rfl wd_824) ?_
  refine ok_c (j := 16) rfl (ok_iload_n (j := ⟨1, by decide⟩) (pc := 27) rfl rfl (by decide +kernel)) ?_
  refine ok_c (j := 17) rfl (ok_ild (pc := 28) rfl rfl (by decide +kernel) rfl) ?_
  refine ok_c (j := 18) rfl (ok_iload_n (j := ⟨2, by decide⟩) (pc := 29) rfl rfl (by decide +kernel)) ?_
  refine ok_c (j := 19) rfl (ok_static (y := yX12_isUnder) (n := 2) (d' := 1) (ix := 198) is_ci (pc := 30) rfl rfl (by decide +kernel) (by decide) rfl (ct_X12_isUnder l) wd_1082 wd_1083 wd_75) ?_
  refine ok_c (j := 20) rfl (ok_ifeq (off := 12) (tg := 45) (pc := 33) rfl rfl (by decide +kernel) rfl (by decide)) ?_
  refine ok_c (j := 21) rfl (ok_aload_n (j := ⟨0, by decide⟩) (pc := 36) rfl rfl (by decide +kernel)) ?_
  refine ok_c (j := 22) rfl (ok_getS (f := 2) (ci := 12) (C := RX12) (T := TX12) (N := 45) (ix := 16) (pc := 37) rfl rfl (by decide +kernel) rfl (fun _ => rfl) rfl cw_X12 (by decide) rfl wd_826) ?_
  refine ok_c (j := 23) rfl (ok_iload_n (j := ⟨1, by decide⟩) (pc := 40) rfl rfl (by decide +kernel)) ?_
  refine ok_c (j := 24) rfl (ok_ild (pc := 41) rfl rfl (by decide +kernel) rfl) ?_
  refine ok_c (j := 25) rfl (ok_goto (off := 5) (tg := 47) (pc := 42) rfl (by decide +kernel) rfl (by decide)) ?_
  refine ok_c (j := 26) rfl (ok_bipush (n := (-13)) (pc := 45) rfl rfl (by decide +kernel) (by decide)) ?_
  refine ok_c (j := 27) rfl (ok_iret (pc := 47) rfl (by decide +kernel) rfl) ?_
  exact trivial
noncomputable def F_X12_taken := ce_fI tb_X12_taken 3 (some 20)
theorem ct_X12_taken (l : Launch) : ce_callee l yX12_taken 2 2 0 0 (ce_wI F_X12_taken) := ⟨_, _, _, ce_ctr_of (pcs := pc_X12_taken) (by decide +kernel) rfl (ok_X12_taken l ) ce_fI_run, ce_tw_at wd_1081 rfl, by decide, by decide +kernel, by decide +kernel, by decide +kernel⟩
def pc_X12_agree : List Nat := [0, 1, 2, 5, 8, 10, 11, 12, 15, 16, 17, 20, 22, 25, 26, 27, 30]
noncomputable def tb_X12_agree : List ce_Op := [o_aload 0, o_iload 1, o_ci 2 F_X12_isSeller 0 0 0 0, o_ifne 6, o_int (-2), o_iret, o_aload 0, o_getS 20 26 (fun _ => 0), o_iload 1, o_ild 26, o_ifeq 13, o_int (-3), o_goto 16, o_aload 0, o_iload 1, o_ci 2 F_X12_agrees 0 0 0 0, o_iret]
theorem tl_X12_agree : ce_TL tb_X12_agree := by
  unfold tb_X12_agree
  refine tl_c ta_aload ?_
  refine tl_c ta_iload ?_
  refine tl_c ta_ci ?_
  refine tl_c ta_ifne ?_
  refine tl_c ta_int ?_
  refine tl_c ta_iret ?_
  refine tl_c ta_aload ?_
  refine tl_c ta_getS ?_
  refine tl_c ta_iload ?_
  refine tl_c ta_ild ?_
  refine tl_c ta_ifeq ?_
  refine tl_c ta_int ?_
  refine tl_c ta_goto ?_
  refine tl_c ta_aload ?_
  refine tl_c ta_iload ?_
  refine tl_c ta_ci ?_
  refine tl_c ta_iret ?_
  exact trivial
set_option maxRecDepth 20000 in
theorem ok_X12_agree (l : Launch) : ce_OkL l cX12_agree RX12 2 (some .int) 2 0 0 pc_X12_agree 0 tb_X12_agree := by
  unfold tb_X12_agree
  refine ok_c (j := 1) rfl (ok_aload_n (j := ⟨0, by decide⟩) (pc := 0) rfl rfl (by decide +kernel)) ?_
  refine ok_c (j := 2) rfl (ok_iload_n (j := ⟨1, by decide⟩) (pc := 1) rfl rfl (by decide +kernel)) ?_
  refine ok_c (j := 3) rfl (ok_virtual (y := yX12_isSeller) (n := 1) (d' := 1) (t := 20) (T := TX12) (N := 45) (ix := 192) is_ci (pc := 2) rfl rfl (by decide +kernel) (by decide) (ct_X12_isSeller l) rfl (fun _ => rfl) ce_fI_rec wd_1062 wd_1064 wd_41 wd_75) ?_
  refine ok_c (j := 4) rfl (ok_ifne (off := 6) (tg := 11) (pc := 5) rfl rfl (by decide +kernel) rfl (by decide)) ?_
  refine ok_c (j := 5) rfl (ok_bipush (n := (-2)) (pc := 8) rfl rfl (by decide +kernel) (by decide)) ?_
  refine ok_c (j := 6) rfl (ok_iret (pc := 10) rfl (by decide +kernel) rfl) ?_
  refine ok_c (j := 7) rfl (ok_aload_n (j := ⟨0, by decide⟩) (pc := 11) rfl rfl (by decide +kernel)) ?_
  refine ok_c (j := 8) rfl (ok_getS (f := 5) (ci := 12) (C := RX12) (T := TX12) (N := 45) (ix := 25) (pc := 12) rfl rfl (by decide +kernel) rfl (fun _ => rfl) rfl cw_X12 (by decide) rfl wd_829) ?_
  refine ok_c (j := 9) rfl (ok_iload_n (j := ⟨1, by decide⟩) (pc := 15) rfl rfl (by decide +kernel)) ?_
  refine ok_c (j := 10) rfl (ok_ild (pc := 16) rfl rfl (by decide +kernel) rfl) ?_
  refine ok_c (j := 11) rfl (ok_ifeq (off := 8) (tg := 25) (pc := 17) rfl rfl (by decide +kernel) rfl (by decide)) ?_
  refine ok_c (j := 12) rfl (ok_bipush (n := (-3)) (pc := 20) rfl rfl (by decide +kernel) (by decide)) ?_
  refine ok_c (j := 13) rfl (ok_goto (off := 8) (tg := 30) (pc := 22) rfl (by decide +kernel) rfl (by decide)) ?_
  refine ok_c (j := 14) rfl (ok_aload_n (j := ⟨0, by decide⟩) (pc := 25) rfl rfl (by decide +kernel)) ?_
  refine ok_c (j := 15) rfl (ok_iload_n (j := ⟨1, by decide⟩) (pc := 26) rfl rfl (by decide +kernel)) ?_
  refine ok_c (j := 16) rfl (ok_virtual (y := yX12_agrees) (n := 1) (d' := 1) (t := 20) (T := TX12) (N := 45) (ix := 214) is_ci (pc := 27) rfl rfl (by decide +kernel) (by decide) (ct_X12_agrees l) rfl (fun _ => rfl) ce_fI_rec wd_1108 wd_1110 wd_46 wd_75) ?_
  refine ok_c (j := 17) rfl (ok_iret (pc := 30) rfl (by decide +kernel) rfl) ?_
  exact trivial
noncomputable def F_X12_agree := ce_fI tb_X12_agree 2 (some 20)
theorem ct_X12_agree (l : Launch) : ce_callee l yX12_agree 1 2 0 0 (ce_wI F_X12_agree) := ⟨_, _, _, ce_ctr_of (pcs := pc_X12_agree) (by decide +kernel) rfl (ok_X12_agree l ) ce_fI_run, ce_tw_at wd_1107 rfl, by decide, by decide +kernel, by decide +kernel, by decide +kernel⟩
def pc_X12_image : List Nat := [0, 1, 2, 5, 6, 7, 10, 11, 12, 15, 18, 19, 20, 23, 26, 27, 28, 31, 34, 35, 36, 39, 42, 43, 44, 47, 50, 51, 52, 55]
noncomputable def tb_X12_image : List ce_Op := [o_aload 0, o_int 1, o_putZ 20 33, o_aload 0, o_int 0, o_cv 2 F_X12_keeps 0 0 0 0, o_aload 0, o_aload 0, o_getI 20 7, o_putI 20 28, o_aload 0, o_aload 0, o_getI 20 8, o_putI 20 29, o_aload 0, o_aload 0, o_getI 20 9, o_putI 20 30, o_aload 0, o_aload 0, o_getI 20 10, o_putI 20 31, o_aload 0, o_aload 0, o_getI 20 11, o_putI 20 32, o_aload 0, o_int 0, o_ci 2 F_X12_standing 0 0 0 0, o_iret]
theorem tl_X12_image : ce_TL tb_X12_image := by
  unfold tb_X12_image
  refine tl_c ta_aload ?_
  refine tl_c ta_int ?_
  refine tl_c ta_putZ ?_
  refine tl_c ta_aload ?_
  refine tl_c ta_int ?_
  refine tl_c ta_cv ?_
  refine tl_c ta_aload ?_
  refine tl_c ta_aload ?_
  refine tl_c ta_getI ?_
  refine tl_c ta_putI ?_
  refine tl_c ta_aload ?_
  refine tl_c ta_aload ?_
  refine tl_c ta_getI ?_
  refine tl_c ta_putI ?_
  refine tl_c ta_aload ?_
  refine tl_c ta_aload ?_
  refine tl_c ta_getI ?_
  refine tl_c ta_putI ?_
  refine tl_c ta_aload ?_
  refine tl_c ta_aload ?_
  refine tl_c ta_getI ?_
  refine tl_c ta_putI ?_
  refine tl_c ta_aload ?_
  refine tl_c ta_aload ?_
  refine tl_c ta_getI ?_
  refine tl_c ta_putI ?_
  refine tl_c ta_aload ?_
  refine tl_c ta_int ?_
  refine tl_c ta_ci ?_
  refine tl_c ta_iret ?_
  exact trivial
set_option maxRecDepth 20000 in
theorem ok_X12_image (l : Launch) : ce_OkL l cX12_image RX12 1 (some .int) 2 0 0 pc_X12_image 0 tb_X12_image := by
  unfold tb_X12_image
  refine ok_c (j := 1) rfl (ok_aload_n (j := ⟨0, by decide⟩) (pc := 0) rfl rfl (by decide +kernel)) ?_
  refine ok_c (j := 2) rfl (ok_iconst (n := 1) (pc := 1) rfl rfl (by decide +kernel) (by decide)) ?_
  refine ok_c (j := 3) rfl (ok_putZ (ci := 12) (C := RX12) (T := TX12) (N := 45) (ty := tyX12) (ix := 217) (pc := 2) rfl rfl (by decide +kernel) rfl (fun _ => rfl) rfl cw_X12 tyX12_ok nmX12 (by decide) rfl rfl rfl wd_857) ?_
  refine ok_c (j := 4) rfl (ok_aload_n (j := ⟨0, by decide⟩) (pc := 5) rfl rfl (by decide +kernel)) ?_
  refine ok_c (j := 5) rfl (ok_iconst (n := 0) (pc := 6) rfl rfl (by decide +kernel) (by decide)) ?_
  refine ok_c (j := 6) rfl (ok_virtual (y := yX12_keeps) (n := 1) (d' := 1) (t := 20) (T := TX12) (N := 45) (ix := 221) is_cv (pc := 7) rfl rfl (by decide +kernel) (by decide) (ct_X12_keeps l) rfl (fun _ => rfl) ce_fV_rec wd_1116 wd_1118 wd_47 wd_75) ?_
  refine ok_c (j := 7) rfl (ok_aload_n (j := ⟨0, by decide⟩) (pc := 10) rfl rfl (by decide +kernel)) ?_
  refine ok_c (j := 8) rfl (ok_aload_n (j := ⟨0, by decide⟩) (pc := 11) rfl rfl (by decide +kernel)) ?_
  refine ok_c (j := 9) rfl (ok_getI (ci := 12) (C := RX12) (T := TX12) (N := 45) (ix := 82) (pc := 12) rfl rfl (by decide +kernel) rfl (fun _ => rfl) rfl cw_X12 (by decide) rfl wd_831) ?_
  refine ok_c (j := 10) rfl (ok_putI (ci := 12) (C := RX12) (T := TX12) (N := 45) (ty := tyX12) (ix := 224) (pc := 15) rfl rfl (by decide +kernel) rfl (fun _ => rfl) rfl cw_X12 tyX12_ok nmX12 (by decide) rfl rfl rfl wd_852) ?_
  refine ok_c (j := 11) rfl (ok_aload_n (j := ⟨0, by decide⟩) (pc := 18) rfl rfl (by decide +kernel)) ?_
  refine ok_c (j := 12) rfl (ok_aload_n (j := ⟨0, by decide⟩) (pc := 19) rfl rfl (by decide +kernel)) ?_
  refine ok_c (j := 13) rfl (ok_getI (ci := 12) (C := RX12) (T := TX12) (N := 45) (ix := 31) (pc := 20) rfl rfl (by decide +kernel) rfl (fun _ => rfl) rfl cw_X12 (by decide) rfl wd_832) ?_
  refine ok_c (j := 14) rfl (ok_putI (ci := 12) (C := RX12) (T := TX12) (N := 45) (ty := tyX12) (ix := 227) (pc := 23) rfl rfl (by decide +kernel) rfl (fun _ => rfl) rfl cw_X12 tyX12_ok nmX12 (by decide) rfl rfl rfl wd_853) ?_
  refine ok_c (j := 15) rfl (ok_aload_n (j := ⟨0, by decide⟩) (pc := 26) rfl rfl (by decide +kernel)) ?_
  refine ok_c (j := 16) rfl (ok_aload_n (j := ⟨0, by decide⟩) (pc := 27) rfl rfl (by decide +kernel)) ?_
  refine ok_c (j := 17) rfl (ok_getI (ci := 12) (C := RX12) (T := TX12) (N := 45) (ix := 35) (pc := 28) rfl rfl (by decide +kernel) rfl (fun _ => rfl) rfl cw_X12 (by decide) rfl wd_833) ?_
  refine ok_c (j := 18) rfl (ok_putI (ci := 12) (C := RX12) (T := TX12) (N := 45) (ty := tyX12) (ix := 230) (pc := 31) rfl rfl (by decide +kernel) rfl (fun _ => rfl) rfl cw_X12 tyX12_ok nmX12 (by decide) rfl rfl rfl wd_854) ?_
  refine ok_c (j := 19) rfl (ok_aload_n (j := ⟨0, by decide⟩) (pc := 34) rfl rfl (by decide +kernel)) ?_
  refine ok_c (j := 20) rfl (ok_aload_n (j := ⟨0, by decide⟩) (pc := 35) rfl rfl (by decide +kernel)) ?_
  refine ok_c (j := 21) rfl (ok_getI (ci := 12) (C := RX12) (T := TX12) (N := 45) (ix := 38) (pc := 36) rfl rfl (by decide +kernel) rfl (fun _ => rfl) rfl cw_X12 (by decide) rfl wd_834) ?_
  refine ok_c (j := 22) rfl (ok_putI (ci := 12) (C := RX12) (T := TX12) (N := 45) (ty := tyX12) (ix := 233) (pc := 39) rfl rfl (by decide +kernel) rfl (fun _ => rfl) rfl cw_X12 tyX12_ok nmX12 (by decide) rfl rfl rfl wd_855) ?_
  refine ok_c (j := 23) rfl (ok_aload_n (j := ⟨0, by decide⟩) (pc := 42) rfl rfl (by decide +kernel)) ?_
  refine ok_c (j := 24) rfl (ok_aload_n (j := ⟨0, by decide⟩) (pc := 43) rfl rfl (by decide +kernel)) ?_
  refine ok_c (j := 25) rfl (ok_getI (ci := 12) (C := RX12) (T := TX12) (N := 45) (ix := 165) (pc := 44) rfl rfl (by decide +kernel) rfl (fun _ => rfl) rfl cw_X12 (by decide) rfl wd_835) ?_
  refine ok_c (j := 26) rfl (ok_putI (ci := 12) (C := RX12) (T := TX12) (N := 45) (ty := tyX12) (ix := 236) (pc := 47) rfl rfl (by decide +kernel) rfl (fun _ => rfl) rfl cw_X12 tyX12_ok nmX12 (by decide) rfl rfl rfl wd_856) ?_
  refine ok_c (j := 27) rfl (ok_aload_n (j := ⟨0, by decide⟩) (pc := 50) rfl rfl (by decide +kernel)) ?_
  refine ok_c (j := 28) rfl (ok_iconst (n := 0) (pc := 51) rfl rfl (by decide +kernel) (by decide)) ?_
  refine ok_c (j := 29) rfl (ok_virtual (y := yX12_standing) (n := 1) (d' := 1) (t := 20) (T := TX12) (N := 45) (ix := 239) is_ci (pc := 52) rfl rfl (by decide +kernel) (by decide) (ct_X12_standing l) rfl (fun _ => rfl) ce_fI_rec wd_1120 wd_1122 wd_48 wd_75) ?_
  refine ok_c (j := 30) rfl (ok_iret (pc := 55) rfl (by decide +kernel) rfl) ?_
  exact trivial
noncomputable def F_X12_image := ce_fI tb_X12_image 1 (some 20)
theorem ct_X12_image (l : Launch) : ce_callee l yX12_image 0 2 0 0 (ce_wI F_X12_image) := ⟨_, _, _, ce_ctr_of (pcs := pc_X12_image) (by decide +kernel) rfl (ok_X12_image l ) ce_fI_run, ce_tw_at wd_1115 rfl, by decide, by decide +kernel, by decide +kernel, by decide +kernel⟩
def pc_X12_back : List Nat := [0, 1, 4, 7, 9, 10, 11, 12, 13, 16, 19, 20, 21, 24, 27, 28, 29, 32, 35, 36, 37, 40, 43, 44, 45, 48, 51, 52, 53, 56]
noncomputable def tb_X12_back : List ce_Op := [o_aload 0, o_getI 20 33, o_ifne 5, o_int (-3), o_iret, o_aload 0, o_int 0, o_aload 0, o_getI 20 28, o_cv 3 F_X12_putsBack 0 0 0 0, o_aload 0, o_aload 0, o_getI 20 29, o_putI 20 8, o_aload 0, o_aload 0, o_getI 20 30, o_putI 20 9, o_aload 0, o_aload 0, o_getI 20 31, o_putI 20 10, o_aload 0, o_aload 0, o_getI 20 32, o_putI 20 11, o_aload 0, o_int 0, o_ci 2 F_X12_standing 0 0 0 0, o_iret]
theorem tl_X12_back : ce_TL tb_X12_back := by
  unfold tb_X12_back
  refine tl_c ta_aload ?_
  refine tl_c ta_getI ?_
  refine tl_c ta_ifne ?_
  refine tl_c ta_int ?_
  refine tl_c ta_iret ?_
  refine tl_c ta_aload ?_
  refine tl_c ta_int ?_
  refine tl_c ta_aload ?_
  refine tl_c ta_getI ?_
  refine tl_c ta_cv ?_
  refine tl_c ta_aload ?_
  refine tl_c ta_aload ?_
  refine tl_c ta_getI ?_
  refine tl_c ta_putI ?_
  refine tl_c ta_aload ?_
  refine tl_c ta_aload ?_
  refine tl_c ta_getI ?_
  refine tl_c ta_putI ?_
  refine tl_c ta_aload ?_
  refine tl_c ta_aload ?_
  refine tl_c ta_getI ?_
  refine tl_c ta_putI ?_
  refine tl_c ta_aload ?_
  refine tl_c ta_aload ?_
  refine tl_c ta_getI ?_
  refine tl_c ta_putI ?_
  refine tl_c ta_aload ?_
  refine tl_c ta_int ?_
  refine tl_c ta_ci ?_
  refine tl_c ta_iret ?_
  exact trivial
set_option maxRecDepth 20000 in
theorem ok_X12_back (l : Launch) : ce_OkL l cX12_back RX12 1 (some .int) 2 0 0 pc_X12_back 0 tb_X12_back := by
  unfold tb_X12_back
  refine ok_c (j := 1) rfl (ok_aload_n (j := ⟨0, by decide⟩) (pc := 0) rfl rfl (by decide +kernel)) ?_
  refine ok_c (j := 2) rfl (ok_getI (ci := 12) (C := RX12) (T := TX12) (N := 45) (ix := 217) (pc := 1) rfl rfl (by decide +kernel) rfl (fun _ => rfl) rfl cw_X12 (by decide) rfl wd_857) ?_
  refine ok_c (j := 3) rfl (ok_ifne (off := 6) (tg := 10) (pc := 4) rfl rfl (by decide +kernel) rfl (by decide)) ?_
  refine ok_c (j := 4) rfl (ok_bipush (n := (-3)) (pc := 7) rfl rfl (by decide +kernel) (by decide)) ?_
  refine ok_c (j := 5) rfl (ok_iret (pc := 9) rfl (by decide +kernel) rfl) ?_
  refine ok_c (j := 6) rfl (ok_aload_n (j := ⟨0, by decide⟩) (pc := 10) rfl rfl (by decide +kernel)) ?_
  refine ok_c (j := 7) rfl (ok_iconst (n := 0) (pc := 11) rfl rfl (by decide +kernel) (by decide)) ?_
  refine ok_c (j := 8) rfl (ok_aload_n (j := ⟨0, by decide⟩) (pc := 12) rfl rfl (by decide +kernel)) ?_
  refine ok_c (j := 9) rfl (ok_getI (ci := 12) (C := RX12) (T := TX12) (N := 45) (ix := 224) (pc := 13) rfl rfl (by decide +kernel) rfl (fun _ => rfl) rfl cw_X12 (by decide) rfl wd_852) ?_
  refine ok_c (j := 10) rfl (ok_virtual (y := yX12_putsBack) (n := 2) (d' := 1) (t := 20) (T := TX12) (N := 45) (ix := 242) is_cv (pc := 16) rfl rfl (by decide +kernel) (by decide) (ct_X12_putsBack l) rfl (fun _ => rfl) ce_fV_rec wd_1128 wd_1130 wd_49 wd_75) ?_
  refine ok_c (j := 11) rfl (ok_aload_n (j := ⟨0, by decide⟩) (pc := 19) rfl rfl (by decide +kernel)) ?_
  refine ok_c (j := 12) rfl (ok_aload_n (j := ⟨0, by decide⟩) (pc := 20) rfl rfl (by decide +kernel)) ?_
  refine ok_c (j := 13) rfl (ok_getI (ci := 12) (C := RX12) (T := TX12) (N := 45) (ix := 227) (pc := 21) rfl rfl (by decide +kernel) rfl (fun _ => rfl) rfl cw_X12 (by decide) rfl wd_853) ?_
  refine ok_c (j := 14) rfl (ok_putI (ci := 12) (C := RX12) (T := TX12) (N := 45) (ty := tyX12) (ix := 31) (pc := 24) rfl rfl (by decide +kernel) rfl (fun _ => rfl) rfl cw_X12 tyX12_ok nmX12 (by decide) rfl rfl rfl wd_832) ?_
  refine ok_c (j := 15) rfl (ok_aload_n (j := ⟨0, by decide⟩) (pc := 27) rfl rfl (by decide +kernel)) ?_
  refine ok_c (j := 16) rfl (ok_aload_n (j := ⟨0, by decide⟩) (pc := 28) rfl rfl (by decide +kernel)) ?_
  refine ok_c (j := 17) rfl (ok_getI (ci := 12) (C := RX12) (T := TX12) (N := 45) (ix := 230) (pc := 29) rfl rfl (by decide +kernel) rfl (fun _ => rfl) rfl cw_X12 (by decide) rfl wd_854) ?_
  refine ok_c (j := 18) rfl (ok_putI (ci := 12) (C := RX12) (T := TX12) (N := 45) (ty := tyX12) (ix := 35) (pc := 32) rfl rfl (by decide +kernel) rfl (fun _ => rfl) rfl cw_X12 tyX12_ok nmX12 (by decide) rfl rfl rfl wd_833) ?_
  refine ok_c (j := 19) rfl (ok_aload_n (j := ⟨0, by decide⟩) (pc := 35) rfl rfl (by decide +kernel)) ?_
  refine ok_c (j := 20) rfl (ok_aload_n (j := ⟨0, by decide⟩) (pc := 36) rfl rfl (by decide +kernel)) ?_
  refine ok_c (j := 21) rfl (ok_getI (ci := 12) (C := RX12) (T := TX12) (N := 45) (ix := 233) (pc := 37) rfl rfl (by decide +kernel) rfl (fun _ => rfl) rfl cw_X12 (by decide) rfl wd_855) ?_
  refine ok_c (j := 22) rfl (ok_putI (ci := 12) (C := RX12) (T := TX12) (N := 45) (ty := tyX12) (ix := 38) (pc := 40) rfl rfl (by decide +kernel) rfl (fun _ => rfl) rfl cw_X12 tyX12_ok nmX12 (by decide) rfl rfl rfl wd_834) ?_
  refine ok_c (j := 23) rfl (ok_aload_n (j := ⟨0, by decide⟩) (pc := 43) rfl rfl (by decide +kernel)) ?_
  refine ok_c (j := 24) rfl (ok_aload_n (j := ⟨0, by decide⟩) (pc := 44) rfl rfl (by decide +kernel)) ?_
  refine ok_c (j := 25) rfl (ok_getI (ci := 12) (C := RX12) (T := TX12) (N := 45) (ix := 236) (pc := 45) rfl rfl (by decide +kernel) rfl (fun _ => rfl) rfl cw_X12 (by decide) rfl wd_856) ?_
  refine ok_c (j := 26) rfl (ok_putI (ci := 12) (C := RX12) (T := TX12) (N := 45) (ty := tyX12) (ix := 165) (pc := 48) rfl rfl (by decide +kernel) rfl (fun _ => rfl) rfl cw_X12 tyX12_ok nmX12 (by decide) rfl rfl rfl wd_835) ?_
  refine ok_c (j := 27) rfl (ok_aload_n (j := ⟨0, by decide⟩) (pc := 51) rfl rfl (by decide +kernel)) ?_
  refine ok_c (j := 28) rfl (ok_iconst (n := 0) (pc := 52) rfl rfl (by decide +kernel) (by decide)) ?_
  refine ok_c (j := 29) rfl (ok_virtual (y := yX12_standing) (n := 1) (d' := 1) (t := 20) (T := TX12) (N := 45) (ix := 239) is_ci (pc := 53) rfl rfl (by decide +kernel) (by decide) (ct_X12_standing l) rfl (fun _ => rfl) ce_fI_rec wd_1120 wd_1122 wd_48 wd_75) ?_
  refine ok_c (j := 30) rfl (ok_iret (pc := 56) rfl (by decide +kernel) rfl) ?_
  exact trivial
noncomputable def F_X12_back := ce_fI tb_X12_back 1 (some 20)
theorem ct_X12_back (l : Launch) : ce_callee l yX12_back 0 2 0 0 (ce_wI F_X12_back) := ⟨_, _, _, ce_ctr_of (pcs := pc_X12_back) (by decide +kernel) rfl (ok_X12_back l ) ce_fI_run, ce_tw_at wd_1127 rfl, by decide, by decide +kernel, by decide +kernel, by decide +kernel⟩
def pc_X12_count : List Nat := [0, 1, 52, 53, 56, 57, 58, 59, 62, 63, 64, 65, 68, 69, 70, 73, 74, 75, 78, 79, 80, 83, 84, 85, 88, 89, 90, 93, 94, 95, 98, 99, 101]
noncomputable def tb_X12_count : List ce_Op := [o_iload 1, o_sw [(0, 2), (1, 5), (2, 9), (3, 13), (4, 16), (5, 19), (6, 22), (7, 25), (8, 28)] 31, o_aload 0, o_getI 20 7, o_iret, o_aload 0, o_int 0, o_ci 2 F_X12_standing 0 0 0 0, o_iret, o_aload 0, o_int 1, o_ci 2 F_X12_standing 0 0 0 0, o_iret, o_aload 0, o_getI 20 8, o_iret, o_aload 0, o_getI 20 9, o_iret, o_aload 0, o_getI 20 10, o_iret, o_aload 0, o_getI 20 19, o_iret, o_aload 0, o_getI 20 18, o_iret, o_aload 0, o_getI 20 11, o_iret, o_int (-2), o_iret]
theorem tl_X12_count : ce_TL tb_X12_count := by
  unfold tb_X12_count
  refine tl_c ta_iload ?_
  refine tl_c ta_sw ?_
  refine tl_c ta_aload ?_
  refine tl_c ta_getI ?_
  refine tl_c ta_iret ?_
  refine tl_c ta_aload ?_
  refine tl_c ta_int ?_
  refine tl_c ta_ci ?_
  refine tl_c ta_iret ?_
  refine tl_c ta_aload ?_
  refine tl_c ta_int ?_
  refine tl_c ta_ci ?_
  refine tl_c ta_iret ?_
  refine tl_c ta_aload ?_
  refine tl_c ta_getI ?_
  refine tl_c ta_iret ?_
  refine tl_c ta_aload ?_
  refine tl_c ta_getI ?_
  refine tl_c ta_iret ?_
  refine tl_c ta_aload ?_
  refine tl_c ta_getI ?_
  refine tl_c ta_iret ?_
  refine tl_c ta_aload ?_
  refine tl_c ta_getI ?_
  refine tl_c ta_iret ?_
  refine tl_c ta_aload ?_
  refine tl_c ta_getI ?_
  refine tl_c ta_iret ?_
  refine tl_c ta_aload ?_
  refine tl_c ta_getI ?_
  refine tl_c ta_iret ?_
  refine tl_c ta_int ?_
  refine tl_c ta_iret ?_
  exact trivial
set_option maxRecDepth 20000 in
theorem ok_X12_count (l : Launch) : ce_OkL l cX12_count RX12 2 (some .int) 2 0 0 pc_X12_count 0 tb_X12_count := by
  unfold tb_X12_count
  refine ok_c (j := 1) rfl (ok_iload_n (j := ⟨1, by decide⟩) (pc := 0) rfl rfl (by decide +kernel)) ?_
  refine ok_c (j := 2) rfl (ok_sw (lo := 0) (hi := 8) (dflt := 98) (offs := #[51, 56, 62, 68, 73, 78, 83, 88, 93]) (len := 51) (pc := 1) rfl (by decide +kernel) (by decide +kernel) (by decide) (by decide)) ?_
  refine ok_c (j := 3) rfl (ok_aload_n (j := ⟨0, by decide⟩) (pc := 52) rfl rfl (by decide +kernel)) ?_
  refine ok_c (j := 4) rfl (ok_getI (ci := 12) (C := RX12) (T := TX12) (N := 45) (ix := 82) (pc := 53) rfl rfl (by decide +kernel) rfl (fun _ => rfl) rfl cw_X12 (by decide) rfl wd_831) ?_
  refine ok_c (j := 5) rfl (ok_iret (pc := 56) rfl (by decide +kernel) rfl) ?_
  refine ok_c (j := 6) rfl (ok_aload_n (j := ⟨0, by decide⟩) (pc := 57) rfl rfl (by decide +kernel)) ?_
  refine ok_c (j := 7) rfl (ok_iconst (n := 0) (pc := 58) rfl rfl (by decide +kernel) (by decide)) ?_
  refine ok_c (j := 8) rfl (ok_virtual (y := yX12_standing) (n := 1) (d' := 1) (t := 20) (T := TX12) (N := 45) (ix := 239) is_ci (pc := 59) rfl rfl (by decide +kernel) (by decide) (ct_X12_standing l) rfl (fun _ => rfl) ce_fI_rec wd_1120 wd_1122 wd_48 wd_75) ?_
  refine ok_c (j := 9) rfl (ok_iret (pc := 62) rfl (by decide +kernel) rfl) ?_
  refine ok_c (j := 10) rfl (ok_aload_n (j := ⟨0, by decide⟩) (pc := 63) rfl rfl (by decide +kernel)) ?_
  refine ok_c (j := 11) rfl (ok_iconst (n := 1) (pc := 64) rfl rfl (by decide +kernel) (by decide)) ?_
  refine ok_c (j := 12) rfl (ok_virtual (y := yX12_standing) (n := 1) (d' := 1) (t := 20) (T := TX12) (N := 45) (ix := 239) is_ci (pc := 65) rfl rfl (by decide +kernel) (by decide) (ct_X12_standing l) rfl (fun _ => rfl) ce_fI_rec wd_1120 wd_1122 wd_48 wd_75) ?_
  refine ok_c (j := 13) rfl (ok_iret (pc := 68) rfl (by decide +kernel) rfl) ?_
  refine ok_c (j := 14) rfl (ok_aload_n (j := ⟨0, by decide⟩) (pc := 69) rfl rfl (by decide +kernel)) ?_
  refine ok_c (j := 15) rfl (ok_getI (ci := 12) (C := RX12) (T := TX12) (N := 45) (ix := 31) (pc := 70) rfl rfl (by decide +kernel) rfl (fun _ => rfl) rfl cw_X12 (by decide) rfl wd_832) ?_
  refine ok_c (j := 16) rfl (ok_iret (pc := 73) rfl (by decide +kernel) rfl) ?_
  refine ok_c (j := 17) rfl (ok_aload_n (j := ⟨0, by decide⟩) (pc := 74) rfl rfl (by decide +kernel)) ?_
  refine ok_c (j := 18) rfl (ok_getI (ci := 12) (C := RX12) (T := TX12) (N := 45) (ix := 35) (pc := 75) rfl rfl (by decide +kernel) rfl (fun _ => rfl) rfl cw_X12 (by decide) rfl wd_833) ?_
  refine ok_c (j := 19) rfl (ok_iret (pc := 78) rfl (by decide +kernel) rfl) ?_
  refine ok_c (j := 20) rfl (ok_aload_n (j := ⟨0, by decide⟩) (pc := 79) rfl rfl (by decide +kernel)) ?_
  refine ok_c (j := 21) rfl (ok_getI (ci := 12) (C := RX12) (T := TX12) (N := 45) (ix := 38) (pc := 80) rfl rfl (by decide +kernel) rfl (fun _ => rfl) rfl cw_X12 (by decide) rfl wd_834) ?_
  refine ok_c (j := 22) rfl (ok_iret (pc := 83) rfl (by decide +kernel) rfl) ?_
  refine ok_c (j := 23) rfl (ok_aload_n (j := ⟨0, by decide⟩) (pc := 84) rfl rfl (by decide +kernel)) ?_
  refine ok_c (j := 24) rfl (ok_getI (ci := 12) (C := RX12) (T := TX12) (N := 45) (ix := 61) (pc := 85) rfl rfl (by decide +kernel) rfl (fun _ => rfl) rfl cw_X12 (by decide) rfl wd_843) ?_
  refine ok_c (j := 25) rfl (ok_iret (pc := 88) rfl (by decide +kernel) rfl) ?_
  refine ok_c (j := 26) rfl (ok_aload_n (j := ⟨0, by decide⟩) (pc := 89) rfl rfl (by decide +kernel)) ?_
  refine ok_c (j := 27) rfl (ok_getI (ci := 12) (C := RX12) (T := TX12) (N := 45) (ix := 96) (pc := 90) rfl rfl (by decide +kernel) rfl (fun _ => rfl) rfl cw_X12 (by decide) rfl wd_842) ?_
  refine ok_c (j := 28) rfl (ok_iret (pc := 93) rfl (by decide +kernel) rfl) ?_
  refine ok_c (j := 29) rfl (ok_aload_n (j := ⟨0, by decide⟩) (pc := 94) rfl rfl (by decide +kernel)) ?_
  refine ok_c (j := 30) rfl (ok_getI (ci := 12) (C := RX12) (T := TX12) (N := 45) (ix := 165) (pc := 95) rfl rfl (by decide +kernel) rfl (fun _ => rfl) rfl cw_X12 (by decide) rfl wd_835) ?_
  refine ok_c (j := 31) rfl (ok_iret (pc := 98) rfl (by decide +kernel) rfl) ?_
  refine ok_c (j := 32) rfl (ok_bipush (n := (-2)) (pc := 99) rfl rfl (by decide +kernel) (by decide)) ?_
  refine ok_c (j := 33) rfl (ok_iret (pc := 101) rfl (by decide +kernel) rfl) ?_
  exact trivial
noncomputable def F_X12_count := ce_fI tb_X12_count 2 (some 20)
theorem ct_X12_count (l : Launch) : ce_callee l yX12_count 1 2 0 0 (ce_wI F_X12_count) := ⟨_, _, _, ce_ctr_of (pcs := pc_X12_count) (by decide +kernel) rfl (ok_X12_count l ) ce_fI_run, ce_tw_at wd_1210 rfl, by decide, by decide +kernel, by decide +kernel, by decide +kernel⟩
def pc_X12_sheet : List Nat := [0, 1, 4, 7, 8, 9, 10, 13, 16, 18, 19, 20, 23, 24, 26, 29, 31, 32, 33, 36, 37, 40, 42, 43, 44, 47, 48, 49, 50, 51, 54, 55, 56, 59, 60, 63, 64, 65, 66, 68, 70, 71, 74, 75, 76, 79, 80, 83, 85, 86, 87, 89, 90, 91, 92, 95, 98, 99]
noncomputable def tb_X12_sheet : List ce_Op := [o_iload 1, o_ci 1 F_X12_isSheet 0 0 0 0, o_ifeq 8, o_iload 2, o_int (-1), o_int 2, o_ci 3 F_X12_isIn 0 0 0 0, o_ifne 10, o_int (-2), o_iret, o_iload 2, o_iflt 17, o_iload 3, o_int 40, o_cmple 17, o_int (-2), o_iret, o_iload 2, o_iflt 23, o_iload 3, o_ifge 23, o_int (-14), o_iret, o_aload 0, o_getS 20 34 (fun _ => 0), o_iload 1, o_iload 2, o_ist 34, o_aload 0, o_getS 20 35 (fun _ => 0), o_iload 1, o_iload 2, o_ifge 35, o_int 0, o_goto 36, o_iload 3, o_ist 35, o_int 0, o_istore 4, o_iload 4, o_aload 0, o_getS 20 35 (fun _ => 0), o_iload 1, o_ild 35, o_cmpge 56, o_aload 0, o_getS 20 36 (fun _ => 0), o_int 40, o_iload 1, o_bin q_mul, o_iload 4, o_bin q_add, o_int 0, o_ist 36, o_iinc 4 1, o_goto 39, o_int 1, o_iret]
theorem tl_X12_sheet : ce_TL tb_X12_sheet := by
  unfold tb_X12_sheet
  refine tl_c ta_iload ?_
  refine tl_c ta_ci ?_
  refine tl_c ta_ifeq ?_
  refine tl_c ta_iload ?_
  refine tl_c ta_int ?_
  refine tl_c ta_int ?_
  refine tl_c ta_ci ?_
  refine tl_c ta_ifne ?_
  refine tl_c ta_int ?_
  refine tl_c ta_iret ?_
  refine tl_c ta_iload ?_
  refine tl_c ta_iflt ?_
  refine tl_c ta_iload ?_
  refine tl_c ta_int ?_
  refine tl_c ta_cmple ?_
  refine tl_c ta_int ?_
  refine tl_c ta_iret ?_
  refine tl_c ta_iload ?_
  refine tl_c ta_iflt ?_
  refine tl_c ta_iload ?_
  refine tl_c ta_ifge ?_
  refine tl_c ta_int ?_
  refine tl_c ta_iret ?_
  refine tl_c ta_aload ?_
  refine tl_c ta_getS ?_
  refine tl_c ta_iload ?_
  refine tl_c ta_iload ?_
  refine tl_c ta_ist ?_
  refine tl_c ta_aload ?_
  refine tl_c ta_getS ?_
  refine tl_c ta_iload ?_
  refine tl_c ta_iload ?_
  refine tl_c ta_ifge ?_
  refine tl_c ta_int ?_
  refine tl_c ta_goto ?_
  refine tl_c ta_iload ?_
  refine tl_c ta_ist ?_
  refine tl_c ta_int ?_
  refine tl_c ta_istore ?_
  refine tl_c ta_iload ?_
  refine tl_c ta_aload ?_
  refine tl_c ta_getS ?_
  refine tl_c ta_iload ?_
  refine tl_c ta_ild ?_
  refine tl_c ta_cmpge ?_
  refine tl_c ta_aload ?_
  refine tl_c ta_getS ?_
  refine tl_c ta_int ?_
  refine tl_c ta_iload ?_
  refine tl_c ta_bin ?_
  refine tl_c ta_iload ?_
  refine tl_c ta_bin ?_
  refine tl_c ta_int ?_
  refine tl_c ta_ist ?_
  refine tl_c ta_iinc ?_
  refine tl_c ta_goto ?_
  refine tl_c ta_int ?_
  refine tl_c ta_iret ?_
  exact trivial
set_option maxRecDepth 20000 in
theorem ok_X12_sheet (l : Launch) : ce_OkL l cX12_sheet RX12 5 (some .int) 2 0 0 pc_X12_sheet 0 tb_X12_sheet := by
  unfold tb_X12_sheet
  refine ok_c (j := 1) rfl (ok_iload_n (j := ⟨1, by decide⟩) (pc := 0) rfl rfl (by decide +kernel)) ?_
  refine ok_c (j := 2) rfl (ok_static (y := yX12_isSheet) (n := 1) (d' := 1) (ix := 269) is_ci (pc := 1) rfl rfl (by decide +kernel) (by decide) rfl (ct_X12_isSheet l) wd_1167 wd_1168 wd_75) ?_
  refine ok_c (j := 3) rfl (ok_ifeq (off := 12) (tg := 16) (pc := 4) rfl rfl (by decide +kernel) rfl (by decide)) ?_
  refine ok_c (j := 4) rfl (ok_iload_n (j := ⟨2, by decide⟩) (pc := 7) rfl rfl (by decide +kernel)) ?_
  refine ok_c (j := 5) rfl (ok_iconst (n := (-1)) (pc := 8) rfl rfl (by decide +kernel) (by decide)) ?_
  refine ok_c (j := 6) rfl (ok_iconst (n := 2) (pc := 9) rfl rfl (by decide +kernel) (by decide)) ?_
  refine ok_c (j := 7) rfl (ok_static (y := yX12_isIn) (n := 3) (d' := 1) (ix := 92) is_ci (pc := 10) rfl rfl (by decide +kernel) (by decide) rfl (ct_X12_isIn l) wd_964 wd_965 wd_75) ?_
  refine ok_c (j := 8) rfl (ok_ifne (off := 6) (tg := 19) (pc := 13) rfl rfl (by decide +kernel) rfl (by decide)) ?_
  refine ok_c (j := 9) rfl (ok_bipush (n := (-2)) (pc := 16) rfl rfl (by decide +kernel) (by decide)) ?_
  refine ok_c (j := 10) rfl (ok_iret (pc := 18) rfl (by decide +kernel) rfl) ?_
  refine ok_c (j := 11) rfl (ok_iload_n (j := ⟨2, by decide⟩) (pc := 19) rfl rfl (by decide +kernel)) ?_
  refine ok_c (j := 12) rfl (ok_iflt (off := 12) (tg := 32) (pc := 20) rfl rfl (by decide +kernel) rfl (by decide)) ?_
  refine ok_c (j := 13) rfl (ok_iload_n (j := ⟨3, by decide⟩) (pc := 23) rfl rfl (by decide +kernel)) ?_
  refine ok_c (j := 14) rfl (ok_bipush (n := 40) (pc := 24) rfl rfl (by decide +kernel) (by decide)) ?_
  refine ok_c (j := 15) rfl (ok_cmple (off := 6) (tg := 32) (pc := 26) rfl rfl (by decide +kernel) rfl (by decide)) ?_
  refine ok_c (j := 16) rfl (ok_bipush (n := (-2)) (pc := 29) rfl rfl (by decide +kernel) (by decide)) ?_
  refine ok_c (j := 17) rfl (ok_iret (pc := 31) rfl (by decide +kernel) rfl) ?_
  refine ok_c (j := 18) rfl (ok_iload_n (j := ⟨2, by decide⟩) (pc := 32) rfl rfl (by decide +kernel)) ?_
  refine ok_c (j := 19) rfl (ok_iflt (off := 10) (tg := 43) (pc := 33) rfl rfl (by decide +kernel) rfl (by decide)) ?_
  refine ok_c (j := 20) rfl (ok_iload_n (j := ⟨3, by decide⟩) (pc := 36) rfl rfl (by decide +kernel)) ?_
  refine ok_c (j := 21) rfl (ok_ifge (off := 6) (tg := 43) (pc := 37) rfl rfl (by decide +kernel) rfl (by decide)) ?_
  refine ok_c (j := 22) rfl (ok_bipush (n := (-14)) (pc := 40) rfl rfl (by decide +kernel) (by decide)) ?_
  refine ok_c (j := 23) rfl (ok_iret (pc := 42) rfl (by decide +kernel) rfl) ?_
  refine ok_c (j := 24) rfl (ok_aload_n (j := ⟨0, by decide⟩) (pc := 43) rfl rfl (by decide +kernel)) ?_
  refine ok_c (j := 25) rfl (ok_getS (f := 41) (ci := 12) (C := RX12) (T := TX12) (N := 45) (ix := 67) (pc := 44) rfl rfl (by decide +kernel) rfl (fun _ => rfl) rfl cw_X12 (by decide) rfl wd_865) ?_
  refine ok_c (j := 26) rfl (ok_iload_n (j := ⟨1, by decide⟩) (pc := 47) rfl rfl (by decide +kernel)) ?_
  refine ok_c (j := 27) rfl (ok_iload_n (j := ⟨2, by decide⟩) (pc := 48) rfl rfl (by decide +kernel)) ?_
  refine ok_c (j := 28) rfl (ok_ist (pc := 49) rfl rfl (by decide +kernel) rfl) ?_
  refine ok_c (j := 29) rfl (ok_aload_n (j := ⟨0, by decide⟩) (pc := 50) rfl rfl (by decide +kernel)) ?_
  refine ok_c (j := 30) rfl (ok_getS (f := 42) (ci := 12) (C := RX12) (T := TX12) (N := 45) (ix := 70) (pc := 51) rfl rfl (by decide +kernel) rfl (fun _ => rfl) rfl cw_X12 (by decide) rfl wd_866) ?_
  refine ok_c (j := 31) rfl (ok_iload_n (j := ⟨1, by decide⟩) (pc := 54) rfl rfl (by decide +kernel)) ?_
  refine ok_c (j := 32) rfl (ok_iload_n (j := ⟨2, by decide⟩) (pc := 55) rfl rfl (by decide +kernel)) ?_
  refine ok_c (j := 33) rfl (ok_ifge (off := 7) (tg := 63) (pc := 56) rfl rfl (by decide +kernel) rfl (by decide)) ?_
  refine ok_c (j := 34) rfl (ok_iconst (n := 0) (pc := 59) rfl rfl (by decide +kernel) (by decide)) ?_
  refine ok_c (j := 35) rfl (ok_goto (off := 4) (tg := 64) (pc := 60) rfl (by decide +kernel) rfl (by decide)) ?_
  refine ok_c (j := 36) rfl (ok_iload_n (j := ⟨3, by decide⟩) (pc := 63) rfl rfl (by decide +kernel)) ?_
  refine ok_c (j := 37) rfl (ok_ist (pc := 64) rfl rfl (by decide +kernel) rfl) ?_
  refine ok_c (j := 38) rfl (ok_iconst (n := 0) (pc := 65) rfl rfl (by decide +kernel) (by decide)) ?_
  refine ok_c (j := 39) rfl (ok_istore (j := 4) (pc := 66) rfl rfl (by decide +kernel) (by decide)) ?_
  refine ok_c (j := 40) rfl (ok_iload (j := 4) (pc := 68) rfl rfl (by decide +kernel)) ?_
  refine ok_c (j := 41) rfl (ok_aload_n (j := ⟨0, by decide⟩) (pc := 70) rfl rfl (by decide +kernel)) ?_
  refine ok_c (j := 42) rfl (ok_getS (f := 42) (ci := 12) (C := RX12) (T := TX12) (N := 45) (ix := 70) (pc := 71) rfl rfl (by decide +kernel) rfl (fun _ => rfl) rfl cw_X12 (by decide) rfl wd_866) ?_
  refine ok_c (j := 43) rfl (ok_iload_n (j := ⟨1, by decide⟩) (pc := 74) rfl rfl (by decide +kernel)) ?_
  refine ok_c (j := 44) rfl (ok_ild (pc := 75) rfl rfl (by decide +kernel) rfl) ?_
  refine ok_c (j := 45) rfl (ok_cmpge (off := 22) (tg := 98) (pc := 76) rfl rfl (by decide +kernel) rfl (by decide)) ?_
  refine ok_c (j := 46) rfl (ok_aload_n (j := ⟨0, by decide⟩) (pc := 79) rfl rfl (by decide +kernel)) ?_
  refine ok_c (j := 47) rfl (ok_getS (f := 43) (ci := 12) (C := RX12) (T := TX12) (N := 45) (ix := 73) (pc := 80) rfl rfl (by decide +kernel) rfl (fun _ => rfl) rfl cw_X12 (by decide) rfl wd_867) ?_
  refine ok_c (j := 48) rfl (ok_bipush (n := 40) (pc := 83) rfl rfl (by decide +kernel) (by decide)) ?_
  refine ok_c (j := 49) rfl (ok_iload_n (j := ⟨1, by decide⟩) (pc := 85) rfl rfl (by decide +kernel)) ?_
  refine ok_c (j := 50) rfl (ok_imul (pc := 86) rfl rfl (by decide +kernel)) ?_
  refine ok_c (j := 51) rfl (ok_iload (j := 4) (pc := 87) rfl rfl (by decide +kernel)) ?_
  refine ok_c (j := 52) rfl (ok_iadd (pc := 89) rfl rfl (by decide +kernel)) ?_
  refine ok_c (j := 53) rfl (ok_iconst (n := 0) (pc := 90) rfl rfl (by decide +kernel) (by decide)) ?_
  refine ok_c (j := 54) rfl (ok_ist (pc := 91) rfl rfl (by decide +kernel) rfl) ?_
  refine ok_c (j := 55) rfl (ok_iinc (n := 1) (pc := 92) rfl rfl (by decide +kernel) (by decide) (by decide)) ?_
  refine ok_c (j := 56) rfl (ok_goto (off := (-27)) (tg := 68) (pc := 95) rfl (by decide +kernel) rfl (by decide)) ?_
  refine ok_c (j := 57) rfl (ok_iconst (n := 1) (pc := 98) rfl rfl (by decide +kernel) (by decide)) ?_
  refine ok_c (j := 58) rfl (ok_iret (pc := 99) rfl (by decide +kernel) rfl) ?_
  exact trivial
noncomputable def F_X12_sheet := ce_fI tb_X12_sheet 5 (some 20)
theorem ct_X12_sheet (l : Launch) : ce_callee l yX12_sheet 3 2 0 0 (ce_wI F_X12_sheet) := ⟨_, _, _, ce_ctr_of (pcs := pc_X12_sheet) (by decide +kernel) rfl (ok_X12_sheet l ) ce_fI_run, ce_tw_at wd_1214 rfl, by decide, by decide +kernel, by decide +kernel, by decide +kernel⟩
def pc_X12_cell : List Nat := [0, 1, 4, 7, 9, 10, 11, 14, 15, 16, 19, 21, 22, 23, 24, 25, 28, 29, 30, 31, 32, 35, 38, 40, 41, 42, 45, 47, 48, 49, 50, 51, 52, 55, 56, 57, 60, 61, 62, 65, 66, 69, 70, 71, 72, 75, 76, 77, 80, 81, 82, 83]
noncomputable def tb_X12_cell : List ce_Op := [o_iload 1, o_ci 1 F_X12_isSheet 0 0 0 0, o_ifne 5, o_int (-2), o_iret, o_aload 0, o_getS 20 34 (fun _ => 0), o_iload 1, o_ild 34, o_ifge 12, o_int (-11), o_iret, o_iload 2, o_int 0, o_aload 0, o_getS 20 35 (fun _ => 0), o_iload 1, o_ild 35, o_int 1, o_bin q_sub, o_ci 3 F_X12_isIn 0 0 0 0, o_ifne 24, o_int (-12), o_iret, o_aload 0, o_getS 20 36 (fun _ => 0), o_int 40, o_iload 1, o_bin q_mul, o_iload 2, o_bin q_add, o_aload 0, o_getS 20 34 (fun _ => 0), o_iload 1, o_ild 34, o_ifne 39, o_iload 3, o_un q_i2b, o_goto 49, o_aload 0, o_getS 20 34 (fun _ => 0), o_iload 1, o_ild 34, o_int 1, o_cmpne 48, o_iload 3, o_un q_i2s, o_goto 49, o_iload 3, o_ist 36, o_int 1, o_iret]
theorem tl_X12_cell : ce_TL tb_X12_cell := by
  unfold tb_X12_cell
  refine tl_c ta_iload ?_
  refine tl_c ta_ci ?_
  refine tl_c ta_ifne ?_
  refine tl_c ta_int ?_
  refine tl_c ta_iret ?_
  refine tl_c ta_aload ?_
  refine tl_c ta_getS ?_
  refine tl_c ta_iload ?_
  refine tl_c ta_ild ?_
  refine tl_c ta_ifge ?_
  refine tl_c ta_int ?_
  refine tl_c ta_iret ?_
  refine tl_c ta_iload ?_
  refine tl_c ta_int ?_
  refine tl_c ta_aload ?_
  refine tl_c ta_getS ?_
  refine tl_c ta_iload ?_
  refine tl_c ta_ild ?_
  refine tl_c ta_int ?_
  refine tl_c ta_bin ?_
  refine tl_c ta_ci ?_
  refine tl_c ta_ifne ?_
  refine tl_c ta_int ?_
  refine tl_c ta_iret ?_
  refine tl_c ta_aload ?_
  refine tl_c ta_getS ?_
  refine tl_c ta_int ?_
  refine tl_c ta_iload ?_
  refine tl_c ta_bin ?_
  refine tl_c ta_iload ?_
  refine tl_c ta_bin ?_
  refine tl_c ta_aload ?_
  refine tl_c ta_getS ?_
  refine tl_c ta_iload ?_
  refine tl_c ta_ild ?_
  refine tl_c ta_ifne ?_
  refine tl_c ta_iload ?_
  refine tl_c ta_un ?_
  refine tl_c ta_goto ?_
  refine tl_c ta_aload ?_
  refine tl_c ta_getS ?_
  refine tl_c ta_iload ?_
  refine tl_c ta_ild ?_
  refine tl_c ta_int ?_
  refine tl_c ta_cmpne ?_
  refine tl_c ta_iload ?_
  refine tl_c ta_un ?_
  refine tl_c ta_goto ?_
  refine tl_c ta_iload ?_
  refine tl_c ta_ist ?_
  refine tl_c ta_int ?_
  refine tl_c ta_iret ?_
  exact trivial
set_option maxRecDepth 20000 in
theorem ok_X12_cell (l : Launch) : ce_OkL l cX12_cell RX12 4 (some .int) 2 0 0 pc_X12_cell 0 tb_X12_cell := by
  unfold tb_X12_cell
  refine ok_c (j := 1) rfl (ok_iload_n (j := ⟨1, by decide⟩) (pc := 0) rfl rfl (by decide +kernel)) ?_
  refine ok_c (j := 2) rfl (ok_static (y := yX12_isSheet) (n := 1) (d' := 1) (ix := 269) is_ci (pc := 1) rfl rfl (by decide +kernel) (by decide) rfl (ct_X12_isSheet l) wd_1167 wd_1168 wd_75) ?_
  refine ok_c (j := 3) rfl (ok_ifne (off := 6) (tg := 10) (pc := 4) rfl rfl (by decide +kernel) rfl (by decide)) ?_
  refine ok_c (j := 4) rfl (ok_bipush (n := (-2)) (pc := 7) rfl rfl (by decide +kernel) (by decide)) ?_
  refine ok_c (j := 5) rfl (ok_iret (pc := 9) rfl (by decide +kernel) rfl) ?_
  refine ok_c (j := 6) rfl (ok_aload_n (j := ⟨0, by decide⟩) (pc := 10) rfl rfl (by decide +kernel)) ?_
  refine ok_c (j := 7) rfl (ok_getS (f := 41) (ci := 12) (C := RX12) (T := TX12) (N := 45) (ix := 67) (pc := 11) rfl rfl (by decide +kernel) rfl (fun _ => rfl) rfl cw_X12 (by decide) rfl wd_865) ?_
  refine ok_c (j := 8) rfl (ok_iload_n (j := ⟨1, by decide⟩) (pc := 14) rfl rfl (by decide +kernel)) ?_
  refine ok_c (j := 9) rfl (ok_ild (pc := 15) rfl rfl (by decide +kernel) rfl) ?_
  refine ok_c (j := 10) rfl (ok_ifge (off := 6) (tg := 22) (pc := 16) rfl rfl (by decide +kernel) rfl (by decide)) ?_
  refine ok_c (j := 11) rfl (ok_bipush (n := (-11)) (pc := 19) rfl rfl (by decide +kernel) (by decide)) ?_
  refine ok_c (j := 12) rfl (ok_iret (pc := 21) rfl (by decide +kernel) rfl) ?_
  refine ok_c (j := 13) rfl (ok_iload_n (j := ⟨2, by decide⟩) (pc := 22) rfl rfl (by decide +kernel)) ?_
  refine ok_c (j := 14) rfl (ok_iconst (n := 0) (pc := 23) rfl rfl (by decide +kernel) (by decide)) ?_
  refine ok_c (j := 15) rfl (ok_aload_n (j := ⟨0, by decide⟩) (pc := 24) rfl rfl (by decide +kernel)) ?_
  refine ok_c (j := 16) rfl (ok_getS (f := 42) (ci := 12) (C := RX12) (T := TX12) (N := 45) (ix := 70) (pc := 25) rfl rfl (by decide +kernel) rfl (fun _ => rfl) rfl cw_X12 (by decide) rfl wd_866) ?_
  refine ok_c (j := 17) rfl (ok_iload_n (j := ⟨1, by decide⟩) (pc := 28) rfl rfl (by decide +kernel)) ?_
  refine ok_c (j := 18) rfl (ok_ild (pc := 29) rfl rfl (by decide +kernel) rfl) ?_
  refine ok_c (j := 19) rfl (ok_iconst (n := 1) (pc := 30) rfl rfl (by decide +kernel) (by decide)) ?_
  refine ok_c (j := 20) rfl (ok_isub (pc := 31) rfl rfl (by decide +kernel)) ?_
  refine ok_c (j := 21) rfl (ok_static (y := yX12_isIn) (n := 3) (d' := 1) (ix := 92) is_ci (pc := 32) rfl rfl (by decide +kernel) (by decide) rfl (ct_X12_isIn l) wd_964 wd_965 wd_75) ?_
  refine ok_c (j := 22) rfl (ok_ifne (off := 6) (tg := 41) (pc := 35) rfl rfl (by decide +kernel) rfl (by decide)) ?_
  refine ok_c (j := 23) rfl (ok_bipush (n := (-12)) (pc := 38) rfl rfl (by decide +kernel) (by decide)) ?_
  refine ok_c (j := 24) rfl (ok_iret (pc := 40) rfl (by decide +kernel) rfl) ?_
  refine ok_c (j := 25) rfl (ok_aload_n (j := ⟨0, by decide⟩) (pc := 41) rfl rfl (by decide +kernel)) ?_
  refine ok_c (j := 26) rfl (ok_getS (f := 43) (ci := 12) (C := RX12) (T := TX12) (N := 45) (ix := 73) (pc := 42) rfl rfl (by decide +kernel) rfl (fun _ => rfl) rfl cw_X12 (by decide) rfl wd_867) ?_
  refine ok_c (j := 27) rfl (ok_bipush (n := 40) (pc := 45) rfl rfl (by decide +kernel) (by decide)) ?_
  refine ok_c (j := 28) rfl (ok_iload_n (j := ⟨1, by decide⟩) (pc := 47) rfl rfl (by decide +kernel)) ?_
  refine ok_c (j := 29) rfl (ok_imul (pc := 48) rfl rfl (by decide +kernel)) ?_
  refine ok_c (j := 30) rfl (ok_iload_n (j := ⟨2, by decide⟩) (pc := 49) rfl rfl (by decide +kernel)) ?_
  refine ok_c (j := 31) rfl (ok_iadd (pc := 50) rfl rfl (by decide +kernel)) ?_
  refine ok_c (j := 32) rfl (ok_aload_n (j := ⟨0, by decide⟩) (pc := 51) rfl rfl (by decide +kernel)) ?_
  refine ok_c (j := 33) rfl (ok_getS (f := 41) (ci := 12) (C := RX12) (T := TX12) (N := 45) (ix := 67) (pc := 52) rfl rfl (by decide +kernel) rfl (fun _ => rfl) rfl cw_X12 (by decide) rfl wd_865) ?_
  refine ok_c (j := 34) rfl (ok_iload_n (j := ⟨1, by decide⟩) (pc := 55) rfl rfl (by decide +kernel)) ?_
  refine ok_c (j := 35) rfl (ok_ild (pc := 56) rfl rfl (by decide +kernel) rfl) ?_
  refine ok_c (j := 36) rfl (ok_ifne (off := 8) (tg := 65) (pc := 57) rfl rfl (by decide +kernel) rfl (by decide)) ?_
  refine ok_c (j := 37) rfl (ok_iload_n (j := ⟨3, by decide⟩) (pc := 60) rfl rfl (by decide +kernel)) ?_
  refine ok_c (j := 38) rfl (ok_i2b (pc := 61) rfl rfl (by decide +kernel)) ?_
  refine ok_c (j := 39) rfl (ok_goto (off := 19) (tg := 81) (pc := 62) rfl (by decide +kernel) rfl (by decide)) ?_
  refine ok_c (j := 40) rfl (ok_aload_n (j := ⟨0, by decide⟩) (pc := 65) rfl rfl (by decide +kernel)) ?_
  refine ok_c (j := 41) rfl (ok_getS (f := 41) (ci := 12) (C := RX12) (T := TX12) (N := 45) (ix := 67) (pc := 66) rfl rfl (by decide +kernel) rfl (fun _ => rfl) rfl cw_X12 (by decide) rfl wd_865) ?_
  refine ok_c (j := 42) rfl (ok_iload_n (j := ⟨1, by decide⟩) (pc := 69) rfl rfl (by decide +kernel)) ?_
  refine ok_c (j := 43) rfl (ok_ild (pc := 70) rfl rfl (by decide +kernel) rfl) ?_
  refine ok_c (j := 44) rfl (ok_iconst (n := 1) (pc := 71) rfl rfl (by decide +kernel) (by decide)) ?_
  refine ok_c (j := 45) rfl (ok_cmpne (off := 8) (tg := 80) (pc := 72) rfl rfl (by decide +kernel) rfl (by decide)) ?_
  refine ok_c (j := 46) rfl (ok_iload_n (j := ⟨3, by decide⟩) (pc := 75) rfl rfl (by decide +kernel)) ?_
  refine ok_c (j := 47) rfl (ok_i2s (pc := 76) rfl rfl (by decide +kernel)) ?_
  refine ok_c (j := 48) rfl (ok_goto (off := 4) (tg := 81) (pc := 77) rfl (by decide +kernel) rfl (by decide)) ?_
  refine ok_c (j := 49) rfl (ok_iload_n (j := ⟨3, by decide⟩) (pc := 80) rfl rfl (by decide +kernel)) ?_
  refine ok_c (j := 50) rfl (ok_ist (pc := 81) rfl rfl (by decide +kernel) rfl) ?_
  refine ok_c (j := 51) rfl (ok_iconst (n := 1) (pc := 82) rfl rfl (by decide +kernel) (by decide)) ?_
  refine ok_c (j := 52) rfl (ok_iret (pc := 83) rfl (by decide +kernel) rfl) ?_
  exact trivial
noncomputable def F_X12_cell := ce_fI tb_X12_cell 4 (some 20)
theorem ct_X12_cell (l : Launch) : ce_callee l yX12_cell 3 2 0 0 (ce_wI F_X12_cell) := ⟨_, _, _, ce_ctr_of (pcs := pc_X12_cell) (by decide +kernel) rfl (ok_X12_cell l ) ce_fI_run, ce_tw_at wd_1218 rfl, by decide, by decide +kernel, by decide +kernel, by decide +kernel⟩
def pc_X12_copy : List Nat := [0, 1, 4, 7, 8, 11, 14, 16, 17, 18, 21, 22, 23, 26, 27, 30, 31, 32, 35, 37, 38, 39, 42, 43, 44, 45, 48, 49, 50, 53, 55, 56, 58, 61, 62, 63, 64, 66, 69, 72, 73, 74, 76, 78, 81, 84, 86, 87, 88, 90, 92, 94, 97, 98, 101, 103, 104, 107, 109, 110, 111, 112, 113, 115, 116, 117, 118, 121, 124, 125, 127, 129, 131, 134, 135, 138, 140, 141, 142, 144, 145, 147, 148, 149, 152, 154, 155, 156, 159, 162, 164]
noncomputable def tb_X12_copy : List ce_Op := [o_iload 1, o_ci 1 F_X12_isSheet 0 0 0 0, o_ifeq 6, o_iload 3, o_ci 1 F_X12_isSheet 0 0 0 0, o_ifne 8, o_int (-2), o_iret, o_aload 0, o_getS 20 34 (fun _ => 0), o_iload 1, o_ild 34, o_iflt 18, o_aload 0, o_getS 20 34 (fun _ => 0), o_iload 3, o_ild 34, o_ifge 20, o_int (-11), o_iret, o_aload 0, o_getS 20 34 (fun _ => 0), o_iload 1, o_ild 34, o_aload 0, o_getS 20 34 (fun _ => 0), o_iload 3, o_ild 34, o_cmpeq 31, o_int (-13), o_iret, o_iload 5, o_iflt 45, o_aload 0, o_iload 1, o_iload 2, o_iload 5, o_ci 4 F_X12_hasCells 0 0 0 0, o_ifeq 45, o_aload 0, o_iload 3, o_iload 4, o_iload 5, o_ci 4 F_X12_hasCells 0 0 0 0, o_ifne 47, o_int (-12), o_iret, o_int 0, o_istore 6, o_iload 6, o_iload 5, o_cmpge 68, o_aload 0, o_getS 20 37 (fun _ => 0), o_iload 6, o_aload 0, o_getS 20 36 (fun _ => 0), o_int 40, o_iload 1, o_bin q_mul, o_iload 2, o_bin q_add, o_iload 6, o_bin q_add, o_ild 36, o_ist 37, o_iinc 6 1, o_goto 49, o_int 0, o_istore 6, o_iload 6, o_iload 5, o_cmpge 89, o_aload 0, o_getS 20 36 (fun _ => 0), o_int 40, o_iload 3, o_bin q_mul, o_iload 4, o_bin q_add, o_iload 6, o_bin q_add, o_aload 0, o_getS 20 37 (fun _ => 0), o_iload 6, o_ild 37, o_ist 36, o_iinc 6 1, o_goto 70, o_iload 5, o_iret]
theorem tl_X12_copy : ce_TL tb_X12_copy := by
  unfold tb_X12_copy
  refine tl_c ta_iload ?_
  refine tl_c ta_ci ?_
  refine tl_c ta_ifeq ?_
  refine tl_c ta_iload ?_
  refine tl_c ta_ci ?_
  refine tl_c ta_ifne ?_
  refine tl_c ta_int ?_
  refine tl_c ta_iret ?_
  refine tl_c ta_aload ?_
  refine tl_c ta_getS ?_
  refine tl_c ta_iload ?_
  refine tl_c ta_ild ?_
  refine tl_c ta_iflt ?_
  refine tl_c ta_aload ?_
  refine tl_c ta_getS ?_
  refine tl_c ta_iload ?_
  refine tl_c ta_ild ?_
  refine tl_c ta_ifge ?_
  refine tl_c ta_int ?_
  refine tl_c ta_iret ?_
  refine tl_c ta_aload ?_
  refine tl_c ta_getS ?_
  refine tl_c ta_iload ?_
  refine tl_c ta_ild ?_
  refine tl_c ta_aload ?_
  refine tl_c ta_getS ?_
  refine tl_c ta_iload ?_
  refine tl_c ta_ild ?_
  refine tl_c ta_cmpeq ?_
  refine tl_c ta_int ?_
  refine tl_c ta_iret ?_
  refine tl_c ta_iload ?_
  refine tl_c ta_iflt ?_
  refine tl_c ta_aload ?_
  refine tl_c ta_iload ?_
  refine tl_c ta_iload ?_
  refine tl_c ta_iload ?_
  refine tl_c ta_ci ?_
  refine tl_c ta_ifeq ?_
  refine tl_c ta_aload ?_
  refine tl_c ta_iload ?_
  refine tl_c ta_iload ?_
  refine tl_c ta_iload ?_
  refine tl_c ta_ci ?_
  refine tl_c ta_ifne ?_
  refine tl_c ta_int ?_
  refine tl_c ta_iret ?_
  refine tl_c ta_int ?_
  refine tl_c ta_istore ?_
  refine tl_c ta_iload ?_
  refine tl_c ta_iload ?_
  refine tl_c ta_cmpge ?_
  refine tl_c ta_aload ?_
  refine tl_c ta_getS ?_
  refine tl_c ta_iload ?_
  refine tl_c ta_aload ?_
  refine tl_c ta_getS ?_
  refine tl_c ta_int ?_
  refine tl_c ta_iload ?_
  refine tl_c ta_bin ?_
  refine tl_c ta_iload ?_
  refine tl_c ta_bin ?_
  refine tl_c ta_iload ?_
  refine tl_c ta_bin ?_
  refine tl_c ta_ild ?_
  refine tl_c ta_ist ?_
  refine tl_c ta_iinc ?_
  refine tl_c ta_goto ?_
  refine tl_c ta_int ?_
  refine tl_c ta_istore ?_
  refine tl_c ta_iload ?_
  refine tl_c ta_iload ?_
  refine tl_c ta_cmpge ?_
  refine tl_c ta_aload ?_
  refine tl_c ta_getS ?_
  refine tl_c ta_int ?_
  refine tl_c ta_iload ?_
  refine tl_c ta_bin ?_
  refine tl_c ta_iload ?_
  refine tl_c ta_bin ?_
  refine tl_c ta_iload ?_
  refine tl_c ta_bin ?_
  refine tl_c ta_aload ?_
  refine tl_c ta_getS ?_
  refine tl_c ta_iload ?_
  refine tl_c ta_ild ?_
  refine tl_c ta_ist ?_
  refine tl_c ta_iinc ?_
  refine tl_c ta_goto ?_
  refine tl_c ta_iload ?_
  refine tl_c ta_iret ?_
  exact trivial
set_option maxRecDepth 20000 in
theorem ok_X12_copy (l : Launch) : ce_OkL l cX12_copy RX12 7 (some .int) 2 0 0 pc_X12_copy 0 tb_X12_copy := by
  unfold tb_X12_copy
  refine ok_c (j := 1) rfl (ok_iload_n (j := ⟨1, by decide⟩) (pc := 0) rfl rfl (by decide +kernel)) ?_
  refine ok_c (j := 2) rfl (ok_static (y := yX12_isSheet) (n := 1) (d' := 1) (ix := 269) is_ci (pc := 1) rfl rfl (by decide +kernel) (by decide) rfl (ct_X12_isSheet l) wd_1167 wd_1168 wd_75) ?_
  refine ok_c (j := 3) rfl (ok_ifeq (off := 10) (tg := 14) (pc := 4) rfl rfl (by decide +kernel) rfl (by decide)) ?_
  refine ok_c (j := 4) rfl (ok_iload_n (j := ⟨3, by decide⟩) (pc := 7) rfl rfl (by decide +kernel)) ?_
  refine ok_c (j := 5) rfl (ok_static (y := yX12_isSheet) (n := 1) (d' := 1) (ix := 269) is_ci (pc := 8) rfl rfl (by decide +kernel) (by decide) rfl (ct_X12_isSheet l) wd_1167 wd_1168 wd_75) ?_
  refine ok_c (j := 6) rfl (ok_ifne (off := 6) (tg := 17) (pc := 11) rfl rfl (by decide +kernel) rfl (by decide)) ?_
  refine ok_c (j := 7) rfl (ok_bipush (n := (-2)) (pc := 14) rfl rfl (by decide +kernel) (by decide)) ?_
  refine ok_c (j := 8) rfl (ok_iret (pc := 16) rfl (by decide +kernel) rfl) ?_
  refine ok_c (j := 9) rfl (ok_aload_n (j := ⟨0, by decide⟩) (pc := 17) rfl rfl (by decide +kernel)) ?_
  refine ok_c (j := 10) rfl (ok_getS (f := 41) (ci := 12) (C := RX12) (T := TX12) (N := 45) (ix := 67) (pc := 18) rfl rfl (by decide +kernel) rfl (fun _ => rfl) rfl cw_X12 (by decide) rfl wd_865) ?_
  refine ok_c (j := 11) rfl (ok_iload_n (j := ⟨1, by decide⟩) (pc := 21) rfl rfl (by decide +kernel)) ?_
  refine ok_c (j := 12) rfl (ok_ild (pc := 22) rfl rfl (by decide +kernel) rfl) ?_
  refine ok_c (j := 13) rfl (ok_iflt (off := 12) (tg := 35) (pc := 23) rfl rfl (by decide +kernel) rfl (by decide)) ?_
  refine ok_c (j := 14) rfl (ok_aload_n (j := ⟨0, by decide⟩) (pc := 26) rfl rfl (by decide +kernel)) ?_
  refine ok_c (j := 15) rfl (ok_getS (f := 41) (ci := 12) (C := RX12) (T := TX12) (N := 45) (ix := 67) (pc := 27) rfl rfl (by decide +kernel) rfl (fun _ => rfl) rfl cw_X12 (by decide) rfl wd_865) ?_
  refine ok_c (j := 16) rfl (ok_iload_n (j := ⟨3, by decide⟩) (pc := 30) rfl rfl (by decide +kernel)) ?_
  refine ok_c (j := 17) rfl (ok_ild (pc := 31) rfl rfl (by decide +kernel) rfl) ?_
  refine ok_c (j := 18) rfl (ok_ifge (off := 6) (tg := 38) (pc := 32) rfl rfl (by decide +kernel) rfl (by decide)) ?_
  refine ok_c (j := 19) rfl (ok_bipush (n := (-11)) (pc := 35) rfl rfl (by decide +kernel) (by decide)) ?_
  refine ok_c (j := 20) rfl (ok_iret (pc := 37) rfl (by decide +kernel) rfl) ?_
  refine ok_c (j := 21) rfl (ok_aload_n (j := ⟨0, by decide⟩) (pc := 38) rfl rfl (by decide +kernel)) ?_
  refine ok_c (j := 22) rfl (ok_getS (f := 41) (ci := 12) (C := RX12) (T := TX12) (N := 45) (ix := 67) (pc := 39) rfl rfl (by decide +kernel) rfl (fun _ => rfl) rfl cw_X12 (by decide) rfl wd_865) ?_
  refine ok_c (j := 23) rfl (ok_iload_n (j := ⟨1, by decide⟩) (pc := 42) rfl rfl (by decide +kernel)) ?_
  refine ok_c (j := 24) rfl (ok_ild (pc := 43) rfl rfl (by decide +kernel) rfl) ?_
  refine ok_c (j := 25) rfl (ok_aload_n (j := ⟨0, by decide⟩) (pc := 44) rfl rfl (by decide +kernel)) ?_
  refine ok_c (j := 26) rfl (ok_getS (f := 41) (ci := 12) (C := RX12) (T := TX12) (N := 45) (ix := 67) (pc := 45) rfl rfl (by decide +kernel) rfl (fun _ => rfl) rfl cw_X12 (by decide) rfl wd_865) ?_
  refine ok_c (j := 27) rfl (ok_iload_n (j := ⟨3, by decide⟩) (pc := 48) rfl rfl (by decide +kernel)) ?_
  refine ok_c (j := 28) rfl (ok_ild (pc := 49) rfl rfl (by decide +kernel) rfl) ?_
  refine ok_c (j := 29) rfl (ok_cmpeq (off := 6) (tg := 56) (pc := 50) rfl rfl (by decide +kernel) rfl (by decide)) ?_
  refine ok_c (j := 30) rfl (ok_bipush (n := (-13)) (pc := 53) rfl rfl (by decide +kernel) (by decide)) ?_
  refine ok_c (j := 31) rfl (ok_iret (pc := 55) rfl (by decide +kernel) rfl) ?_
  refine ok_c (j := 32) rfl (ok_iload (j := 5) (pc := 56) rfl rfl (by decide +kernel)) ?_
  refine ok_c (j := 33) rfl (ok_iflt (off := 26) (tg := 84) (pc := 58) rfl rfl (by decide +kernel) rfl (by decide)) ?_
  refine ok_c (j := 34) rfl (ok_aload_n (j := ⟨0, by decide⟩) (pc := 61) rfl rfl (by decide +kernel)) ?_
  refine ok_c (j := 35) rfl (ok_iload_n (j := ⟨1, by decide⟩) (pc := 62) rfl rfl (by decide +kernel)) ?_
  refine ok_c (j := 36) rfl (ok_iload_n (j := ⟨2, by decide⟩) (pc := 63) rfl rfl (by decide +kernel)) ?_
  refine ok_c (j := 37) rfl (ok_iload (j := 5) (pc := 64) rfl rfl (by decide +kernel)) ?_
  refine ok_c (j := 38) rfl (ok_virtual (y := yX12_hasCells) (n := 3) (d' := 1) (t := 20) (T := TX12) (N := 45) (ix := 297) is_ci (pc := 66) rfl rfl (by decide +kernel) (by decide) (ct_X12_hasCells l) rfl (fun _ => rfl) ce_fI_rec wd_1223 wd_1225 wd_55 wd_75) ?_
  refine ok_c (j := 39) rfl (ok_ifeq (off := 15) (tg := 84) (pc := 69) rfl rfl (by decide +kernel) rfl (by decide)) ?_
  refine ok_c (j := 40) rfl (ok_aload_n (j := ⟨0, by decide⟩) (pc := 72) rfl rfl (by decide +kernel)) ?_
  refine ok_c (j := 41) rfl (ok_iload_n (j := ⟨3, by decide⟩) (pc := 73) rfl rfl (by decide +kernel)) ?_
  refine ok_c (j := 42) rfl (ok_iload (j := 4) (pc := 74) rfl rfl (by decide +kernel)) ?_
  refine ok_c (j := 43) rfl (ok_iload (j := 5) (pc := 76) rfl rfl (by decide +kernel)) ?_
  refine ok_c (j := 44) rfl (ok_virtual (y := yX12_hasCells) (n := 3) (d' := 1) (t := 20) (T := TX12) (N := 45) (ix := 297) is_ci (pc := 78) rfl rfl (by decide +kernel) (by decide) (ct_X12_hasCells l) rfl (fun _ => rfl) ce_fI_rec wd_1223 wd_1225 wd_55 wd_75) ?_
  refine ok_c (j := 45) rfl (ok_ifne (off := 6) (tg := 87) (pc := 81) rfl rfl (by decide +kernel) rfl (by decide)) ?_
  refine ok_c (j := 46) rfl (ok_bipush (n := (-12)) (pc := 84) rfl rfl (by decide +kernel) (by decide)) ?_
  refine ok_c (j := 47) rfl (ok_iret (pc := 86) rfl (by decide +kernel) rfl) ?_
  refine ok_c (j := 48) rfl (ok_iconst (n := 0) (pc := 87) rfl rfl (by decide +kernel) (by decide)) ?_
  refine ok_c (j := 49) rfl (ok_istore (j := 6) (pc := 88) rfl rfl (by decide +kernel) (by decide)) ?_
  refine ok_c (j := 50) rfl (ok_iload (j := 6) (pc := 90) rfl rfl (by decide +kernel)) ?_
  refine ok_c (j := 51) rfl (ok_iload (j := 5) (pc := 92) rfl rfl (by decide +kernel)) ?_
  refine ok_c (j := 52) rfl (ok_cmpge (off := 30) (tg := 124) (pc := 94) rfl rfl (by decide +kernel) rfl (by decide)) ?_
  refine ok_c (j := 53) rfl (ok_aload_n (j := ⟨0, by decide⟩) (pc := 97) rfl rfl (by decide +kernel)) ?_
  refine ok_c (j := 54) rfl (ok_getS (f := 44) (ci := 12) (C := RX12) (T := TX12) (N := 45) (ix := 76) (pc := 98) rfl rfl (by decide +kernel) rfl (fun _ => rfl) rfl cw_X12 (by decide) rfl wd_868) ?_
  refine ok_c (j := 55) rfl (ok_iload (j := 6) (pc := 101) rfl rfl (by decide +kernel)) ?_
  refine ok_c (j := 56) rfl (ok_aload_n (j := ⟨0, by decide⟩) (pc := 103) rfl rfl (by decide +kernel)) ?_
  refine ok_c (j := 57) rfl (ok_getS (f := 43) (ci := 12) (C := RX12) (T := TX12) (N := 45) (ix := 73) (pc := 104) rfl rfl (by decide +kernel) rfl (fun _ => rfl) rfl cw_X12 (by decide) rfl wd_867) ?_
  refine ok_c (j := 58) rfl (ok_bipush (n := 40) (pc := 107) rfl rfl (by decide +kernel) (by decide)) ?_
  refine ok_c (j := 59) rfl (ok_iload_n (j := ⟨1, by decide⟩) (pc := 109) rfl rfl (by decide +kernel)) ?_
  refine ok_c (j := 60) rfl (ok_imul (pc := 110) rfl rfl (by decide +kernel)) ?_
  refine ok_c (j := 61) rfl (ok_iload_n (j := ⟨2, by decide⟩) (pc := 111) rfl rfl (by decide +kernel)) ?_
  refine ok_c (j := 62) rfl (ok_iadd (pc := 112) rfl rfl (by decide +kernel)) ?_
  refine ok_c (j := 63) rfl (ok_iload (j := 6) (pc := 113) rfl rfl (by decide +kernel)) ?_
  refine ok_c (j := 64) rfl (ok_iadd (pc := 115) rfl rfl (by decide +kernel)) ?_
  refine ok_c (j := 65) rfl (ok_ild (pc := 116) rfl rfl (by decide +kernel) rfl) ?_
  refine ok_c (j := 66) rfl (ok_ist (pc := 117) rfl rfl (by decide +kernel) rfl) ?_
  refine ok_c (j := 67) rfl (ok_iinc (n := 1) (pc := 118) rfl rfl (by decide +kernel) (by decide) (by decide)) ?_
  refine ok_c (j := 68) rfl (ok_goto (off := (-31)) (tg := 90) (pc := 121) rfl (by decide +kernel) rfl (by decide)) ?_
  refine ok_c (j := 69) rfl (ok_iconst (n := 0) (pc := 124) rfl rfl (by decide +kernel) (by decide)) ?_
  refine ok_c (j := 70) rfl (ok_istore (j := 6) (pc := 125) rfl rfl (by decide +kernel) (by decide)) ?_
  refine ok_c (j := 71) rfl (ok_iload (j := 6) (pc := 127) rfl rfl (by decide +kernel)) ?_
  refine ok_c (j := 72) rfl (ok_iload (j := 5) (pc := 129) rfl rfl (by decide +kernel)) ?_
  refine ok_c (j := 73) rfl (ok_cmpge (off := 31) (tg := 162) (pc := 131) rfl rfl (by decide +kernel) rfl (by decide)) ?_
  refine ok_c (j := 74) rfl (ok_aload_n (j := ⟨0, by decide⟩) (pc := 134) rfl rfl (by decide +kernel)) ?_
  refine ok_c (j := 75) rfl (ok_getS (f := 43) (ci := 12) (C := RX12) (T := TX12) (N := 45) (ix := 73) (pc := 135) rfl rfl (by decide +kernel) rfl (fun _ => rfl) rfl cw_X12 (by decide) rfl wd_867) ?_
  refine ok_c (j := 76) rfl (ok_bipush (n := 40) (pc := 138) rfl rfl (by decide +kernel) (by decide)) ?_
  refine ok_c (j := 77) rfl (ok_iload_n (j := ⟨3, by decide⟩) (pc := 140) rfl rfl (by decide +kernel)) ?_
  refine ok_c (j := 78) rfl (ok_imul (pc := 141) rfl rfl (by decide +kernel)) ?_
  refine ok_c (j := 79) rfl (ok_iload (j := 4) (pc := 142) rfl rfl (by decide +kernel)) ?_
  refine ok_c (j := 80) rfl (ok_iadd (pc := 144) rfl rfl (by decide +kernel)) ?_
  refine ok_c (j := 81) rfl (ok_iload (j := 6) (pc := 145) rfl rfl (by decide +kernel)) ?_
  refine ok_c (j := 82) rfl (ok_iadd (pc := 147) rfl rfl (by decide +kernel)) ?_
  refine ok_c (j := 83) rfl (ok_aload_n (j := ⟨0, by decide⟩) (pc := 148) rfl rfl (by decide +kernel)) ?_
  refine ok_c (j := 84) rfl (ok_getS (f := 44) (ci := 12) (C := RX12) (T := TX12) (N := 45) (ix := 76) (pc := 149) rfl rfl (by decide +kernel) rfl (fun _ => rfl) rfl cw_X12 (by decide) rfl wd_868) ?_
  refine ok_c (j := 85) rfl (ok_iload (j := 6) (pc := 152) rfl rfl (by decide +kernel)) ?_
  refine ok_c (j := 86) rfl (ok_ild (pc := 154) rfl rfl (by decide +kernel) rfl) ?_
  refine ok_c (j := 87) rfl (ok_ist (pc := 155) rfl rfl (by decide +kernel) rfl) ?_
  refine ok_c (j := 88) rfl (ok_iinc (n := 1) (pc := 156) rfl rfl (by decide +kernel) (by decide) (by decide)) ?_
  refine ok_c (j := 89) rfl (ok_goto (off := (-32)) (tg := 127) (pc := 159) rfl (by decide +kernel) rfl (by decide)) ?_
  refine ok_c (j := 90) rfl (ok_iload (j := 5) (pc := 162) rfl rfl (by decide +kernel)) ?_
  refine ok_c (j := 91) rfl (ok_iret (pc := 164) rfl (by decide +kernel) rfl) ?_
  exact trivial
noncomputable def F_X12_copy := ce_fI tb_X12_copy 7 (some 20)
theorem ct_X12_copy (l : Launch) : ce_callee l yX12_copy 5 2 0 0 (ce_wI F_X12_copy) := ⟨_, _, _, ce_ctr_of (pcs := pc_X12_copy) (by decide +kernel) rfl (ok_X12_copy l ) ce_fI_run, ce_tw_at wd_1222 rfl, by decide, by decide +kernel, by decide +kernel, by decide +kernel⟩
def pc_X12_reads : List Nat := [0, 1, 3, 5, 8, 11, 12, 14, 16, 19, 22, 23, 24, 27, 28, 29, 32, 35, 36, 37, 40, 43, 44, 46, 49, 50, 51, 54, 55, 58, 59, 62, 65, 66, 68, 71, 74, 75, 77, 79, 82, 85, 86, 88, 90, 93, 96, 97, 98, 101, 102, 105, 106, 107, 110, 112, 113, 116, 117, 118, 121, 122, 125, 126, 127, 129, 130, 133, 134, 137, 138, 139, 142, 143, 144, 147, 150, 151, 152, 155, 156, 159, 160, 161, 164, 166, 169, 171, 174, 177, 178, 180, 182, 185, 188, 189, 191, 193, 196, 199, 200, 201, 204, 205, 206, 209, 212, 213, 214, 215, 216, 219, 220, 223, 224, 225, 228, 229, 230, 233, 236, 239, 240, 242, 245, 246, 247, 250, 253, 256, 259, 260, 263, 264, 267, 268, 271, 274, 275, 277, 280, 281, 282, 285, 286, 289, 290, 293, 294, 295, 298, 299, 300, 303]
noncomputable def tb_X12_reads : List ce_Op := [o_aload 0, o_int 32, o_int 32, o_ci 3 F_X12_isAt 0 0 0 0, o_ifne 10, o_aload 0, o_int 10, o_int 10, o_ci 3 F_X12_isAt 0 0 0 0, o_ifeq 17, o_aload 0, o_dup, o_getI 20 20, o_int 1, o_bin q_add, o_putI 20 20, o_goto 0, o_aload 0, o_aload 0, o_getI 20 20, o_putI 20 22, o_aload 0, o_int 104, o_putI 20 21, o_aload 0, o_int 0, o_putI 20 23, o_aload 0, o_getI 20 20, o_aload 0, o_getI 20 18, o_cmpne 36, o_aload 0, o_int 103, o_putI 20 21, o_goto 153, o_aload 0, o_int 48, o_int 57, o_ci 3 F_X12_isAt 0 0 0 0, o_ifeq 89, o_aload 0, o_int 48, o_int 57, o_ci 3 F_X12_isAt 0 0 0 0, o_ifeq 76, o_aload 0, o_aload 0, o_getI 20 20, o_aload 0, o_getI 20 22, o_bin q_sub, o_int 4, o_cmpge 67, o_int 10, o_aload 0, o_getI 20 23, o_bin q_mul, o_aload 0, o_getS 20 28 (fun _ => 0), o_aload 0, o_getI 20 20, o_ild 28, o_bin q_add, o_int 48, o_bin q_sub, o_goto 68, o_int 0, o_putI 20 23, o_aload 0, o_dup, o_getI 20 20, o_int 1, o_bin q_add, o_putI 20 20, o_goto 41, o_aload 0, o_aload 0, o_getI 20 20, o_aload 0, o_getI 20 22, o_bin q_sub, o_int 4, o_cmple 86, o_int 104, o_goto 87, o_int 100, o_putI 20 21, o_goto 153, o_aload 0, o_int 97, o_int 122, o_ci 3 F_X12_isAt 0 0 0 0, o_ifeq 130, o_aload 0, o_int 97, o_int 122, o_ci 3 F_X12_isAt 0 0 0 0, o_ifeq 106, o_aload 0, o_dup, o_getI 20 20, o_int 1, o_bin q_add, o_putI 20 20, o_goto 94, o_int 0, o_istore 1, o_iload 1, o_aload 0, o_getS 20 40 (fun _ => 0), o_alen 40, o_cmpge 129, o_aload 0, o_aload 0, o_getS 20 40 (fun _ => 0), o_iload 1, o_ald 40 41 ce_k0, o_ci 2 F_X12_isWord 0 0 0 0, o_ifne 121, o_goto 127, o_aload 0, o_int 101, o_putI 20 21, o_aload 0, o_iload 1, o_putI 20 23, o_iinc 1 1, o_goto 108, o_goto 153, o_aload 0, o_getS 20 28 (fun _ => 0), o_aload 0, o_getI 20 20, o_ild 28, o_ci 1 F_X12_isSign 0 0 0 0, o_ifeq 153, o_aload 0, o_int 102, o_putI 20 21, o_aload 0, o_aload 0, o_getS 20 28 (fun _ => 0), o_aload 0, o_getI 20 20, o_ild 28, o_putI 20 23, o_aload 0, o_dup, o_getI 20 20, o_int 1, o_bin q_add, o_putI 20 20, o_vret]
theorem tl_X12_reads : ce_TL tb_X12_reads := by
  unfold tb_X12_reads
  refine tl_c ta_aload ?_
  refine tl_c ta_int ?_
  refine tl_c ta_int ?_
  refine tl_c ta_ci ?_
  refine tl_c ta_ifne ?_
  refine tl_c ta_aload ?_
  refine tl_c ta_int ?_
  refine tl_c ta_int ?_
  refine tl_c ta_ci ?_
  refine tl_c ta_ifeq ?_
  refine tl_c ta_aload ?_
  refine tl_c ta_dup ?_
  refine tl_c ta_getI ?_
  refine tl_c ta_int ?_
  refine tl_c ta_bin ?_
  refine tl_c ta_putI ?_
  refine tl_c ta_goto ?_
  refine tl_c ta_aload ?_
  refine tl_c ta_aload ?_
  refine tl_c ta_getI ?_
  refine tl_c ta_putI ?_
  refine tl_c ta_aload ?_
  refine tl_c ta_int ?_
  refine tl_c ta_putI ?_
  refine tl_c ta_aload ?_
  refine tl_c ta_int ?_
  refine tl_c ta_putI ?_
  refine tl_c ta_aload ?_
  refine tl_c ta_getI ?_
  refine tl_c ta_aload ?_
  refine tl_c ta_getI ?_
  refine tl_c ta_cmpne ?_
  refine tl_c ta_aload ?_
  refine tl_c ta_int ?_
  refine tl_c ta_putI ?_
  refine tl_c ta_goto ?_
  refine tl_c ta_aload ?_
  refine tl_c ta_int ?_
  refine tl_c ta_int ?_
  refine tl_c ta_ci ?_
  refine tl_c ta_ifeq ?_
  refine tl_c ta_aload ?_
  refine tl_c ta_int ?_
  refine tl_c ta_int ?_
  refine tl_c ta_ci ?_
  refine tl_c ta_ifeq ?_
  refine tl_c ta_aload ?_
  refine tl_c ta_aload ?_
  refine tl_c ta_getI ?_
  refine tl_c ta_aload ?_
  refine tl_c ta_getI ?_
  refine tl_c ta_bin ?_
  refine tl_c ta_int ?_
  refine tl_c ta_cmpge ?_
  refine tl_c ta_int ?_
  refine tl_c ta_aload ?_
  refine tl_c ta_getI ?_
  refine tl_c ta_bin ?_
  refine tl_c ta_aload ?_
  refine tl_c ta_getS ?_
  refine tl_c ta_aload ?_
  refine tl_c ta_getI ?_
  refine tl_c ta_ild ?_
  refine tl_c ta_bin ?_
  refine tl_c ta_int ?_
  refine tl_c ta_bin ?_
  refine tl_c ta_goto ?_
  refine tl_c ta_int ?_
  refine tl_c ta_putI ?_
  refine tl_c ta_aload ?_
  refine tl_c ta_dup ?_
  refine tl_c ta_getI ?_
  refine tl_c ta_int ?_
  refine tl_c ta_bin ?_
  refine tl_c ta_putI ?_
  refine tl_c ta_goto ?_
  refine tl_c ta_aload ?_
  refine tl_c ta_aload ?_
  refine tl_c ta_getI ?_
  refine tl_c ta_aload ?_
  refine tl_c ta_getI ?_
  refine tl_c ta_bin ?_
  refine tl_c ta_int ?_
  refine tl_c ta_cmple ?_
  refine tl_c ta_int ?_
  refine tl_c ta_goto ?_
  refine tl_c ta_int ?_
  refine tl_c ta_putI ?_
  refine tl_c ta_goto ?_
  refine tl_c ta_aload ?_
  refine tl_c ta_int ?_
  refine tl_c ta_int ?_
  refine tl_c ta_ci ?_
  refine tl_c ta_ifeq ?_
  refine tl_c ta_aload ?_
  refine tl_c ta_int ?_
  refine tl_c ta_int ?_
  refine tl_c ta_ci ?_
  refine tl_c ta_ifeq ?_
  refine tl_c ta_aload ?_
  refine tl_c ta_dup ?_
  refine tl_c ta_getI ?_
  refine tl_c ta_int ?_
  refine tl_c ta_bin ?_
  refine tl_c ta_putI ?_
  refine tl_c ta_goto ?_
  refine tl_c ta_int ?_
  refine tl_c ta_istore ?_
  refine tl_c ta_iload ?_
  refine tl_c ta_aload ?_
  refine tl_c ta_getS ?_
  refine tl_c ta_alen ?_
  refine tl_c ta_cmpge ?_
  refine tl_c ta_aload ?_
  refine tl_c ta_aload ?_
  refine tl_c ta_getS ?_
  refine tl_c ta_iload ?_
  refine tl_c ta_ald ?_
  refine tl_c ta_ci ?_
  refine tl_c ta_ifne ?_
  refine tl_c ta_goto ?_
  refine tl_c ta_aload ?_
  refine tl_c ta_int ?_
  refine tl_c ta_putI ?_
  refine tl_c ta_aload ?_
  refine tl_c ta_iload ?_
  refine tl_c ta_putI ?_
  refine tl_c ta_iinc ?_
  refine tl_c ta_goto ?_
  refine tl_c ta_goto ?_
  refine tl_c ta_aload ?_
  refine tl_c ta_getS ?_
  refine tl_c ta_aload ?_
  refine tl_c ta_getI ?_
  refine tl_c ta_ild ?_
  refine tl_c ta_ci ?_
  refine tl_c ta_ifeq ?_
  refine tl_c ta_aload ?_
  refine tl_c ta_int ?_
  refine tl_c ta_putI ?_
  refine tl_c ta_aload ?_
  refine tl_c ta_aload ?_
  refine tl_c ta_getS ?_
  refine tl_c ta_aload ?_
  refine tl_c ta_getI ?_
  refine tl_c ta_ild ?_
  refine tl_c ta_putI ?_
  refine tl_c ta_aload ?_
  refine tl_c ta_dup ?_
  refine tl_c ta_getI ?_
  refine tl_c ta_int ?_
  refine tl_c ta_bin ?_
  refine tl_c ta_putI ?_
  refine tl_c ta_vret ?_
  exact trivial
set_option maxRecDepth 20000 in
theorem ok_X12_reads (l : Launch) : ce_OkL l cX12_reads RX12 2 none 3 0 0 pc_X12_reads 0 tb_X12_reads := by
  unfold tb_X12_reads
  refine ok_c (j := 1) rfl (ok_aload_n (j := ⟨0, by decide⟩) (pc := 0) rfl rfl (by decide +kernel)) ?_
  refine ok_c (j := 2) rfl (ok_bipush (n := 32) (pc := 1) rfl rfl (by decide +kernel) (by decide)) ?_
  refine ok_c (j := 3) rfl (ok_bipush (n := 32) (pc := 3) rfl rfl (by decide +kernel) (by decide)) ?_
  refine ok_c (j := 4) rfl (ok_virtual (y := yX12_isAt) (n := 2) (d' := 2) (t := 20) (T := TX12) (N := 45) (ix := 105) is_ci (pc := 5) rfl rfl (by decide +kernel) (by decide) (ct_X12_isAt l) rfl (fun _ => rfl) ce_fI_rec wd_975 wd_977 wd_26 wd_75) ?_
  refine ok_c (j := 5) rfl (ok_ifne (off := 14) (tg := 22) (pc := 8) rfl rfl (by decide +kernel) rfl (by decide)) ?_
  refine ok_c (j := 6) rfl (ok_aload_n (j := ⟨0, by decide⟩) (pc := 11) rfl rfl (by decide +kernel)) ?_
  refine ok_c (j := 7) rfl (ok_bipush (n := 10) (pc := 12) rfl rfl (by decide +kernel) (by decide)) ?_
  refine ok_c (j := 8) rfl (ok_bipush (n := 10) (pc := 14) rfl rfl (by decide +kernel) (by decide)) ?_
  refine ok_c (j := 9) rfl (ok_virtual (y := yX12_isAt) (n := 2) (d' := 2) (t := 20) (T := TX12) (N := 45) (ix := 105) is_ci (pc := 16) rfl rfl (by decide +kernel) (by decide) (ct_X12_isAt l) rfl (fun _ => rfl) ce_fI_rec wd_975 wd_977 wd_26 wd_75) ?_
  refine ok_c (j := 10) rfl (ok_ifeq (off := 16) (tg := 35) (pc := 19) rfl rfl (by decide +kernel) rfl (by decide)) ?_
  refine ok_c (j := 11) rfl (ok_aload_n (j := ⟨0, by decide⟩) (pc := 22) rfl rfl (by decide +kernel)) ?_
  refine ok_c (j := 12) rfl (ok_dup (pc := 23) rfl rfl (by decide +kernel)) ?_
  refine ok_c (j := 13) rfl (ok_getI (ci := 12) (C := RX12) (T := TX12) (N := 45) (ix := 99) (pc := 24) rfl rfl (by decide +kernel) rfl (fun _ => rfl) rfl cw_X12 (by decide) rfl wd_844) ?_
  refine ok_c (j := 14) rfl (ok_iconst (n := 1) (pc := 27) rfl rfl (by decide +kernel) (by decide)) ?_
  refine ok_c (j := 15) rfl (ok_iadd (pc := 28) rfl rfl (by decide +kernel)) ?_
  refine ok_c (j := 16) rfl (ok_putI (ci := 12) (C := RX12) (T := TX12) (N := 45) (ty := tyX12) (ix := 99) (pc := 29) rfl rfl (by decide +kernel) rfl (fun _ => rfl) rfl cw_X12 tyX12_ok nmX12 (by decide) rfl rfl rfl wd_844) ?_
  refine ok_c (j := 17) rfl (ok_goto (off := (-32)) (tg := 0) (pc := 32) rfl (by decide +kernel) rfl (by decide)) ?_
  refine ok_c (j := 18) rfl (ok_aload_n (j := ⟨0, by decide⟩) (pc := 35) rfl rfl (by decide +kernel)) ?_
  refine ok_c (j := 19) rfl (ok_aload_n (j := ⟨0, by decide⟩) (pc := 36) rfl rfl (by decide +kernel)) ?_
  refine ok_c (j := 20) rfl (ok_getI (ci := 12) (C := RX12) (T := TX12) (N := 45) (ix := 99) (pc := 37) rfl rfl (by decide +kernel) rfl (fun _ => rfl) rfl cw_X12 (by decide) rfl wd_844) ?_
  refine ok_c (j := 21) rfl (ok_putI (ci := 12) (C := RX12) (T := TX12) (N := 45) (ty := tyX12) (ix := 102) (pc := 40) rfl rfl (by decide +kernel) rfl (fun _ => rfl) rfl cw_X12 tyX12_ok nmX12 (by decide) rfl rfl rfl wd_846) ?_
  refine ok_c (j := 22) rfl (ok_aload_n (j := ⟨0, by decide⟩) (pc := 43) rfl rfl (by decide +kernel)) ?_
  refine ok_c (j := 23) rfl (ok_bipush (n := 104) (pc := 44) rfl rfl (by decide +kernel) (by decide)) ?_
  refine ok_c (j := 24) rfl (ok_putI (ci := 12) (C := RX12) (T := TX12) (N := 45) (ty := tyX12) (ix := 109) (pc := 46) rfl rfl (by decide +kernel) rfl (fun _ => rfl) rfl cw_X12 tyX12_ok nmX12 (by decide) rfl rfl rfl wd_845) ?_
  refine ok_c (j := 25) rfl (ok_aload_n (j := ⟨0, by decide⟩) (pc := 49) rfl rfl (by decide +kernel)) ?_
  refine ok_c (j := 26) rfl (ok_iconst (n := 0) (pc := 50) rfl rfl (by decide +kernel) (by decide)) ?_
  refine ok_c (j := 27) rfl (ok_putI (ci := 12) (C := RX12) (T := TX12) (N := 45) (ty := tyX12) (ix := 112) (pc := 51) rfl rfl (by decide +kernel) rfl (fun _ => rfl) rfl cw_X12 tyX12_ok nmX12 (by decide) rfl rfl rfl wd_847) ?_
  refine ok_c (j := 28) rfl (ok_aload_n (j := ⟨0, by decide⟩) (pc := 54) rfl rfl (by decide +kernel)) ?_
  refine ok_c (j := 29) rfl (ok_getI (ci := 12) (C := RX12) (T := TX12) (N := 45) (ix := 99) (pc := 55) rfl rfl (by decide +kernel) rfl (fun _ => rfl) rfl cw_X12 (by decide) rfl wd_844) ?_
  refine ok_c (j := 30) rfl (ok_aload_n (j := ⟨0, by decide⟩) (pc := 58) rfl rfl (by decide +kernel)) ?_
  refine ok_c (j := 31) rfl (ok_getI (ci := 12) (C := RX12) (T := TX12) (N := 45) (ix := 96) (pc := 59) rfl rfl (by decide +kernel) rfl (fun _ => rfl) rfl cw_X12 (by decide) rfl wd_842) ?_
  refine ok_c (j := 32) rfl (ok_cmpne (off := 12) (tg := 74) (pc := 62) rfl rfl (by decide +kernel) rfl (by decide)) ?_
  refine ok_c (j := 33) rfl (ok_aload_n (j := ⟨0, by decide⟩) (pc := 65) rfl rfl (by decide +kernel)) ?_
  refine ok_c (j := 34) rfl (ok_bipush (n := 103) (pc := 66) rfl rfl (by decide +kernel) (by decide)) ?_
  refine ok_c (j := 35) rfl (ok_putI (ci := 12) (C := RX12) (T := TX12) (N := 45) (ty := tyX12) (ix := 109) (pc := 68) rfl rfl (by decide +kernel) rfl (fun _ => rfl) rfl cw_X12 tyX12_ok nmX12 (by decide) rfl rfl rfl wd_845) ?_
  refine ok_c (j := 36) rfl (ok_goto (off := 232) (tg := 303) (pc := 71) rfl (by decide +kernel) rfl (by decide)) ?_
  refine ok_c (j := 37) rfl (ok_aload_n (j := ⟨0, by decide⟩) (pc := 74) rfl rfl (by decide +kernel)) ?_
  refine ok_c (j := 38) rfl (ok_bipush (n := 48) (pc := 75) rfl rfl (by decide +kernel) (by decide)) ?_
  refine ok_c (j := 39) rfl (ok_bipush (n := 57) (pc := 77) rfl rfl (by decide +kernel) (by decide)) ?_
  refine ok_c (j := 40) rfl (ok_virtual (y := yX12_isAt) (n := 2) (d' := 2) (t := 20) (T := TX12) (N := 45) (ix := 105) is_ci (pc := 79) rfl rfl (by decide +kernel) (by decide) (ct_X12_isAt l) rfl (fun _ => rfl) ce_fI_rec wd_975 wd_977 wd_26 wd_75) ?_
  refine ok_c (j := 41) rfl (ok_ifeq (off := 95) (tg := 177) (pc := 82) rfl rfl (by decide +kernel) rfl (by decide)) ?_
  refine ok_c (j := 42) rfl (ok_aload_n (j := ⟨0, by decide⟩) (pc := 85) rfl rfl (by decide +kernel)) ?_
  refine ok_c (j := 43) rfl (ok_bipush (n := 48) (pc := 86) rfl rfl (by decide +kernel) (by decide)) ?_
  refine ok_c (j := 44) rfl (ok_bipush (n := 57) (pc := 88) rfl rfl (by decide +kernel) (by decide)) ?_
  refine ok_c (j := 45) rfl (ok_virtual (y := yX12_isAt) (n := 2) (d' := 2) (t := 20) (T := TX12) (N := 45) (ix := 105) is_ci (pc := 90) rfl rfl (by decide +kernel) (by decide) (ct_X12_isAt l) rfl (fun _ => rfl) ce_fI_rec wd_975 wd_977 wd_26 wd_75) ?_
  refine ok_c (j := 46) rfl (ok_ifeq (off := 57) (tg := 150) (pc := 93) rfl rfl (by decide +kernel) rfl (by decide)) ?_
  refine ok_c (j := 47) rfl (ok_aload_n (j := ⟨0, by decide⟩) (pc := 96) rfl rfl (by decide +kernel)) ?_
  refine ok_c (j := 48) rfl (ok_aload_n (j := ⟨0, by decide⟩) (pc := 97) rfl rfl (by decide +kernel)) ?_
  refine ok_c (j := 49) rfl (ok_getI (ci := 12) (C := RX12) (T := TX12) (N := 45) (ix := 99) (pc := 98) rfl rfl (by decide +kernel) rfl (fun _ => rfl) rfl cw_X12 (by decide) rfl wd_844) ?_
  refine ok_c (j := 50) rfl (ok_aload_n (j := ⟨0, by decide⟩) (pc := 101) rfl rfl (by decide +kernel)) ?_
  refine ok_c (j := 51) rfl (ok_getI (ci := 12) (C := RX12) (T := TX12) (N := 45) (ix := 102) (pc := 102) rfl rfl (by decide +kernel) rfl (fun _ => rfl) rfl cw_X12 (by decide) rfl wd_846) ?_
  refine ok_c (j := 52) rfl (ok_isub (pc := 105) rfl rfl (by decide +kernel)) ?_
  refine ok_c (j := 53) rfl (ok_iconst (n := 4) (pc := 106) rfl rfl (by decide +kernel) (by decide)) ?_
  refine ok_c (j := 54) rfl (ok_cmpge (off := 26) (tg := 133) (pc := 107) rfl rfl (by decide +kernel) rfl (by decide)) ?_
  refine ok_c (j := 55) rfl (ok_bipush (n := 10) (pc := 110) rfl rfl (by decide +kernel) (by decide)) ?_
  refine ok_c (j := 56) rfl (ok_aload_n (j := ⟨0, by decide⟩) (pc := 112) rfl rfl (by decide +kernel)) ?_
  refine ok_c (j := 57) rfl (ok_getI (ci := 12) (C := RX12) (T := TX12) (N := 45) (ix := 112) (pc := 113) rfl rfl (by decide +kernel) rfl (fun _ => rfl) rfl cw_X12 (by decide) rfl wd_847) ?_
  refine ok_c (j := 58) rfl (ok_imul (pc := 116) rfl rfl (by decide +kernel)) ?_
  refine ok_c (j := 59) rfl (ok_aload_n (j := ⟨0, by decide⟩) (pc := 117) rfl rfl (by decide +kernel)) ?_
  refine ok_c (j := 60) rfl (ok_getS (f := 13) (ci := 12) (C := RX12) (T := TX12) (N := 45) (ix := 46) (pc := 118) rfl rfl (by decide +kernel) rfl (fun _ => rfl) rfl cw_X12 (by decide) rfl wd_837) ?_
  refine ok_c (j := 61) rfl (ok_aload_n (j := ⟨0, by decide⟩) (pc := 121) rfl rfl (by decide +kernel)) ?_
  refine ok_c (j := 62) rfl (ok_getI (ci := 12) (C := RX12) (T := TX12) (N := 45) (ix := 99) (pc := 122) rfl rfl (by decide +kernel) rfl (fun _ => rfl) rfl cw_X12 (by decide) rfl wd_844) ?_
  refine ok_c (j := 63) rfl (ok_ild (pc := 125) rfl rfl (by decide +kernel) rfl) ?_
  refine ok_c (j := 64) rfl (ok_iadd (pc := 126) rfl rfl (by decide +kernel)) ?_
  refine ok_c (j := 65) rfl (ok_bipush (n := 48) (pc := 127) rfl rfl (by decide +kernel) (by decide)) ?_
  refine ok_c (j := 66) rfl (ok_isub (pc := 129) rfl rfl (by decide +kernel)) ?_
  refine ok_c (j := 67) rfl (ok_goto (off := 4) (tg := 134) (pc := 130) rfl (by decide +kernel) rfl (by decide)) ?_
  refine ok_c (j := 68) rfl (ok_iconst (n := 0) (pc := 133) rfl rfl (by decide +kernel) (by decide)) ?_
  refine ok_c (j := 69) rfl (ok_putI (ci := 12) (C := RX12) (T := TX12) (N := 45) (ty := tyX12) (ix := 112) (pc := 134) rfl rfl (by decide +kernel) rfl (fun _ => rfl) rfl cw_X12 tyX12_ok nmX12 (by decide) rfl rfl rfl wd_847) ?_
  refine ok_c (j := 70) rfl (ok_aload_n (j := ⟨0, by decide⟩) (pc := 137) rfl rfl (by decide +kernel)) ?_
  refine ok_c (j := 71) rfl (ok_dup (pc := 138) rfl rfl (by decide +kernel)) ?_
  refine ok_c (j := 72) rfl (ok_getI (ci := 12) (C := RX12) (T := TX12) (N := 45) (ix := 99) (pc := 139) rfl rfl (by decide +kernel) rfl (fun _ => rfl) rfl cw_X12 (by decide) rfl wd_844) ?_
  refine ok_c (j := 73) rfl (ok_iconst (n := 1) (pc := 142) rfl rfl (by decide +kernel) (by decide)) ?_
  refine ok_c (j := 74) rfl (ok_iadd (pc := 143) rfl rfl (by decide +kernel)) ?_
  refine ok_c (j := 75) rfl (ok_putI (ci := 12) (C := RX12) (T := TX12) (N := 45) (ty := tyX12) (ix := 99) (pc := 144) rfl rfl (by decide +kernel) rfl (fun _ => rfl) rfl cw_X12 tyX12_ok nmX12 (by decide) rfl rfl rfl wd_844) ?_
  refine ok_c (j := 76) rfl (ok_goto (off := (-62)) (tg := 85) (pc := 147) rfl (by decide +kernel) rfl (by decide)) ?_
  refine ok_c (j := 77) rfl (ok_aload_n (j := ⟨0, by decide⟩) (pc := 150) rfl rfl (by decide +kernel)) ?_
  refine ok_c (j := 78) rfl (ok_aload_n (j := ⟨0, by decide⟩) (pc := 151) rfl rfl (by decide +kernel)) ?_
  refine ok_c (j := 79) rfl (ok_getI (ci := 12) (C := RX12) (T := TX12) (N := 45) (ix := 99) (pc := 152) rfl rfl (by decide +kernel) rfl (fun _ => rfl) rfl cw_X12 (by decide) rfl wd_844) ?_
  refine ok_c (j := 80) rfl (ok_aload_n (j := ⟨0, by decide⟩) (pc := 155) rfl rfl (by decide +kernel)) ?_
  refine ok_c (j := 81) rfl (ok_getI (ci := 12) (C := RX12) (T := TX12) (N := 45) (ix := 102) (pc := 156) rfl rfl (by decide +kernel) rfl (fun _ => rfl) rfl cw_X12 (by decide) rfl wd_846) ?_
  refine ok_c (j := 82) rfl (ok_isub (pc := 159) rfl rfl (by decide +kernel)) ?_
  refine ok_c (j := 83) rfl (ok_iconst (n := 4) (pc := 160) rfl rfl (by decide +kernel) (by decide)) ?_
  refine ok_c (j := 84) rfl (ok_cmple (off := 8) (tg := 169) (pc := 161) rfl rfl (by decide +kernel) rfl (by decide)) ?_
  refine ok_c (j := 85) rfl (ok_bipush (n := 104) (pc := 164) rfl rfl (by decide +kernel) (by decide)) ?_
  refine ok_c (j := 86) rfl (ok_goto (off := 5) (tg := 171) (pc := 166) rfl (by decide +kernel) rfl (by decide)) ?_
  refine ok_c (j := 87) rfl (ok_bipush (n := 100) (pc := 169) rfl rfl (by decide +kernel) (by decide)) ?_
  refine ok_c (j := 88) rfl (ok_putI (ci := 12) (C := RX12) (T := TX12) (N := 45) (ty := tyX12) (ix := 109) (pc := 171) rfl rfl (by decide +kernel) rfl (fun _ => rfl) rfl cw_X12 tyX12_ok nmX12 (by decide) rfl rfl rfl wd_845) ?_
  refine ok_c (j := 89) rfl (ok_goto (off := 129) (tg := 303) (pc := 174) rfl (by decide +kernel) rfl (by decide)) ?_
  refine ok_c (j := 90) rfl (ok_aload_n (j := ⟨0, by decide⟩) (pc := 177) rfl rfl (by decide +kernel)) ?_
  refine ok_c (j := 91) rfl (ok_bipush (n := 97) (pc := 178) rfl rfl (by decide +kernel) (by decide)) ?_
  refine ok_c (j := 92) rfl (ok_bipush (n := 122) (pc := 180) rfl rfl (by decide +kernel) (by decide)) ?_
  refine ok_c (j := 93) rfl (ok_virtual (y := yX12_isAt) (n := 2) (d' := 2) (t := 20) (T := TX12) (N := 45) (ix := 105) is_ci (pc := 182) rfl rfl (by decide +kernel) (by decide) (ct_X12_isAt l) rfl (fun _ => rfl) ce_fI_rec wd_975 wd_977 wd_26 wd_75) ?_
  refine ok_c (j := 94) rfl (ok_ifeq (off := 74) (tg := 259) (pc := 185) rfl rfl (by decide +kernel) rfl (by decide)) ?_
  refine ok_c (j := 95) rfl (ok_aload_n (j := ⟨0, by decide⟩) (pc := 188) rfl rfl (by decide +kernel)) ?_
  refine ok_c (j := 96) rfl (ok_bipush (n := 97) (pc := 189) rfl rfl (by decide +kernel) (by decide)) ?_
  refine ok_c (j := 97) rfl (ok_bipush (n := 122) (pc := 191) rfl rfl (by decide +kernel) (by decide)) ?_
  refine ok_c (j := 98) rfl (ok_virtual (y := yX12_isAt) (n := 2) (d' := 2) (t := 20) (T := TX12) (N := 45) (ix := 105) is_ci (pc := 193) rfl rfl (by decide +kernel) (by decide) (ct_X12_isAt l) rfl (fun _ => rfl) ce_fI_rec wd_975 wd_977 wd_26 wd_75) ?_
  refine ok_c (j := 99) rfl (ok_ifeq (off := 16) (tg := 212) (pc := 196) rfl rfl (by decide +kernel) rfl (by decide)) ?_
  refine ok_c (j := 100) rfl (ok_aload_n (j := ⟨0, by decide⟩) (pc := 199) rfl rfl (by decide +kernel)) ?_
  refine ok_c (j := 101) rfl (ok_dup (pc := 200) rfl rfl (by decide +kernel)) ?_
  refine ok_c (j := 102) rfl (ok_getI (ci := 12) (C := RX12) (T := TX12) (N := 45) (ix := 99) (pc := 201) rfl rfl (by decide +kernel) rfl (fun _ => rfl) rfl cw_X12 (by decide) rfl wd_844) ?_
  refine ok_c (j := 103) rfl (ok_iconst (n := 1) (pc := 204) rfl rfl (by decide +kernel) (by decide)) ?_
  refine ok_c (j := 104) rfl (ok_iadd (pc := 205) rfl rfl (by decide +kernel)) ?_
  refine ok_c (j := 105) rfl (ok_putI (ci := 12) (C := RX12) (T := TX12) (N := 45) (ty := tyX12) (ix := 99) (pc := 206) rfl rfl (by decide +kernel) rfl (fun _ => rfl) rfl cw_X12 tyX12_ok nmX12 (by decide) rfl rfl rfl wd_844) ?_
  refine ok_c (j := 106) rfl (ok_goto (off := (-21)) (tg := 188) (pc := 209) rfl (by decide +kernel) rfl (by decide)) ?_
  refine ok_c (j := 107) rfl (ok_iconst (n := 0) (pc := 212) rfl rfl (by decide +kernel) (by decide)) ?_
  refine ok_c (j := 108) rfl (ok_istore_n (j := ⟨1, by decide⟩) (pc := 213) rfl rfl (by decide +kernel) (by decide)) ?_
  refine ok_c (j := 109) rfl (ok_iload_n (j := ⟨1, by decide⟩) (pc := 214) rfl rfl (by decide +kernel)) ?_
  refine ok_c (j := 110) rfl (ok_aload_n (j := ⟨0, by decide⟩) (pc := 215) rfl rfl (by decide +kernel)) ?_
  refine ok_c (j := 111) rfl (ok_getS (f := 12) (ci := 12) (C := RX12) (T := TX12) (N := 45) (ix := 42) (pc := 216) rfl rfl (by decide +kernel) rfl (fun _ => rfl) rfl cw_X12 (by decide) rfl wd_836) ?_
  refine ok_c (j := 112) rfl (ok_alen (pc := 219) rfl rfl (by decide +kernel) (by decide)) ?_
  refine ok_c (j := 113) rfl (ok_cmpge (off := 36) (tg := 256) (pc := 220) rfl rfl (by decide +kernel) rfl (by decide)) ?_
  refine ok_c (j := 114) rfl (ok_aload_n (j := ⟨0, by decide⟩) (pc := 223) rfl rfl (by decide +kernel)) ?_
  refine ok_c (j := 115) rfl (ok_aload_n (j := ⟨0, by decide⟩) (pc := 224) rfl rfl (by decide +kernel)) ?_
  refine ok_c (j := 116) rfl (ok_getS (f := 12) (ci := 12) (C := RX12) (T := TX12) (N := 45) (ix := 42) (pc := 225) rfl rfl (by decide +kernel) rfl (fun _ => rfl) rfl cw_X12 (by decide) rfl wd_836) ?_
  refine ok_c (j := 117) rfl (ok_iload_n (j := ⟨1, by decide⟩) (pc := 228) rfl rfl (by decide +kernel)) ?_
  refine ok_c (j := 118) rfl (ok_ald (ty := .array .int) (pc := 229) rfl rfl (by decide +kernel) rfl rfl rfl (fun _ => rfl) rfl) ?_
  refine ok_c (j := 119) rfl (ok_virtual (y := yX12_isWord) (n := 1) (d' := 1) (t := 20) (T := TX12) (N := 45) (ix := 115) is_ci (pc := 230) rfl rfl (by decide +kernel) (by decide) (ct_X12_isWord l) rfl (fun _ => rfl) ce_fI_rec wd_979 wd_981 wd_27 wd_75) ?_
  refine ok_c (j := 120) rfl (ok_ifne (off := 6) (tg := 239) (pc := 233) rfl rfl (by decide +kernel) rfl (by decide)) ?_
  refine ok_c (j := 121) rfl (ok_goto (off := 14) (tg := 250) (pc := 236) rfl (by decide +kernel) rfl (by decide)) ?_
  refine ok_c (j := 122) rfl (ok_aload_n (j := ⟨0, by decide⟩) (pc := 239) rfl rfl (by decide +kernel)) ?_
  refine ok_c (j := 123) rfl (ok_bipush (n := 101) (pc := 240) rfl rfl (by decide +kernel) (by decide)) ?_
  refine ok_c (j := 124) rfl (ok_putI (ci := 12) (C := RX12) (T := TX12) (N := 45) (ty := tyX12) (ix := 109) (pc := 242) rfl rfl (by decide +kernel) rfl (fun _ => rfl) rfl cw_X12 tyX12_ok nmX12 (by decide) rfl rfl rfl wd_845) ?_
  refine ok_c (j := 125) rfl (ok_aload_n (j := ⟨0, by decide⟩) (pc := 245) rfl rfl (by decide +kernel)) ?_
  refine ok_c (j := 126) rfl (ok_iload_n (j := ⟨1, by decide⟩) (pc := 246) rfl rfl (by decide +kernel)) ?_
  refine ok_c (j := 127) rfl (ok_putI (ci := 12) (C := RX12) (T := TX12) (N := 45) (ty := tyX12) (ix := 112) (pc := 247) rfl rfl (by decide +kernel) rfl (fun _ => rfl) rfl cw_X12 tyX12_ok nmX12 (by decide) rfl rfl rfl wd_847) ?_
  refine ok_c (j := 128) rfl (ok_iinc (n := 1) (pc := 250) rfl rfl (by decide +kernel) (by decide) (by decide)) ?_
  refine ok_c (j := 129) rfl (ok_goto (off := (-39)) (tg := 214) (pc := 253) rfl (by decide +kernel) rfl (by decide)) ?_
  refine ok_c (j := 130) rfl (ok_goto (off := 47) (tg := 303) (pc := 256) rfl (by decide +kernel) rfl (by decide)) ?_
  refine ok_c (j := 131) rfl (ok_aload_n (j := ⟨0, by decide⟩) (pc := 259) rfl rfl (by decide +kernel)) ?_
  refine ok_c (j := 132) rfl (ok_getS (f := 13) (ci := 12) (C := RX12) (T := TX12) (N := 45) (ix := 46) (pc := 260) rfl rfl (by decide +kernel) rfl (fun _ => rfl) rfl cw_X12 (by decide) rfl wd_837) ?_
  refine ok_c (j := 133) rfl (ok_aload_n (j := ⟨0, by decide⟩) (pc := 263) rfl rfl (by decide +kernel)) ?_
  refine ok_c (j := 134) rfl (ok_getI (ci := 12) (C := RX12) (T := TX12) (N := 45) (ix := 99) (pc := 264) rfl rfl (by decide +kernel) rfl (fun _ => rfl) rfl cw_X12 (by decide) rfl wd_844) ?_
  refine ok_c (j := 135) rfl (ok_ild (pc := 267) rfl rfl (by decide +kernel) rfl) ?_
  refine ok_c (j := 136) rfl (ok_static (y := yX12_isSign) (n := 1) (d' := 1) (ix := 119) is_ci (pc := 268) rfl rfl (by decide +kernel) (by decide) rfl (ct_X12_isSign l) wd_983 wd_984 wd_75) ?_
  refine ok_c (j := 137) rfl (ok_ifeq (off := 32) (tg := 303) (pc := 271) rfl rfl (by decide +kernel) rfl (by decide)) ?_
  refine ok_c (j := 138) rfl (ok_aload_n (j := ⟨0, by decide⟩) (pc := 274) rfl rfl (by decide +kernel)) ?_
  refine ok_c (j := 139) rfl (ok_bipush (n := 102) (pc := 275) rfl rfl (by decide +kernel) (by decide)) ?_
  refine ok_c (j := 140) rfl (ok_putI (ci := 12) (C := RX12) (T := TX12) (N := 45) (ty := tyX12) (ix := 109) (pc := 277) rfl rfl (by decide +kernel) rfl (fun _ => rfl) rfl cw_X12 tyX12_ok nmX12 (by decide) rfl rfl rfl wd_845) ?_
  refine ok_c (j := 141) rfl (ok_aload_n (j := ⟨0, by decide⟩) (pc := 280) rfl rfl (by decide +kernel)) ?_
  refine ok_c (j := 142) rfl (ok_aload_n (j := ⟨0, by decide⟩) (pc := 281) rfl rfl (by decide +kernel)) ?_
  refine ok_c (j := 143) rfl (ok_getS (f := 13) (ci := 12) (C := RX12) (T := TX12) (N := 45) (ix := 46) (pc := 282) rfl rfl (by decide +kernel) rfl (fun _ => rfl) rfl cw_X12 (by decide) rfl wd_837) ?_
  refine ok_c (j := 144) rfl (ok_aload_n (j := ⟨0, by decide⟩) (pc := 285) rfl rfl (by decide +kernel)) ?_
  refine ok_c (j := 145) rfl (ok_getI (ci := 12) (C := RX12) (T := TX12) (N := 45) (ix := 99) (pc := 286) rfl rfl (by decide +kernel) rfl (fun _ => rfl) rfl cw_X12 (by decide) rfl wd_844) ?_
  refine ok_c (j := 146) rfl (ok_ild (pc := 289) rfl rfl (by decide +kernel) rfl) ?_
  refine ok_c (j := 147) rfl (ok_putI (ci := 12) (C := RX12) (T := TX12) (N := 45) (ty := tyX12) (ix := 112) (pc := 290) rfl rfl (by decide +kernel) rfl (fun _ => rfl) rfl cw_X12 tyX12_ok nmX12 (by decide) rfl rfl rfl wd_847) ?_
  refine ok_c (j := 148) rfl (ok_aload_n (j := ⟨0, by decide⟩) (pc := 293) rfl rfl (by decide +kernel)) ?_
  refine ok_c (j := 149) rfl (ok_dup (pc := 294) rfl rfl (by decide +kernel)) ?_
  refine ok_c (j := 150) rfl (ok_getI (ci := 12) (C := RX12) (T := TX12) (N := 45) (ix := 99) (pc := 295) rfl rfl (by decide +kernel) rfl (fun _ => rfl) rfl cw_X12 (by decide) rfl wd_844) ?_
  refine ok_c (j := 151) rfl (ok_iconst (n := 1) (pc := 298) rfl rfl (by decide +kernel) (by decide)) ?_
  refine ok_c (j := 152) rfl (ok_iadd (pc := 299) rfl rfl (by decide +kernel)) ?_
  refine ok_c (j := 153) rfl (ok_putI (ci := 12) (C := RX12) (T := TX12) (N := 45) (ty := tyX12) (ix := 99) (pc := 300) rfl rfl (by decide +kernel) rfl (fun _ => rfl) rfl cw_X12 tyX12_ok nmX12 (by decide) rfl rfl rfl wd_844) ?_
  refine ok_c (j := 154) rfl (ok_vret (pc := 303) rfl (by decide +kernel) rfl) ?_
  exact trivial
noncomputable def F_X12_reads := ce_fV tb_X12_reads 2 (some 20)
theorem ct_X12_reads (l : Launch) : ce_callee l yX12_reads 0 3 0 0 (ce_wV F_X12_reads) := ⟨_, _, _, ce_ctr_of (pcs := pc_X12_reads) (by decide +kernel) rfl (ok_X12_reads l ) ce_fV_run, ce_tw_at wd_974 rfl, by decide, by decide +kernel, by decide +kernel, by decide +kernel⟩
def pc_X12_letsFrom : List Nat := [0, 1, 4, 7, 8, 11, 14, 15, 18, 19, 22, 25]
noncomputable def tb_X12_letsFrom : List ce_Op := [o_aload 0, o_getI 20 25, o_ifle 11, o_aload 0, o_ci 1 F_X12_top 0 0 0 0, o_ci 1 F_X12_heightOf 0 0 0 0, o_iload 1, o_cmplt 11, o_aload 0, o_cv 1 F_X12_lets 0 0 0 0, o_goto 0, o_vret]
theorem tl_X12_letsFrom : ce_TL tb_X12_letsFrom := by
  unfold tb_X12_letsFrom
  refine tl_c ta_aload ?_
  refine tl_c ta_getI ?_
  refine tl_c ta_ifle ?_
  refine tl_c ta_aload ?_
  refine tl_c ta_ci ?_
  refine tl_c ta_ci ?_
  refine tl_c ta_iload ?_
  refine tl_c ta_cmplt ?_
  refine tl_c ta_aload ?_
  refine tl_c ta_cv ?_
  refine tl_c ta_goto ?_
  refine tl_c ta_vret ?_
  exact trivial
set_option maxRecDepth 20000 in
theorem ok_X12_letsFrom (l : Launch) : ce_OkL l cX12_letsFrom RX12 2 none 3 0 0 pc_X12_letsFrom 0 tb_X12_letsFrom := by
  unfold tb_X12_letsFrom
  refine ok_c (j := 1) rfl (ok_aload_n (j := ⟨0, by decide⟩) (pc := 0) rfl rfl (by decide +kernel)) ?_
  refine ok_c (j := 2) rfl (ok_getI (ci := 12) (C := RX12) (T := TX12) (N := 45) (ix := 123) (pc := 1) rfl rfl (by decide +kernel) rfl (fun _ => rfl) rfl cw_X12 (by decide) rfl wd_849) ?_
  refine ok_c (j := 3) rfl (ok_ifle (off := 21) (tg := 25) (pc := 4) rfl rfl (by decide +kernel) rfl (by decide)) ?_
  refine ok_c (j := 4) rfl (ok_aload_n (j := ⟨0, by decide⟩) (pc := 7) rfl rfl (by decide +kernel)) ?_
  refine ok_c (j := 5) rfl (ok_virtual (y := yX12_top) (n := 0) (d' := 1) (t := 20) (T := TX12) (N := 45) (ix := 129) is_ci (pc := 8) rfl rfl (by decide +kernel) (by decide) (ct_X12_top l) rfl (fun _ => rfl) ce_fI_rec wd_998 wd_1000 wd_31 wd_75) ?_
  refine ok_c (j := 6) rfl (ok_static (y := yX12_heightOf) (n := 1) (d' := 1) (ix := 133) is_ci (pc := 11) rfl rfl (by decide +kernel) (by decide) rfl (ct_X12_heightOf l) wd_1014 wd_1015 wd_75) ?_
  refine ok_c (j := 7) rfl (ok_iload_n (j := ⟨1, by decide⟩) (pc := 14) rfl rfl (by decide +kernel)) ?_
  refine ok_c (j := 8) rfl (ok_cmplt (off := 10) (tg := 25) (pc := 15) rfl rfl (by decide +kernel) rfl (by decide)) ?_
  refine ok_c (j := 9) rfl (ok_aload_n (j := ⟨0, by decide⟩) (pc := 18) rfl rfl (by decide +kernel)) ?_
  refine ok_c (j := 10) rfl (ok_virtual (y := yX12_lets) (n := 0) (d' := 2) (t := 20) (T := TX12) (N := 45) (ix := 137) is_cv (pc := 19) rfl rfl (by decide +kernel) (by decide) (ct_X12_lets l) rfl (fun _ => rfl) ce_fV_rec wd_1017 wd_1019 wd_35 wd_75) ?_
  refine ok_c (j := 11) rfl (ok_goto (off := (-22)) (tg := 0) (pc := 22) rfl (by decide +kernel) rfl (by decide)) ?_
  refine ok_c (j := 12) rfl (ok_vret (pc := 25) rfl (by decide +kernel) rfl) ?_
  exact trivial
noncomputable def F_X12_letsFrom := ce_fV tb_X12_letsFrom 2 (some 20)
theorem ct_X12_letsFrom (l : Launch) : ce_callee l yX12_letsFrom 1 3 0 0 (ce_wV F_X12_letsFrom) := ⟨_, _, _, ce_ctr_of (pcs := pc_X12_letsFrom) (by decide +kernel) rfl (ok_X12_letsFrom l ) ce_fV_run, ce_tw_at wd_1013 rfl, by decide, by decide +kernel, by decide +kernel, by decide +kernel⟩
def pc_X12_ahead : List Nat := [0, 1, 4, 6, 9, 10, 13, 15, 18, 19, 22, 24, 27, 28, 29, 32, 34, 37, 38, 41, 44, 47, 48, 51, 52, 55, 56, 57, 58, 61, 63, 66, 67, 70, 72, 75, 76, 79, 82, 84, 87, 88, 91, 93, 96, 97, 100, 102, 105, 107, 110, 111, 114, 116, 119, 120, 123, 125, 128, 130, 133, 134, 135, 136, 139, 140, 143, 144, 147, 148, 149, 150, 151, 154, 155, 156, 159, 160, 161, 164, 165]
noncomputable def tb_X12_ahead : List ce_Op := [o_aload 0, o_getI 20 21, o_int 100, o_cmpeq 12, o_aload 0, o_getI 20 21, o_int 101, o_cmpne 27, o_aload 0, o_getI 20 23, o_int 6, o_cmpge 27, o_aload 0, o_aload 0, o_getI 20 21, o_int 100, o_cmpne 20, o_aload 0, o_getI 20 23, o_goto 24, o_int 20000, o_aload 0, o_getI 20 23, o_bin q_add, o_cv 2 F_X12_writes 0 0 0 0, o_int 1, o_iret, o_aload 0, o_getI 20 21, o_int 101, o_cmpne 40, o_aload 0, o_getI 20 23, o_int 11, o_cmpne 40, o_aload 0, o_ci 1 F_X12_mayNot 0 0 0 0, o_ifeq 40, o_int 8, o_goto 61, o_aload 0, o_getI 20 21, o_int 102, o_cmpne 50, o_aload 0, o_getI 20 23, o_int 45, o_cmpne 50, o_int 9, o_goto 61, o_aload 0, o_getI 20 21, o_int 102, o_cmpne 60, o_aload 0, o_getI 20 23, o_int 40, o_cmpne 60, o_int 10, o_goto 61, o_int 0, o_istore 1, o_iload 1, o_ifeq 68, o_aload 0, o_getI 20 24, o_int 5, o_cmpne 70, o_int (-1), o_iret, o_aload 0, o_dup, o_getI 20 24, o_int 1, o_bin q_add, o_putI 20 24, o_aload 0, o_iload 1, o_cv 2 F_X12_holds 0 0 0 0, o_int 0, o_iret]
theorem tl_X12_ahead : ce_TL tb_X12_ahead := by
  unfold tb_X12_ahead
  refine tl_c ta_aload ?_
  refine tl_c ta_getI ?_
  refine tl_c ta_int ?_
  refine tl_c ta_cmpeq ?_
  refine tl_c ta_aload ?_
  refine tl_c ta_getI ?_
  refine tl_c ta_int ?_
  refine tl_c ta_cmpne ?_
  refine tl_c ta_aload ?_
  refine tl_c ta_getI ?_
  refine tl_c ta_int ?_
  refine tl_c ta_cmpge ?_
  refine tl_c ta_aload ?_
  refine tl_c ta_aload ?_
  refine tl_c ta_getI ?_
  refine tl_c ta_int ?_
  refine tl_c ta_cmpne ?_
  refine tl_c ta_aload ?_
  refine tl_c ta_getI ?_
  refine tl_c ta_goto ?_
  refine tl_c ta_int ?_
  refine tl_c ta_aload ?_
  refine tl_c ta_getI ?_
  refine tl_c ta_bin ?_
  refine tl_c ta_cv ?_
  refine tl_c ta_int ?_
  refine tl_c ta_iret ?_
  refine tl_c ta_aload ?_
  refine tl_c ta_getI ?_
  refine tl_c ta_int ?_
  refine tl_c ta_cmpne ?_
  refine tl_c ta_aload ?_
  refine tl_c ta_getI ?_
  refine tl_c ta_int ?_
  refine tl_c ta_cmpne ?_
  refine tl_c ta_aload ?_
  refine tl_c ta_ci ?_
  refine tl_c ta_ifeq ?_
  refine tl_c ta_int ?_
  refine tl_c ta_goto ?_
  refine tl_c ta_aload ?_
  refine tl_c ta_getI ?_
  refine tl_c ta_int ?_
  refine tl_c ta_cmpne ?_
  refine tl_c ta_aload ?_
  refine tl_c ta_getI ?_
  refine tl_c ta_int ?_
  refine tl_c ta_cmpne ?_
  refine tl_c ta_int ?_
  refine tl_c ta_goto ?_
  refine tl_c ta_aload ?_
  refine tl_c ta_getI ?_
  refine tl_c ta_int ?_
  refine tl_c ta_cmpne ?_
  refine tl_c ta_aload ?_
  refine tl_c ta_getI ?_
  refine tl_c ta_int ?_
  refine tl_c ta_cmpne ?_
  refine tl_c ta_int ?_
  refine tl_c ta_goto ?_
  refine tl_c ta_int ?_
  refine tl_c ta_istore ?_
  refine tl_c ta_iload ?_
  refine tl_c ta_ifeq ?_
  refine tl_c ta_aload ?_
  refine tl_c ta_getI ?_
  refine tl_c ta_int ?_
  refine tl_c ta_cmpne ?_
  refine tl_c ta_int ?_
  refine tl_c ta_iret ?_
  refine tl_c ta_aload ?_
  refine tl_c ta_dup ?_
  refine tl_c ta_getI ?_
  refine tl_c ta_int ?_
  refine tl_c ta_bin ?_
  refine tl_c ta_putI ?_
  refine tl_c ta_aload ?_
  refine tl_c ta_iload ?_
  refine tl_c ta_cv ?_
  refine tl_c ta_int ?_
  refine tl_c ta_iret ?_
  exact trivial
set_option maxRecDepth 20000 in
theorem ok_X12_ahead (l : Launch) : ce_OkL l cX12_ahead RX12 2 (some .int) 3 0 0 pc_X12_ahead 0 tb_X12_ahead := by
  unfold tb_X12_ahead
  refine ok_c (j := 1) rfl (ok_aload_n (j := ⟨0, by decide⟩) (pc := 0) rfl rfl (by decide +kernel)) ?_
  refine ok_c (j := 2) rfl (ok_getI (ci := 12) (C := RX12) (T := TX12) (N := 45) (ix := 109) (pc := 1) rfl rfl (by decide +kernel) rfl (fun _ => rfl) rfl cw_X12 (by decide) rfl wd_845) ?_
  refine ok_c (j := 3) rfl (ok_bipush (n := 100) (pc := 4) rfl rfl (by decide +kernel) (by decide)) ?_
  refine ok_c (j := 4) rfl (ok_cmpeq (off := 21) (tg := 27) (pc := 6) rfl rfl (by decide +kernel) rfl (by decide)) ?_
  refine ok_c (j := 5) rfl (ok_aload_n (j := ⟨0, by decide⟩) (pc := 9) rfl rfl (by decide +kernel)) ?_
  refine ok_c (j := 6) rfl (ok_getI (ci := 12) (C := RX12) (T := TX12) (N := 45) (ix := 109) (pc := 10) rfl rfl (by decide +kernel) rfl (fun _ => rfl) rfl cw_X12 (by decide) rfl wd_845) ?_
  refine ok_c (j := 7) rfl (ok_bipush (n := 101) (pc := 13) rfl rfl (by decide +kernel) (by decide)) ?_
  refine ok_c (j := 8) rfl (ok_cmpne (off := 42) (tg := 57) (pc := 15) rfl rfl (by decide +kernel) rfl (by decide)) ?_
  refine ok_c (j := 9) rfl (ok_aload_n (j := ⟨0, by decide⟩) (pc := 18) rfl rfl (by decide +kernel)) ?_
  refine ok_c (j := 10) rfl (ok_getI (ci := 12) (C := RX12) (T := TX12) (N := 45) (ix := 112) (pc := 19) rfl rfl (by decide +kernel) rfl (fun _ => rfl) rfl cw_X12 (by decide) rfl wd_847) ?_
  refine ok_c (j := 11) rfl (ok_bipush (n := 6) (pc := 22) rfl rfl (by decide +kernel) (by decide)) ?_
  refine ok_c (j := 12) rfl (ok_cmpge (off := 33) (tg := 57) (pc := 24) rfl rfl (by decide +kernel) rfl (by decide)) ?_
  refine ok_c (j := 13) rfl (ok_aload_n (j := ⟨0, by decide⟩) (pc := 27) rfl rfl (by decide +kernel)) ?_
  refine ok_c (j := 14) rfl (ok_aload_n (j := ⟨0, by decide⟩) (pc := 28) rfl rfl (by decide +kernel)) ?_
  refine ok_c (j := 15) rfl (ok_getI (ci := 12) (C := RX12) (T := TX12) (N := 45) (ix := 109) (pc := 29) rfl rfl (by decide +kernel) rfl (fun _ => rfl) rfl cw_X12 (by decide) rfl wd_845) ?_
  refine ok_c (j := 16) rfl (ok_bipush (n := 100) (pc := 32) rfl rfl (by decide +kernel) (by decide)) ?_
  refine ok_c (j := 17) rfl (ok_cmpne (off := 10) (tg := 44) (pc := 34) rfl rfl (by decide +kernel) rfl (by decide)) ?_
  refine ok_c (j := 18) rfl (ok_aload_n (j := ⟨0, by decide⟩) (pc := 37) rfl rfl (by decide +kernel)) ?_
  refine ok_c (j := 19) rfl (ok_getI (ci := 12) (C := RX12) (T := TX12) (N := 45) (ix := 112) (pc := 38) rfl rfl (by decide +kernel) rfl (fun _ => rfl) rfl cw_X12 (by decide) rfl wd_847) ?_
  refine ok_c (j := 20) rfl (ok_goto (off := 11) (tg := 52) (pc := 41) rfl (by decide +kernel) rfl (by decide)) ?_
  refine ok_c (j := 21) rfl (ok_sipush (n := 20000) (pc := 44) rfl rfl (by decide +kernel) (by decide)) ?_
  refine ok_c (j := 22) rfl (ok_aload_n (j := ⟨0, by decide⟩) (pc := 47) rfl rfl (by decide +kernel)) ?_
  refine ok_c (j := 23) rfl (ok_getI (ci := 12) (C := RX12) (T := TX12) (N := 45) (ix := 112) (pc := 48) rfl rfl (by decide +kernel) rfl (fun _ => rfl) rfl cw_X12 (by decide) rfl wd_847) ?_
  refine ok_c (j := 24) rfl (ok_iadd (pc := 51) rfl rfl (by decide +kernel)) ?_
  refine ok_c (j := 25) rfl (ok_virtual (y := yX12_writes) (n := 1) (d' := 1) (t := 20) (T := TX12) (N := 45) (ix := 88) is_cv (pc := 52) rfl rfl (by decide +kernel) (by decide) (ct_X12_writes l) rfl (fun _ => rfl) ce_fV_rec wd_820 wd_822 wd_24 wd_75) ?_
  refine ok_c (j := 26) rfl (ok_iconst (n := 1) (pc := 55) rfl rfl (by decide +kernel) (by decide)) ?_
  refine ok_c (j := 27) rfl (ok_iret (pc := 56) rfl (by decide +kernel) rfl) ?_
  refine ok_c (j := 28) rfl (ok_aload_n (j := ⟨0, by decide⟩) (pc := 57) rfl rfl (by decide +kernel)) ?_
  refine ok_c (j := 29) rfl (ok_getI (ci := 12) (C := RX12) (T := TX12) (N := 45) (ix := 109) (pc := 58) rfl rfl (by decide +kernel) rfl (fun _ => rfl) rfl cw_X12 (by decide) rfl wd_845) ?_
  refine ok_c (j := 30) rfl (ok_bipush (n := 101) (pc := 61) rfl rfl (by decide +kernel) (by decide)) ?_
  refine ok_c (j := 31) rfl (ok_cmpne (off := 24) (tg := 87) (pc := 63) rfl rfl (by decide +kernel) rfl (by decide)) ?_
  refine ok_c (j := 32) rfl (ok_aload_n (j := ⟨0, by decide⟩) (pc := 66) rfl rfl (by decide +kernel)) ?_
  refine ok_c (j := 33) rfl (ok_getI (ci := 12) (C := RX12) (T := TX12) (N := 45) (ix := 112) (pc := 67) rfl rfl (by decide +kernel) rfl (fun _ => rfl) rfl cw_X12 (by decide) rfl wd_847) ?_
  refine ok_c (j := 34) rfl (ok_bipush (n := 11) (pc := 70) rfl rfl (by decide +kernel) (by decide)) ?_
  refine ok_c (j := 35) rfl (ok_cmpne (off := 15) (tg := 87) (pc := 72) rfl rfl (by decide +kernel) rfl (by decide)) ?_
  refine ok_c (j := 36) rfl (ok_aload_n (j := ⟨0, by decide⟩) (pc := 75) rfl rfl (by decide +kernel)) ?_
  refine ok_c (j := 37) rfl (ok_virtual (y := yX12_mayNot) (n := 0) (d' := 2) (t := 20) (T := TX12) (N := 45) (ix := 140) is_ci (pc := 76) rfl rfl (by decide +kernel) (by decide) (ct_X12_mayNot l) rfl (fun _ => rfl) ce_fI_rec wd_994 wd_996 wd_30 wd_75) ?_
  refine ok_c (j := 38) rfl (ok_ifeq (off := 8) (tg := 87) (pc := 79) rfl rfl (by decide +kernel) rfl (by decide)) ?_
  refine ok_c (j := 39) rfl (ok_bipush (n := 8) (pc := 82) rfl rfl (by decide +kernel) (by decide)) ?_
  refine ok_c (j := 40) rfl (ok_goto (off := 50) (tg := 134) (pc := 84) rfl (by decide +kernel) rfl (by decide)) ?_
  refine ok_c (j := 41) rfl (ok_aload_n (j := ⟨0, by decide⟩) (pc := 87) rfl rfl (by decide +kernel)) ?_
  refine ok_c (j := 42) rfl (ok_getI (ci := 12) (C := RX12) (T := TX12) (N := 45) (ix := 109) (pc := 88) rfl rfl (by decide +kernel) rfl (fun _ => rfl) rfl cw_X12 (by decide) rfl wd_845) ?_
  refine ok_c (j := 43) rfl (ok_bipush (n := 102) (pc := 91) rfl rfl (by decide +kernel) (by decide)) ?_
  refine ok_c (j := 44) rfl (ok_cmpne (off := 17) (tg := 110) (pc := 93) rfl rfl (by decide +kernel) rfl (by decide)) ?_
  refine ok_c (j := 45) rfl (ok_aload_n (j := ⟨0, by decide⟩) (pc := 96) rfl rfl (by decide +kernel)) ?_
  refine ok_c (j := 46) rfl (ok_getI (ci := 12) (C := RX12) (T := TX12) (N := 45) (ix := 112) (pc := 97) rfl rfl (by decide +kernel) rfl (fun _ => rfl) rfl cw_X12 (by decide) rfl wd_847) ?_
  refine ok_c (j := 47) rfl (ok_bipush (n := 45) (pc := 100) rfl rfl (by decide +kernel) (by decide)) ?_
  refine ok_c (j := 48) rfl (ok_cmpne (off := 8) (tg := 110) (pc := 102) rfl rfl (by decide +kernel) rfl (by decide)) ?_
  refine ok_c (j := 49) rfl (ok_bipush (n := 9) (pc := 105) rfl rfl (by decide +kernel) (by decide)) ?_
  refine ok_c (j := 50) rfl (ok_goto (off := 27) (tg := 134) (pc := 107) rfl (by decide +kernel) rfl (by decide)) ?_
  refine ok_c (j := 51) rfl (ok_aload_n (j := ⟨0, by decide⟩) (pc := 110) rfl rfl (by decide +kernel)) ?_
  refine ok_c (j := 52) rfl (ok_getI (ci := 12) (C := RX12) (T := TX12) (N := 45) (ix := 109) (pc := 111) rfl rfl (by decide +kernel) rfl (fun _ => rfl) rfl cw_X12 (by decide) rfl wd_845) ?_
  refine ok_c (j := 53) rfl (ok_bipush (n := 102) (pc := 114) rfl rfl (by decide +kernel) (by decide)) ?_
  refine ok_c (j := 54) rfl (ok_cmpne (off := 17) (tg := 133) (pc := 116) rfl rfl (by decide +kernel) rfl (by decide)) ?_
  refine ok_c (j := 55) rfl (ok_aload_n (j := ⟨0, by decide⟩) (pc := 119) rfl rfl (by decide +kernel)) ?_
  refine ok_c (j := 56) rfl (ok_getI (ci := 12) (C := RX12) (T := TX12) (N := 45) (ix := 112) (pc := 120) rfl rfl (by decide +kernel) rfl (fun _ => rfl) rfl cw_X12 (by decide) rfl wd_847) ?_
  refine ok_c (j := 57) rfl (ok_bipush (n := 40) (pc := 123) rfl rfl (by decide +kernel) (by decide)) ?_
  refine ok_c (j := 58) rfl (ok_cmpne (off := 8) (tg := 133) (pc := 125) rfl rfl (by decide +kernel) rfl (by decide)) ?_
  refine ok_c (j := 59) rfl (ok_bipush (n := 10) (pc := 128) rfl rfl (by decide +kernel) (by decide)) ?_
  refine ok_c (j := 60) rfl (ok_goto (off := 4) (tg := 134) (pc := 130) rfl (by decide +kernel) rfl (by decide)) ?_
  refine ok_c (j := 61) rfl (ok_iconst (n := 0) (pc := 133) rfl rfl (by decide +kernel) (by decide)) ?_
  refine ok_c (j := 62) rfl (ok_istore_n (j := ⟨1, by decide⟩) (pc := 134) rfl rfl (by decide +kernel) (by decide)) ?_
  refine ok_c (j := 63) rfl (ok_iload_n (j := ⟨1, by decide⟩) (pc := 135) rfl rfl (by decide +kernel)) ?_
  refine ok_c (j := 64) rfl (ok_ifeq (off := 11) (tg := 147) (pc := 136) rfl rfl (by decide +kernel) rfl (by decide)) ?_
  refine ok_c (j := 65) rfl (ok_aload_n (j := ⟨0, by decide⟩) (pc := 139) rfl rfl (by decide +kernel)) ?_
  refine ok_c (j := 66) rfl (ok_getI (ci := 12) (C := RX12) (T := TX12) (N := 45) (ix := 126) (pc := 140) rfl rfl (by decide +kernel) rfl (fun _ => rfl) rfl cw_X12 (by decide) rfl wd_848) ?_
  refine ok_c (j := 67) rfl (ok_iconst (n := 5) (pc := 143) rfl rfl (by decide +kernel) (by decide)) ?_
  refine ok_c (j := 68) rfl (ok_cmpne (off := 5) (tg := 149) (pc := 144) rfl rfl (by decide +kernel) rfl (by decide)) ?_
  refine ok_c (j := 69) rfl (ok_iconst (n := (-1)) (pc := 147) rfl rfl (by decide +kernel) (by decide)) ?_
  refine ok_c (j := 70) rfl (ok_iret (pc := 148) rfl (by decide +kernel) rfl) ?_
  refine ok_c (j := 71) rfl (ok_aload_n (j := ⟨0, by decide⟩) (pc := 149) rfl rfl (by decide +kernel)) ?_
  refine ok_c (j := 72) rfl (ok_dup (pc := 150) rfl rfl (by decide +kernel)) ?_
  refine ok_c (j := 73) rfl (ok_getI (ci := 12) (C := RX12) (T := TX12) (N := 45) (ix := 126) (pc := 151) rfl rfl (by decide +kernel) rfl (fun _ => rfl) rfl cw_X12 (by decide) rfl wd_848) ?_
  refine ok_c (j := 74) rfl (ok_iconst (n := 1) (pc := 154) rfl rfl (by decide +kernel) (by decide)) ?_
  refine ok_c (j := 75) rfl (ok_iadd (pc := 155) rfl rfl (by decide +kernel)) ?_
  refine ok_c (j := 76) rfl (ok_putI (ci := 12) (C := RX12) (T := TX12) (N := 45) (ty := tyX12) (ix := 126) (pc := 156) rfl rfl (by decide +kernel) rfl (fun _ => rfl) rfl cw_X12 tyX12_ok nmX12 (by decide) rfl rfl rfl wd_848) ?_
  refine ok_c (j := 77) rfl (ok_aload_n (j := ⟨0, by decide⟩) (pc := 159) rfl rfl (by decide +kernel)) ?_
  refine ok_c (j := 78) rfl (ok_iload_n (j := ⟨1, by decide⟩) (pc := 160) rfl rfl (by decide +kernel)) ?_
  refine ok_c (j := 79) rfl (ok_virtual (y := yX12_holds) (n := 1) (d' := 1) (t := 20) (T := TX12) (N := 45) (ix := 144) is_cv (pc := 161) rfl rfl (by decide +kernel) (by decide) (ct_X12_holds l) rfl (fun _ => rfl) ce_fV_rec wd_1002 wd_1004 wd_32 wd_75) ?_
  refine ok_c (j := 80) rfl (ok_iconst (n := 0) (pc := 164) rfl rfl (by decide +kernel) (by decide)) ?_
  refine ok_c (j := 81) rfl (ok_iret (pc := 165) rfl (by decide +kernel) rfl) ?_
  exact trivial
noncomputable def F_X12_ahead := ce_fI tb_X12_ahead 2 (some 20)
theorem ct_X12_ahead (l : Launch) : ce_callee l yX12_ahead 0 3 0 0 (ce_wI F_X12_ahead) := ⟨_, _, _, ce_ctr_of (pcs := pc_X12_ahead) (by decide +kernel) rfl (ok_X12_ahead l ) ce_fI_run, ce_tw_at wd_993 rfl, by decide, by decide +kernel, by decide +kernel, by decide +kernel⟩
def pc_X12_leastOf : List Nat := [0, 1, 2, 3, 4, 5, 8, 9, 12, 15]
noncomputable def tb_X12_leastOf : List ce_Op := [o_aload 0, o_int 0, o_iload 1, o_iload 2, o_iload 3, o_ci 5 F_X12_says 0 0 0 0, o_int 0, o_int 1999, o_ci 3 F_X12_bounded 0 0 0 0, o_iret]
theorem tl_X12_leastOf : ce_TL tb_X12_leastOf := by
  unfold tb_X12_leastOf
  refine tl_c ta_aload ?_
  refine tl_c ta_int ?_
  refine tl_c ta_iload ?_
  refine tl_c ta_iload ?_
  refine tl_c ta_iload ?_
  refine tl_c ta_ci ?_
  refine tl_c ta_int ?_
  refine tl_c ta_int ?_
  refine tl_c ta_ci ?_
  refine tl_c ta_iret ?_
  exact trivial
set_option maxRecDepth 20000 in
theorem ok_X12_leastOf (l : Launch) : ce_OkL l cX12_leastOf RX12 4 (some .int) 3 0 0 pc_X12_leastOf 0 tb_X12_leastOf := by
  unfold tb_X12_leastOf
  refine ok_c (j := 1) rfl (ok_aload_n (j := ⟨0, by decide⟩) (pc := 0) rfl rfl (by decide +kernel)) ?_
  refine ok_c (j := 2) rfl (ok_iconst (n := 0) (pc := 1) rfl rfl (by decide +kernel) (by decide)) ?_
  refine ok_c (j := 3) rfl (ok_iload_n (j := ⟨1, by decide⟩) (pc := 2) rfl rfl (by decide +kernel)) ?_
  refine ok_c (j := 4) rfl (ok_iload_n (j := ⟨2, by decide⟩) (pc := 3) rfl rfl (by decide +kernel)) ?_
  refine ok_c (j := 5) rfl (ok_iload_n (j := ⟨3, by decide⟩) (pc := 4) rfl rfl (by decide +kernel)) ?_
  refine ok_c (j := 6) rfl (ok_virtual (y := yX12_says) (n := 4) (d' := 2) (t := 20) (T := TX12) (N := 45) (ix := 176) is_ci (pc := 5) rfl rfl (by decide +kernel) (by decide) (ct_X12_says l) rfl (fun _ => rfl) ce_fI_rec wd_1040 wd_1042 wd_38 wd_75) ?_
  refine ok_c (j := 7) rfl (ok_iconst (n := 0) (pc := 8) rfl rfl (by decide +kernel) (by decide)) ?_
  refine ok_c (j := 8) rfl (ok_sipush (n := 1999) (pc := 9) rfl rfl (by decide +kernel) (by decide)) ?_
  refine ok_c (j := 9) rfl (ok_static (y := yX12_bounded) (n := 3) (d' := 1) (ix := 179) is_ci (pc := 12) rfl rfl (by decide +kernel) (by decide) rfl (ct_X12_bounded l) wd_1055 wd_1056 wd_75) ?_
  refine ok_c (j := 10) rfl (ok_iret (pc := 15) rfl (by decide +kernel) rfl) ?_
  exact trivial
noncomputable def F_X12_leastOf := ce_fI tb_X12_leastOf 4 (some 20)
theorem ct_X12_leastOf (l : Launch) : ce_callee l yX12_leastOf 3 3 0 0 (ce_wI F_X12_leastOf) := ⟨_, _, _, ce_ctr_of (pcs := pc_X12_leastOf) (by decide +kernel) rfl (ok_X12_leastOf l ) ce_fI_run, ce_tw_at wd_1054 rfl, by decide, by decide +kernel, by decide +kernel, by decide +kernel⟩
def pc_X12_behind : List Nat := [0, 1, 3, 6, 7, 10, 12, 15, 16, 19, 22, 25, 26, 29, 31, 34, 35, 38, 40, 43, 45, 48, 49, 52, 54, 57, 58, 61, 63, 66, 68, 71, 72, 73, 74, 77, 78, 79, 82, 83, 84, 87, 88, 89, 92, 93, 96, 97, 100, 101, 104, 105, 108, 109, 110, 111, 112, 115, 118, 119, 120, 123, 124, 125, 126, 129, 131, 134, 135, 138, 140, 143, 144, 147, 149, 152, 153, 154, 155, 156, 159, 160, 163, 165, 168, 169, 172, 175, 176, 179, 180, 181, 182, 185, 188, 189, 190, 191, 192, 195, 196, 197, 200, 201, 202, 205, 206, 207, 210, 211]
noncomputable def tb_X12_behind : List ce_Op := [o_aload 0, o_int 7, o_cv 2 F_X12_letsFrom 0 0 0 0, o_aload 0, o_getI 20 21, o_int 102, o_cmpne 11, o_aload 0, o_getI 20 23, o_ci 1 F_X12_deedOf 0 0 0 0, o_goto 32, o_aload 0, o_getI 20 21, o_int 101, o_cmpne 21, o_aload 0, o_getI 20 23, o_int 9, o_cmpne 21, o_int 7, o_goto 32, o_aload 0, o_getI 20 21, o_int 101, o_cmpne 31, o_aload 0, o_getI 20 23, o_int 10, o_cmpne 31, o_int 6, o_goto 32, o_int 0, o_istore 1, o_iload 1, o_ifeq 63, o_iload 1, o_int 4, o_cmpeq 41, o_iload 1, o_int 5, o_cmpne 54, o_aload 0, o_int 5, o_cv 2 F_X12_letsFrom 0 0 0 0, o_aload 0, o_ci 1 F_X12_top 0 0 0 0, o_int 4, o_cmpeq 52, o_aload 0, o_ci 1 F_X12_top 0 0 0 0, o_int 5, o_cmpne 58, o_int (-1), o_iret, o_aload 0, o_iload 1, o_ci 1 F_X12_heightOf 0 0 0 0, o_cv 2 F_X12_letsFrom 0 0 0 0, o_aload 0, o_iload 1, o_cv 2 F_X12_holds 0 0 0 0, o_int 1, o_iret, o_aload 0, o_getI 20 21, o_int 102, o_cmpne 75, o_aload 0, o_getI 20 23, o_int 59, o_cmpeq 77, o_aload 0, o_getI 20 23, o_int 41, o_cmpeq 77, o_int (-1), o_iret, o_aload 0, o_int 1, o_cv 2 F_X12_letsFrom 0 0 0 0, o_aload 0, o_getI 20 23, o_int 59, o_cmpne 91, o_aload 0, o_getI 20 25, o_ifne 89, o_int 2, o_goto 90, o_int (-1), o_iret, o_aload 0, o_getI 20 25, o_ifne 96, o_int (-1), o_iret, o_aload 0, o_dup, o_getI 20 25, o_int 1, o_bin q_sub, o_putI 20 25, o_aload 0, o_dup, o_getI 20 24, o_int 1, o_bin q_sub, o_putI 20 24, o_int 0, o_iret]
theorem tl_X12_behind : ce_TL tb_X12_behind := by
  unfold tb_X12_behind
  refine tl_c ta_aload ?_
  refine tl_c ta_int ?_
  refine tl_c ta_cv ?_
  refine tl_c ta_aload ?_
  refine tl_c ta_getI ?_
  refine tl_c ta_int ?_
  refine tl_c ta_cmpne ?_
  refine tl_c ta_aload ?_
  refine tl_c ta_getI ?_
  refine tl_c ta_ci ?_
  refine tl_c ta_goto ?_
  refine tl_c ta_aload ?_
  refine tl_c ta_getI ?_
  refine tl_c ta_int ?_
  refine tl_c ta_cmpne ?_
  refine tl_c ta_aload ?_
  refine tl_c ta_getI ?_
  refine tl_c ta_int ?_
  refine tl_c ta_cmpne ?_
  refine tl_c ta_int ?_
  refine tl_c ta_goto ?_
  refine tl_c ta_aload ?_
  refine tl_c ta_getI ?_
  refine tl_c ta_int ?_
  refine tl_c ta_cmpne ?_
  refine tl_c ta_aload ?_
  refine tl_c ta_getI ?_
  refine tl_c ta_int ?_
  refine tl_c ta_cmpne ?_
  refine tl_c ta_int ?_
  refine tl_c ta_goto ?_
  refine tl_c ta_int ?_
  refine tl_c ta_istore ?_
  refine tl_c ta_iload ?_
  refine tl_c ta_ifeq ?_
  refine tl_c ta_iload ?_
  refine tl_c ta_int ?_
  refine tl_c ta_cmpeq ?_
  refine tl_c ta_iload ?_
  refine tl_c ta_int ?_
  refine tl_c ta_cmpne ?_
  refine tl_c ta_aload ?_
  refine tl_c ta_int ?_
  refine tl_c ta_cv ?_
  refine tl_c ta_aload ?_
  refine tl_c ta_ci ?_
  refine tl_c ta_int ?_
  refine tl_c ta_cmpeq ?_
  refine tl_c ta_aload ?_
  refine tl_c ta_ci ?_
  refine tl_c ta_int ?_
  refine tl_c ta_cmpne ?_
  refine tl_c ta_int ?_
  refine tl_c ta_iret ?_
  refine tl_c ta_aload ?_
  refine tl_c ta_iload ?_
  refine tl_c ta_ci ?_
  refine tl_c ta_cv ?_
  refine tl_c ta_aload ?_
  refine tl_c ta_iload ?_
  refine tl_c ta_cv ?_
  refine tl_c ta_int ?_
  refine tl_c ta_iret ?_
  refine tl_c ta_aload ?_
  refine tl_c ta_getI ?_
  refine tl_c ta_int ?_
  refine tl_c ta_cmpne ?_
  refine tl_c ta_aload ?_
  refine tl_c ta_getI ?_
  refine tl_c ta_int ?_
  refine tl_c ta_cmpeq ?_
  refine tl_c ta_aload ?_
  refine tl_c ta_getI ?_
  refine tl_c ta_int ?_
  refine tl_c ta_cmpeq ?_
  refine tl_c ta_int ?_
  refine tl_c ta_iret ?_
  refine tl_c ta_aload ?_
  refine tl_c ta_int ?_
  refine tl_c ta_cv ?_
  refine tl_c ta_aload ?_
  refine tl_c ta_getI ?_
  refine tl_c ta_int ?_
  refine tl_c ta_cmpne ?_
  refine tl_c ta_aload ?_
  refine tl_c ta_getI ?_
  refine tl_c ta_ifne ?_
  refine tl_c ta_int ?_
  refine tl_c ta_goto ?_
  refine tl_c ta_int ?_
  refine tl_c ta_iret ?_
  refine tl_c ta_aload ?_
  refine tl_c ta_getI ?_
  refine tl_c ta_ifne ?_
  refine tl_c ta_int ?_
  refine tl_c ta_iret ?_
  refine tl_c ta_aload ?_
  refine tl_c ta_dup ?_
  refine tl_c ta_getI ?_
  refine tl_c ta_int ?_
  refine tl_c ta_bin ?_
  refine tl_c ta_putI ?_
  refine tl_c ta_aload ?_
  refine tl_c ta_dup ?_
  refine tl_c ta_getI ?_
  refine tl_c ta_int ?_
  refine tl_c ta_bin ?_
  refine tl_c ta_putI ?_
  refine tl_c ta_int ?_
  refine tl_c ta_iret ?_
  exact trivial
set_option maxRecDepth 20000 in
theorem ok_X12_behind (l : Launch) : ce_OkL l cX12_behind RX12 2 (some .int) 4 0 0 pc_X12_behind 0 tb_X12_behind := by
  unfold tb_X12_behind
  refine ok_c (j := 1) rfl (ok_aload_n (j := ⟨0, by decide⟩) (pc := 0) rfl rfl (by decide +kernel)) ?_
  refine ok_c (j := 2) rfl (ok_bipush (n := 7) (pc := 1) rfl rfl (by decide +kernel) (by decide)) ?_
  refine ok_c (j := 3) rfl (ok_virtual (y := yX12_letsFrom) (n := 1) (d' := 3) (t := 20) (T := TX12) (N := 45) (ix := 147) is_cv (pc := 3) rfl rfl (by decide +kernel) (by decide) (ct_X12_letsFrom l) rfl (fun _ => rfl) ce_fV_rec wd_1010 wd_1012 wd_34 wd_75) ?_
  refine ok_c (j := 4) rfl (ok_aload_n (j := ⟨0, by decide⟩) (pc := 6) rfl rfl (by decide +kernel)) ?_
  refine ok_c (j := 5) rfl (ok_getI (ci := 12) (C := RX12) (T := TX12) (N := 45) (ix := 109) (pc := 7) rfl rfl (by decide +kernel) rfl (fun _ => rfl) rfl cw_X12 (by decide) rfl wd_845) ?_
  refine ok_c (j := 6) rfl (ok_bipush (n := 102) (pc := 10) rfl rfl (by decide +kernel) (by decide)) ?_
  refine ok_c (j := 7) rfl (ok_cmpne (off := 13) (tg := 25) (pc := 12) rfl rfl (by decide +kernel) rfl (by decide)) ?_
  refine ok_c (j := 8) rfl (ok_aload_n (j := ⟨0, by decide⟩) (pc := 15) rfl rfl (by decide +kernel)) ?_
  refine ok_c (j := 9) rfl (ok_getI (ci := 12) (C := RX12) (T := TX12) (N := 45) (ix := 112) (pc := 16) rfl rfl (by decide +kernel) rfl (fun _ => rfl) rfl cw_X12 (by decide) rfl wd_847) ?_
  refine ok_c (j := 10) rfl (ok_static (y := yX12_deedOf) (n := 1) (d' := 1) (ix := 150) is_ci (pc := 19) rfl rfl (by decide +kernel) (by decide) rfl (ct_X12_deedOf l) wd_1021 wd_1022 wd_75) ?_
  refine ok_c (j := 11) rfl (ok_goto (off := 50) (tg := 72) (pc := 22) rfl (by decide +kernel) rfl (by decide)) ?_
  refine ok_c (j := 12) rfl (ok_aload_n (j := ⟨0, by decide⟩) (pc := 25) rfl rfl (by decide +kernel)) ?_
  refine ok_c (j := 13) rfl (ok_getI (ci := 12) (C := RX12) (T := TX12) (N := 45) (ix := 109) (pc := 26) rfl rfl (by decide +kernel) rfl (fun _ => rfl) rfl cw_X12 (by decide) rfl wd_845) ?_
  refine ok_c (j := 14) rfl (ok_bipush (n := 101) (pc := 29) rfl rfl (by decide +kernel) (by decide)) ?_
  refine ok_c (j := 15) rfl (ok_cmpne (off := 17) (tg := 48) (pc := 31) rfl rfl (by decide +kernel) rfl (by decide)) ?_
  refine ok_c (j := 16) rfl (ok_aload_n (j := ⟨0, by decide⟩) (pc := 34) rfl rfl (by decide +kernel)) ?_
  refine ok_c (j := 17) rfl (ok_getI (ci := 12) (C := RX12) (T := TX12) (N := 45) (ix := 112) (pc := 35) rfl rfl (by decide +kernel) rfl (fun _ => rfl) rfl cw_X12 (by decide) rfl wd_847) ?_
  refine ok_c (j := 18) rfl (ok_bipush (n := 9) (pc := 38) rfl rfl (by decide +kernel) (by decide)) ?_
  refine ok_c (j := 19) rfl (ok_cmpne (off := 8) (tg := 48) (pc := 40) rfl rfl (by decide +kernel) rfl (by decide)) ?_
  refine ok_c (j := 20) rfl (ok_bipush (n := 7) (pc := 43) rfl rfl (by decide +kernel) (by decide)) ?_
  refine ok_c (j := 21) rfl (ok_goto (off := 27) (tg := 72) (pc := 45) rfl (by decide +kernel) rfl (by decide)) ?_
  refine ok_c (j := 22) rfl (ok_aload_n (j := ⟨0, by decide⟩) (pc := 48) rfl rfl (by decide +kernel)) ?_
  refine ok_c (j := 23) rfl (ok_getI (ci := 12) (C := RX12) (T := TX12) (N := 45) (ix := 109) (pc := 49) rfl rfl (by decide +kernel) rfl (fun _ => rfl) rfl cw_X12 (by decide) rfl wd_845) ?_
  refine ok_c (j := 24) rfl (ok_bipush (n := 101) (pc := 52) rfl rfl (by decide +kernel) (by decide)) ?_
  refine ok_c (j := 25) rfl (ok_cmpne (off := 17) (tg := 71) (pc := 54) rfl rfl (by decide +kernel) rfl (by decide)) ?_
  refine ok_c (j := 26) rfl (ok_aload_n (j := ⟨0, by decide⟩) (pc := 57) rfl rfl (by decide +kernel)) ?_
  refine ok_c (j := 27) rfl (ok_getI (ci := 12) (C := RX12) (T := TX12) (N := 45) (ix := 112) (pc := 58) rfl rfl (by decide +kernel) rfl (fun _ => rfl) rfl cw_X12 (by decide) rfl wd_847) ?_
  refine ok_c (j := 28) rfl (ok_bipush (n := 10) (pc := 61) rfl rfl (by decide +kernel) (by decide)) ?_
  refine ok_c (j := 29) rfl (ok_cmpne (off := 8) (tg := 71) (pc := 63) rfl rfl (by decide +kernel) rfl (by decide)) ?_
  refine ok_c (j := 30) rfl (ok_bipush (n := 6) (pc := 66) rfl rfl (by decide +kernel) (by decide)) ?_
  refine ok_c (j := 31) rfl (ok_goto (off := 4) (tg := 72) (pc := 68) rfl (by decide +kernel) rfl (by decide)) ?_
  refine ok_c (j := 32) rfl (ok_iconst (n := 0) (pc := 71) rfl rfl (by decide +kernel) (by decide)) ?_
  refine ok_c (j := 33) rfl (ok_istore_n (j := ⟨1, by decide⟩) (pc := 72) rfl rfl (by decide +kernel) (by decide)) ?_
  refine ok_c (j := 34) rfl (ok_iload_n (j := ⟨1, by decide⟩) (pc := 73) rfl rfl (by decide +kernel)) ?_
  refine ok_c (j := 35) rfl (ok_ifeq (off := 51) (tg := 125) (pc := 74) rfl rfl (by decide +kernel) rfl (by decide)) ?_
  refine ok_c (j := 36) rfl (ok_iload_n (j := ⟨1, by decide⟩) (pc := 77) rfl rfl (by decide +kernel)) ?_
  refine ok_c (j := 37) rfl (ok_iconst (n := 4) (pc := 78) rfl rfl (by decide +kernel) (by decide)) ?_
  refine ok_c (j := 38) rfl (ok_cmpeq (off := 8) (tg := 87) (pc := 79) rfl rfl (by decide +kernel) rfl (by decide)) ?_
  refine ok_c (j := 39) rfl (ok_iload_n (j := ⟨1, by decide⟩) (pc := 82) rfl rfl (by decide +kernel)) ?_
  refine ok_c (j := 40) rfl (ok_iconst (n := 5) (pc := 83) rfl rfl (by decide +kernel) (by decide)) ?_
  refine ok_c (j := 41) rfl (ok_cmpne (off := 26) (tg := 110) (pc := 84) rfl rfl (by decide +kernel) rfl (by decide)) ?_
  refine ok_c (j := 42) rfl (ok_aload_n (j := ⟨0, by decide⟩) (pc := 87) rfl rfl (by decide +kernel)) ?_
  refine ok_c (j := 43) rfl (ok_iconst (n := 5) (pc := 88) rfl rfl (by decide +kernel) (by decide)) ?_
  refine ok_c (j := 44) rfl (ok_virtual (y := yX12_letsFrom) (n := 1) (d' := 3) (t := 20) (T := TX12) (N := 45) (ix := 147) is_cv (pc := 89) rfl rfl (by decide +kernel) (by decide) (ct_X12_letsFrom l) rfl (fun _ => rfl) ce_fV_rec wd_1010 wd_1012 wd_34 wd_75) ?_
  refine ok_c (j := 45) rfl (ok_aload_n (j := ⟨0, by decide⟩) (pc := 92) rfl rfl (by decide +kernel)) ?_
  refine ok_c (j := 46) rfl (ok_virtual (y := yX12_top) (n := 0) (d' := 1) (t := 20) (T := TX12) (N := 45) (ix := 129) is_ci (pc := 93) rfl rfl (by decide +kernel) (by decide) (ct_X12_top l) rfl (fun _ => rfl) ce_fI_rec wd_998 wd_1000 wd_31 wd_75) ?_
  refine ok_c (j := 47) rfl (ok_iconst (n := 4) (pc := 96) rfl rfl (by decide +kernel) (by decide)) ?_
  refine ok_c (j := 48) rfl (ok_cmpeq (off := 11) (tg := 108) (pc := 97) rfl rfl (by decide +kernel) rfl (by decide)) ?_
  refine ok_c (j := 49) rfl (ok_aload_n (j := ⟨0, by decide⟩) (pc := 100) rfl rfl (by decide +kernel)) ?_
  refine ok_c (j := 50) rfl (ok_virtual (y := yX12_top) (n := 0) (d' := 1) (t := 20) (T := TX12) (N := 45) (ix := 129) is_ci (pc := 101) rfl rfl (by decide +kernel) (by decide) (ct_X12_top l) rfl (fun _ => rfl) ce_fI_rec wd_998 wd_1000 wd_31 wd_75) ?_
  refine ok_c (j := 51) rfl (ok_iconst (n := 5) (pc := 104) rfl rfl (by decide +kernel) (by decide)) ?_
  refine ok_c (j := 52) rfl (ok_cmpne (off := 13) (tg := 118) (pc := 105) rfl rfl (by decide +kernel) rfl (by decide)) ?_
  refine ok_c (j := 53) rfl (ok_iconst (n := (-1)) (pc := 108) rfl rfl (by decide +kernel) (by decide)) ?_
  refine ok_c (j := 54) rfl (ok_iret (pc := 109) rfl (by decide +kernel) rfl) ?_
  refine ok_c (j := 55) rfl (ok_aload_n (j := ⟨0, by decide⟩) (pc := 110) rfl rfl (by decide +kernel)) ?_
  refine ok_c (j := 56) rfl (ok_iload_n (j := ⟨1, by decide⟩) (pc := 111) rfl rfl (by decide +kernel)) ?_
  refine ok_c (j := 57) rfl (ok_static (y := yX12_heightOf) (n := 1) (d' := 1) (ix := 133) is_ci (pc := 112) rfl rfl (by decide +kernel) (by decide) rfl (ct_X12_heightOf l) wd_1014 wd_1015 wd_75) ?_
  refine ok_c (j := 58) rfl (ok_virtual (y := yX12_letsFrom) (n := 1) (d' := 3) (t := 20) (T := TX12) (N := 45) (ix := 147) is_cv (pc := 115) rfl rfl (by decide +kernel) (by decide) (ct_X12_letsFrom l) rfl (fun _ => rfl) ce_fV_rec wd_1010 wd_1012 wd_34 wd_75) ?_
  refine ok_c (j := 59) rfl (ok_aload_n (j := ⟨0, by decide⟩) (pc := 118) rfl rfl (by decide +kernel)) ?_
  refine ok_c (j := 60) rfl (ok_iload_n (j := ⟨1, by decide⟩) (pc := 119) rfl rfl (by decide +kernel)) ?_
  refine ok_c (j := 61) rfl (ok_virtual (y := yX12_holds) (n := 1) (d' := 1) (t := 20) (T := TX12) (N := 45) (ix := 144) is_cv (pc := 120) rfl rfl (by decide +kernel) (by decide) (ct_X12_holds l) rfl (fun _ => rfl) ce_fV_rec wd_1002 wd_1004 wd_32 wd_75) ?_
  refine ok_c (j := 62) rfl (ok_iconst (n := 1) (pc := 123) rfl rfl (by decide +kernel) (by decide)) ?_
  refine ok_c (j := 63) rfl (ok_iret (pc := 124) rfl (by decide +kernel) rfl) ?_
  refine ok_c (j := 64) rfl (ok_aload_n (j := ⟨0, by decide⟩) (pc := 125) rfl rfl (by decide +kernel)) ?_
  refine ok_c (j := 65) rfl (ok_getI (ci := 12) (C := RX12) (T := TX12) (N := 45) (ix := 109) (pc := 126) rfl rfl (by decide +kernel) rfl (fun _ => rfl) rfl cw_X12 (by decide) rfl wd_845) ?_
  refine ok_c (j := 66) rfl (ok_bipush (n := 102) (pc := 129) rfl rfl (by decide +kernel) (by decide)) ?_
  refine ok_c (j := 67) rfl (ok_cmpne (off := 21) (tg := 152) (pc := 131) rfl rfl (by decide +kernel) rfl (by decide)) ?_
  refine ok_c (j := 68) rfl (ok_aload_n (j := ⟨0, by decide⟩) (pc := 134) rfl rfl (by decide +kernel)) ?_
  refine ok_c (j := 69) rfl (ok_getI (ci := 12) (C := RX12) (T := TX12) (N := 45) (ix := 112) (pc := 135) rfl rfl (by decide +kernel) rfl (fun _ => rfl) rfl cw_X12 (by decide) rfl wd_847) ?_
  refine ok_c (j := 70) rfl (ok_bipush (n := 59) (pc := 138) rfl rfl (by decide +kernel) (by decide)) ?_
  refine ok_c (j := 71) rfl (ok_cmpeq (off := 14) (tg := 154) (pc := 140) rfl rfl (by decide +kernel) rfl (by decide)) ?_
  refine ok_c (j := 72) rfl (ok_aload_n (j := ⟨0, by decide⟩) (pc := 143) rfl rfl (by decide +kernel)) ?_
  refine ok_c (j := 73) rfl (ok_getI (ci := 12) (C := RX12) (T := TX12) (N := 45) (ix := 112) (pc := 144) rfl rfl (by decide +kernel) rfl (fun _ => rfl) rfl cw_X12 (by decide) rfl wd_847) ?_
  refine ok_c (j := 74) rfl (ok_bipush (n := 41) (pc := 147) rfl rfl (by decide +kernel) (by decide)) ?_
  refine ok_c (j := 75) rfl (ok_cmpeq (off := 5) (tg := 154) (pc := 149) rfl rfl (by decide +kernel) rfl (by decide)) ?_
  refine ok_c (j := 76) rfl (ok_iconst (n := (-1)) (pc := 152) rfl rfl (by decide +kernel) (by decide)) ?_
  refine ok_c (j := 77) rfl (ok_iret (pc := 153) rfl (by decide +kernel) rfl) ?_
  refine ok_c (j := 78) rfl (ok_aload_n (j := ⟨0, by decide⟩) (pc := 154) rfl rfl (by decide +kernel)) ?_
  refine ok_c (j := 79) rfl (ok_iconst (n := 1) (pc := 155) rfl rfl (by decide +kernel) (by decide)) ?_
  refine ok_c (j := 80) rfl (ok_virtual (y := yX12_letsFrom) (n := 1) (d' := 3) (t := 20) (T := TX12) (N := 45) (ix := 147) is_cv (pc := 156) rfl rfl (by decide +kernel) (by decide) (ct_X12_letsFrom l) rfl (fun _ => rfl) ce_fV_rec wd_1010 wd_1012 wd_34 wd_75) ?_
  refine ok_c (j := 81) rfl (ok_aload_n (j := ⟨0, by decide⟩) (pc := 159) rfl rfl (by decide +kernel)) ?_
  refine ok_c (j := 82) rfl (ok_getI (ci := 12) (C := RX12) (T := TX12) (N := 45) (ix := 112) (pc := 160) rfl rfl (by decide +kernel) rfl (fun _ => rfl) rfl cw_X12 (by decide) rfl wd_847) ?_
  refine ok_c (j := 83) rfl (ok_bipush (n := 59) (pc := 163) rfl rfl (by decide +kernel) (by decide)) ?_
  refine ok_c (j := 84) rfl (ok_cmpne (off := 16) (tg := 181) (pc := 165) rfl rfl (by decide +kernel) rfl (by decide)) ?_
  refine ok_c (j := 85) rfl (ok_aload_n (j := ⟨0, by decide⟩) (pc := 168) rfl rfl (by decide +kernel)) ?_
  refine ok_c (j := 86) rfl (ok_getI (ci := 12) (C := RX12) (T := TX12) (N := 45) (ix := 123) (pc := 169) rfl rfl (by decide +kernel) rfl (fun _ => rfl) rfl cw_X12 (by decide) rfl wd_849) ?_
  refine ok_c (j := 87) rfl (ok_ifne (off := 7) (tg := 179) (pc := 172) rfl rfl (by decide +kernel) rfl (by decide)) ?_
  refine ok_c (j := 88) rfl (ok_iconst (n := 2) (pc := 175) rfl rfl (by decide +kernel) (by decide)) ?_
  refine ok_c (j := 89) rfl (ok_goto (off := 4) (tg := 180) (pc := 176) rfl (by decide +kernel) rfl (by decide)) ?_
  refine ok_c (j := 90) rfl (ok_iconst (n := (-1)) (pc := 179) rfl rfl (by decide +kernel) (by decide)) ?_
  refine ok_c (j := 91) rfl (ok_iret (pc := 180) rfl (by decide +kernel) rfl) ?_
  refine ok_c (j := 92) rfl (ok_aload_n (j := ⟨0, by decide⟩) (pc := 181) rfl rfl (by decide +kernel)) ?_
  refine ok_c (j := 93) rfl (ok_getI (ci := 12) (C := RX12) (T := TX12) (N := 45) (ix := 123) (pc := 182) rfl rfl (by decide +kernel) rfl (fun _ => rfl) rfl cw_X12 (by decide) rfl wd_849) ?_
  refine ok_c (j := 94) rfl (ok_ifne (off := 5) (tg := 190) (pc := 185) rfl rfl (by decide +kernel) rfl (by decide)) ?_
  refine ok_c (j := 95) rfl (ok_iconst (n := (-1)) (pc := 188) rfl rfl (by decide +kernel) (by decide)) ?_
  refine ok_c (j := 96) rfl (ok_iret (pc := 189) rfl (by decide +kernel) rfl) ?_
  refine ok_c (j := 97) rfl (ok_aload_n (j := ⟨0, by decide⟩) (pc := 190) rfl rfl (by decide +kernel)) ?_
  refine ok_c (j := 98) rfl (ok_dup (pc := 191) rfl rfl (by decide +kernel)) ?_
  refine ok_c (j := 99) rfl (ok_getI (ci := 12) (C := RX12) (T := TX12) (N := 45) (ix := 123) (pc := 192) rfl rfl (by decide +kernel) rfl (fun _ => rfl) rfl cw_X12 (by decide) rfl wd_849) ?_
  refine ok_c (j := 100) rfl (ok_iconst (n := 1) (pc := 195) rfl rfl (by decide +kernel) (by decide)) ?_
  refine ok_c (j := 101) rfl (ok_isub (pc := 196) rfl rfl (by decide +kernel)) ?_
  refine ok_c (j := 102) rfl (ok_putI (ci := 12) (C := RX12) (T := TX12) (N := 45) (ty := tyX12) (ix := 123) (pc := 197) rfl rfl (by decide +kernel) rfl (fun _ => rfl) rfl cw_X12 tyX12_ok nmX12 (by decide) rfl rfl rfl wd_849) ?_
  refine ok_c (j := 103) rfl (ok_aload_n (j := ⟨0, by decide⟩) (pc := 200) rfl rfl (by decide +kernel)) ?_
  refine ok_c (j := 104) rfl (ok_dup (pc := 201) rfl rfl (by decide +kernel)) ?_
  refine ok_c (j := 105) rfl (ok_getI (ci := 12) (C := RX12) (T := TX12) (N := 45) (ix := 126) (pc := 202) rfl rfl (by decide +kernel) rfl (fun _ => rfl) rfl cw_X12 (by decide) rfl wd_848) ?_
  refine ok_c (j := 106) rfl (ok_iconst (n := 1) (pc := 205) rfl rfl (by decide +kernel) (by decide)) ?_
  refine ok_c (j := 107) rfl (ok_isub (pc := 206) rfl rfl (by decide +kernel)) ?_
  refine ok_c (j := 108) rfl (ok_putI (ci := 12) (C := RX12) (T := TX12) (N := 45) (ty := tyX12) (ix := 126) (pc := 207) rfl rfl (by decide +kernel) rfl (fun _ => rfl) rfl cw_X12 tyX12_ok nmX12 (by decide) rfl rfl rfl wd_848) ?_
  refine ok_c (j := 109) rfl (ok_iconst (n := 0) (pc := 210) rfl rfl (by decide +kernel) (by decide)) ?_
  refine ok_c (j := 110) rfl (ok_iret (pc := 211) rfl (by decide +kernel) rfl) ?_
  exact trivial
noncomputable def F_X12_behind := ce_fI tb_X12_behind 2 (some 20)
theorem ct_X12_behind (l : Launch) : ce_callee l yX12_behind 0 4 0 0 (ce_wI F_X12_behind) := ⟨_, _, _, ce_ctr_of (pcs := pc_X12_behind) (by decide +kernel) rfl (ok_X12_behind l ) ce_fI_run, ce_tw_at wd_1009 rfl, by decide, by decide +kernel, by decide +kernel, by decide +kernel⟩
def pc_X12_begins : List Nat := [0, 1, 4, 5, 6, 7, 8, 11, 12, 13, 14, 15, 18, 19, 20, 21, 22, 25, 26, 27, 28, 29, 30, 31, 34, 35, 36, 37, 38, 41, 44, 47, 48]
noncomputable def tb_X12_begins : List ce_Op := [o_aload 0, o_getS 20 26 (fun _ => 0), o_iload 1, o_int 0, o_ist 26, o_aload 0, o_getS 20 25 (fun _ => 0), o_iload 1, o_int 0, o_ist 25, o_aload 0, o_getS 20 27 (fun _ => 0), o_iload 1, o_int (-1), o_ist 27, o_aload 0, o_getS 20 24 (fun _ => 0), o_iload 1, o_aload 0, o_int 1, o_iload 1, o_int 0, o_int 0, o_ci 5 F_X12_says 0 0 0 0, o_aload 0, o_iload 1, o_int 0, o_int 0, o_ci 4 F_X12_leastOf 0 0 0 0, o_int 1999, o_ci 3 F_X12_bounded 0 0 0 0, o_ist 24, o_vret]
theorem tl_X12_begins : ce_TL tb_X12_begins := by
  unfold tb_X12_begins
  refine tl_c ta_aload ?_
  refine tl_c ta_getS ?_
  refine tl_c ta_iload ?_
  refine tl_c ta_int ?_
  refine tl_c ta_ist ?_
  refine tl_c ta_aload ?_
  refine tl_c ta_getS ?_
  refine tl_c ta_iload ?_
  refine tl_c ta_int ?_
  refine tl_c ta_ist ?_
  refine tl_c ta_aload ?_
  refine tl_c ta_getS ?_
  refine tl_c ta_iload ?_
  refine tl_c ta_int ?_
  refine tl_c ta_ist ?_
  refine tl_c ta_aload ?_
  refine tl_c ta_getS ?_
  refine tl_c ta_iload ?_
  refine tl_c ta_aload ?_
  refine tl_c ta_int ?_
  refine tl_c ta_iload ?_
  refine tl_c ta_int ?_
  refine tl_c ta_int ?_
  refine tl_c ta_ci ?_
  refine tl_c ta_aload ?_
  refine tl_c ta_iload ?_
  refine tl_c ta_int ?_
  refine tl_c ta_int ?_
  refine tl_c ta_ci ?_
  refine tl_c ta_int ?_
  refine tl_c ta_ci ?_
  refine tl_c ta_ist ?_
  refine tl_c ta_vret ?_
  exact trivial
set_option maxRecDepth 20000 in
theorem ok_X12_begins (l : Launch) : ce_OkL l cX12_begins RX12 2 none 4 0 0 pc_X12_begins 0 tb_X12_begins := by
  unfold tb_X12_begins
  refine ok_c (j := 1) rfl (ok_aload_n (j := ⟨0, by decide⟩) (pc := 0) rfl rfl (by decide +kernel)) ?_
  refine ok_c (j := 2) rfl (ok_getS (f := 5) (ci := 12) (C := RX12) (T := TX12) (N := 45) (ix := 25) (pc := 1) rfl rfl (by decide +kernel) rfl (fun _ => rfl) rfl cw_X12 (by decide) rfl wd_829) ?_
  refine ok_c (j := 3) rfl (ok_iload_n (j := ⟨1, by decide⟩) (pc := 4) rfl rfl (by decide +kernel)) ?_
  refine ok_c (j := 4) rfl (ok_iconst (n := 0) (pc := 5) rfl rfl (by decide +kernel) (by decide)) ?_
  refine ok_c (j := 5) rfl (ok_ist (pc := 6) rfl rfl (by decide +kernel) rfl) ?_
  refine ok_c (j := 6) rfl (ok_aload_n (j := ⟨0, by decide⟩) (pc := 7) rfl rfl (by decide +kernel)) ?_
  refine ok_c (j := 7) rfl (ok_getS (f := 4) (ci := 12) (C := RX12) (T := TX12) (N := 45) (ix := 22) (pc := 8) rfl rfl (by decide +kernel) rfl (fun _ => rfl) rfl cw_X12 (by decide) rfl wd_828) ?_
  refine ok_c (j := 8) rfl (ok_iload_n (j := ⟨1, by decide⟩) (pc := 11) rfl rfl (by decide +kernel)) ?_
  refine ok_c (j := 9) rfl (ok_iconst (n := 0) (pc := 12) rfl rfl (by decide +kernel) (by decide)) ?_
  refine ok_c (j := 10) rfl (ok_ist (pc := 13) rfl rfl (by decide +kernel) rfl) ?_
  refine ok_c (j := 11) rfl (ok_aload_n (j := ⟨0, by decide⟩) (pc := 14) rfl rfl (by decide +kernel)) ?_
  refine ok_c (j := 12) rfl (ok_getS (f := 6) (ci := 12) (C := RX12) (T := TX12) (N := 45) (ix := 28) (pc := 15) rfl rfl (by decide +kernel) rfl (fun _ => rfl) rfl cw_X12 (by decide) rfl wd_830) ?_
  refine ok_c (j := 13) rfl (ok_iload_n (j := ⟨1, by decide⟩) (pc := 18) rfl rfl (by decide +kernel)) ?_
  refine ok_c (j := 14) rfl (ok_iconst (n := (-1)) (pc := 19) rfl rfl (by decide +kernel) (by decide)) ?_
  refine ok_c (j := 15) rfl (ok_ist (pc := 20) rfl rfl (by decide +kernel) rfl) ?_
  refine ok_c (j := 16) rfl (ok_aload_n (j := ⟨0, by decide⟩) (pc := 21) rfl rfl (by decide +kernel)) ?_
  refine ok_c (j := 17) rfl (ok_getS (f := 3) (ci := 12) (C := RX12) (T := TX12) (N := 45) (ix := 19) (pc := 22) rfl rfl (by decide +kernel) rfl (fun _ => rfl) rfl cw_X12 (by decide) rfl wd_827) ?_
  refine ok_c (j := 18) rfl (ok_iload_n (j := ⟨1, by decide⟩) (pc := 25) rfl rfl (by decide +kernel)) ?_
  refine ok_c (j := 19) rfl (ok_aload_n (j := ⟨0, by decide⟩) (pc := 26) rfl rfl (by decide +kernel)) ?_
  refine ok_c (j := 20) rfl (ok_iconst (n := 1) (pc := 27) rfl rfl (by decide +kernel) (by decide)) ?_
  refine ok_c (j := 21) rfl (ok_iload_n (j := ⟨1, by decide⟩) (pc := 28) rfl rfl (by decide +kernel)) ?_
  refine ok_c (j := 22) rfl (ok_iconst (n := 0) (pc := 29) rfl rfl (by decide +kernel) (by decide)) ?_
  refine ok_c (j := 23) rfl (ok_iconst (n := 0) (pc := 30) rfl rfl (by decide +kernel) (by decide)) ?_
  refine ok_c (j := 24) rfl (ok_virtual (y := yX12_says) (n := 4) (d' := 2) (t := 20) (T := TX12) (N := 45) (ix := 176) is_ci (pc := 31) rfl rfl (by decide +kernel) (by decide) (ct_X12_says l) rfl (fun _ => rfl) ce_fI_rec wd_1040 wd_1042 wd_38 wd_75) ?_
  refine ok_c (j := 25) rfl (ok_aload_n (j := ⟨0, by decide⟩) (pc := 34) rfl rfl (by decide +kernel)) ?_
  refine ok_c (j := 26) rfl (ok_iload_n (j := ⟨1, by decide⟩) (pc := 35) rfl rfl (by decide +kernel)) ?_
  refine ok_c (j := 27) rfl (ok_iconst (n := 0) (pc := 36) rfl rfl (by decide +kernel) (by decide)) ?_
  refine ok_c (j := 28) rfl (ok_iconst (n := 0) (pc := 37) rfl rfl (by decide +kernel) (by decide)) ?_
  refine ok_c (j := 29) rfl (ok_virtual (y := yX12_leastOf) (n := 3) (d' := 3) (t := 20) (T := TX12) (N := 45) (ix := 182) is_ci (pc := 38) rfl rfl (by decide +kernel) (by decide) (ct_X12_leastOf l) rfl (fun _ => rfl) ce_fI_rec wd_1051 wd_1053 wd_40 wd_75) ?_
  refine ok_c (j := 30) rfl (ok_sipush (n := 1999) (pc := 41) rfl rfl (by decide +kernel) (by decide)) ?_
  refine ok_c (j := 31) rfl (ok_static (y := yX12_bounded) (n := 3) (d' := 1) (ix := 179) is_ci (pc := 44) rfl rfl (by decide +kernel) (by decide) rfl (ct_X12_bounded l) wd_1055 wd_1056 wd_75) ?_
  refine ok_c (j := 32) rfl (ok_ist (pc := 47) rfl rfl (by decide +kernel) rfl) ?_
  refine ok_c (j := 33) rfl (ok_vret (pc := 48) rfl (by decide +kernel) rfl) ?_
  exact trivial
noncomputable def F_X12_begins := ce_fV tb_X12_begins 2 (some 20)
theorem ct_X12_begins (l : Launch) : ce_callee l yX12_begins 1 4 0 0 (ce_wV F_X12_begins) := ⟨_, _, _, ce_ctr_of (pcs := pc_X12_begins) (by decide +kernel) rfl (ok_X12_begins l ) ce_fV_run, ce_tw_at wd_1039 rfl, by decide, by decide +kernel, by decide +kernel, by decide +kernel⟩
def pc_X12_told : List Nat := [0, 1, 2, 5, 8, 10, 11, 12, 64, 65, 68, 69, 70, 71, 72, 75, 76, 77, 78, 79, 82, 83, 84, 85, 86, 89, 90, 91, 92, 93, 96, 97, 98, 99, 100, 103, 104, 105, 106, 107, 110, 111, 112, 113, 114, 115, 116, 117, 120, 121, 122, 125, 126, 127, 128, 131, 132, 134]
noncomputable def tb_X12_told : List ce_Op := [o_aload 0, o_iload 1, o_ci 2 F_X12_isSeller 0 0 0 0, o_ifne 6, o_int (-2), o_iret, o_iload 2, o_sw [(0, 8), (1, 13), (2, 18), (3, 23), (4, 28), (5, 33), (6, 38), (7, 43), (8, 52)] 56, o_aload 0, o_getS 20 21 (fun _ => 0), o_iload 1, o_ild 21, o_iret, o_aload 0, o_getS 20 22 (fun _ => 0), o_iload 1, o_ild 22, o_iret, o_aload 0, o_getS 20 23 (fun _ => 0), o_iload 1, o_ild 23, o_iret, o_aload 0, o_getS 20 24 (fun _ => 0), o_iload 1, o_ild 24, o_iret, o_aload 0, o_getS 20 25 (fun _ => 0), o_iload 1, o_ild 25, o_iret, o_aload 0, o_getS 20 26 (fun _ => 0), o_iload 1, o_ild 26, o_iret, o_aload 0, o_getS 20 27 (fun _ => 0), o_iload 1, o_ild 27, o_iret, o_aload 0, o_iload 1, o_int 0, o_aload 0, o_getS 20 24 (fun _ => 0), o_iload 1, o_ild 24, o_ci 4 F_X12_leastOf 0 0 0 0, o_iret, o_aload 0, o_iload 1, o_ci 2 F_X12_staysOf 0 0 0 0, o_iret, o_int (-2), o_iret]
theorem tl_X12_told : ce_TL tb_X12_told := by
  unfold tb_X12_told
  refine tl_c ta_aload ?_
  refine tl_c ta_iload ?_
  refine tl_c ta_ci ?_
  refine tl_c ta_ifne ?_
  refine tl_c ta_int ?_
  refine tl_c ta_iret ?_
  refine tl_c ta_iload ?_
  refine tl_c ta_sw ?_
  refine tl_c ta_aload ?_
  refine tl_c ta_getS ?_
  refine tl_c ta_iload ?_
  refine tl_c ta_ild ?_
  refine tl_c ta_iret ?_
  refine tl_c ta_aload ?_
  refine tl_c ta_getS ?_
  refine tl_c ta_iload ?_
  refine tl_c ta_ild ?_
  refine tl_c ta_iret ?_
  refine tl_c ta_aload ?_
  refine tl_c ta_getS ?_
  refine tl_c ta_iload ?_
  refine tl_c ta_ild ?_
  refine tl_c ta_iret ?_
  refine tl_c ta_aload ?_
  refine tl_c ta_getS ?_
  refine tl_c ta_iload ?_
  refine tl_c ta_ild ?_
  refine tl_c ta_iret ?_
  refine tl_c ta_aload ?_
  refine tl_c ta_getS ?_
  refine tl_c ta_iload ?_
  refine tl_c ta_ild ?_
  refine tl_c ta_iret ?_
  refine tl_c ta_aload ?_
  refine tl_c ta_getS ?_
  refine tl_c ta_iload ?_
  refine tl_c ta_ild ?_
  refine tl_c ta_iret ?_
  refine tl_c ta_aload ?_
  refine tl_c ta_getS ?_
  refine tl_c ta_iload ?_
  refine tl_c ta_ild ?_
  refine tl_c ta_iret ?_
  refine tl_c ta_aload ?_
  refine tl_c ta_iload ?_
  refine tl_c ta_int ?_
  refine tl_c ta_aload ?_
  refine tl_c ta_getS ?_
  refine tl_c ta_iload ?_
  refine tl_c ta_ild ?_
  refine tl_c ta_ci ?_
  refine tl_c ta_iret ?_
  refine tl_c ta_aload ?_
  refine tl_c ta_iload ?_
  refine tl_c ta_ci ?_
  refine tl_c ta_iret ?_
  refine tl_c ta_int ?_
  refine tl_c ta_iret ?_
  exact trivial
set_option maxRecDepth 20000 in
theorem ok_X12_told (l : Launch) : ce_OkL l cX12_told RX12 3 (some .int) 4 0 0 pc_X12_told 0 tb_X12_told := by
  unfold tb_X12_told
  refine ok_c (j := 1) rfl (ok_aload_n (j := ⟨0, by decide⟩) (pc := 0) rfl rfl (by decide +kernel)) ?_
  refine ok_c (j := 2) rfl (ok_iload_n (j := ⟨1, by decide⟩) (pc := 1) rfl rfl (by decide +kernel)) ?_
  refine ok_c (j := 3) rfl (ok_virtual (y := yX12_isSeller) (n := 1) (d' := 1) (t := 20) (T := TX12) (N := 45) (ix := 192) is_ci (pc := 2) rfl rfl (by decide +kernel) (by decide) (ct_X12_isSeller l) rfl (fun _ => rfl) ce_fI_rec wd_1062 wd_1064 wd_41 wd_75) ?_
  refine ok_c (j := 4) rfl (ok_ifne (off := 6) (tg := 11) (pc := 5) rfl rfl (by decide +kernel) rfl (by decide)) ?_
  refine ok_c (j := 5) rfl (ok_bipush (n := (-2)) (pc := 8) rfl rfl (by decide +kernel) (by decide)) ?_
  refine ok_c (j := 6) rfl (ok_iret (pc := 10) rfl (by decide +kernel) rfl) ?_
  refine ok_c (j := 7) rfl (ok_iload_n (j := ⟨2, by decide⟩) (pc := 11) rfl rfl (by decide +kernel)) ?_
  refine ok_c (j := 8) rfl (ok_sw (lo := 0) (hi := 8) (dflt := 120) (offs := #[52, 59, 66, 73, 80, 87, 94, 101, 114]) (len := 52) (pc := 12) rfl (by decide +kernel) (by decide +kernel) (by decide) (by decide)) ?_
  refine ok_c (j := 9) rfl (ok_aload_n (j := ⟨0, by decide⟩) (pc := 64) rfl rfl (by decide +kernel)) ?_
  refine ok_c (j := 10) rfl (ok_getS (f := 0) (ci := 12) (C := RX12) (T := TX12) (N := 45) (ix := 7) (pc := 65) rfl rfl (by decide +kernel) rfl (fun _ => rfl) rfl cw_X12 (by decide) rfl wd_824) ?_
  refine ok_c (j := 11) rfl (ok_iload_n (j := ⟨1, by decide⟩) (pc := 68) rfl rfl (by decide +kernel)) ?_
  refine ok_c (j := 12) rfl (ok_ild (pc := 69) rfl rfl (by decide +kernel) rfl) ?_
  refine ok_c (j := 13) rfl (ok_iret (pc := 70) rfl (by decide +kernel) rfl) ?_
  refine ok_c (j := 14) rfl (ok_aload_n (j := ⟨0, by decide⟩) (pc := 71) rfl rfl (by decide +kernel)) ?_
  refine ok_c (j := 15) rfl (ok_getS (f := 1) (ci := 12) (C := RX12) (T := TX12) (N := 45) (ix := 13) (pc := 72) rfl rfl (by decide +kernel) rfl (fun _ => rfl) rfl cw_X12 (by decide) rfl wd_825) ?_
  refine ok_c (j := 16) rfl (ok_iload_n (j := ⟨1, by decide⟩) (pc := 75) rfl rfl (by decide +kernel)) ?_
  refine ok_c (j := 17) rfl (ok_ild (pc := 76) rfl rfl (by decide +kernel) rfl) ?_
  refine ok_c (j := 18) rfl (ok_iret (pc := 77) rfl (by decide +kernel) rfl) ?_
  refine ok_c (j := 19) rfl (ok_aload_n (j := ⟨0, by decide⟩) (pc := 78) rfl rfl (by decide +kernel)) ?_
  refine ok_c (j := 20) rfl (ok_getS (f := 2) (ci := 12) (C := RX12) (T := TX12) (N := 45) (ix := 16) (pc := 79) rfl rfl (by decide +kernel) rfl (fun _ => rfl) rfl cw_X12 (by decide) rfl wd_826) ?_
  refine ok_c (j := 21) rfl (ok_iload_n (j := ⟨1, by decide⟩) (pc := 82) rfl rfl (by decide +kernel)) ?_
  refine ok_c (j := 22) rfl (ok_ild (pc := 83) rfl rfl (by decide +kernel) rfl) ?_
  refine ok_c (j := 23) rfl (ok_iret (pc := 84) rfl (by decide +kernel) rfl) ?_
  refine ok_c (j := 24) rfl (ok_aload_n (j := ⟨0, by decide⟩) (pc := 85) rfl rfl (by decide +kernel)) ?_
  refine ok_c (j := 25) rfl (ok_getS (f := 3) (ci := 12) (C := RX12) (T := TX12) (N := 45) (ix := 19) (pc := 86) rfl rfl (by decide +kernel) rfl (fun _ => rfl) rfl cw_X12 (by decide) rfl wd_827) ?_
  refine ok_c (j := 26) rfl (ok_iload_n (j := ⟨1, by decide⟩) (pc := 89) rfl rfl (by decide +kernel)) ?_
  refine ok_c (j := 27) rfl (ok_ild (pc := 90) rfl rfl (by decide +kernel) rfl) ?_
  refine ok_c (j := 28) rfl (ok_iret (pc := 91) rfl (by decide +kernel) rfl) ?_
  refine ok_c (j := 29) rfl (ok_aload_n (j := ⟨0, by decide⟩) (pc := 92) rfl rfl (by decide +kernel)) ?_
  refine ok_c (j := 30) rfl (ok_getS (f := 4) (ci := 12) (C := RX12) (T := TX12) (N := 45) (ix := 22) (pc := 93) rfl rfl (by decide +kernel) rfl (fun _ => rfl) rfl cw_X12 (by decide) rfl wd_828) ?_
  refine ok_c (j := 31) rfl (ok_iload_n (j := ⟨1, by decide⟩) (pc := 96) rfl rfl (by decide +kernel)) ?_
  refine ok_c (j := 32) rfl (ok_ild (pc := 97) rfl rfl (by decide +kernel) rfl) ?_
  refine ok_c (j := 33) rfl (ok_iret (pc := 98) rfl (by decide +kernel) rfl) ?_
  refine ok_c (j := 34) rfl (ok_aload_n (j := ⟨0, by decide⟩) (pc := 99) rfl rfl (by decide +kernel)) ?_
  refine ok_c (j := 35) rfl (ok_getS (f := 5) (ci := 12) (C := RX12) (T := TX12) (N := 45) (ix := 25) (pc := 100) rfl rfl (by decide +kernel) rfl (fun _ => rfl) rfl cw_X12 (by decide) rfl wd_829) ?_
  refine ok_c (j := 36) rfl (ok_iload_n (j := ⟨1, by decide⟩) (pc := 103) rfl rfl (by decide +kernel)) ?_
  refine ok_c (j := 37) rfl (ok_ild (pc := 104) rfl rfl (by decide +kernel) rfl) ?_
  refine ok_c (j := 38) rfl (ok_iret (pc := 105) rfl (by decide +kernel) rfl) ?_
  refine ok_c (j := 39) rfl (ok_aload_n (j := ⟨0, by decide⟩) (pc := 106) rfl rfl (by decide +kernel)) ?_
  refine ok_c (j := 40) rfl (ok_getS (f := 6) (ci := 12) (C := RX12) (T := TX12) (N := 45) (ix := 28) (pc := 107) rfl rfl (by decide +kernel) rfl (fun _ => rfl) rfl cw_X12 (by decide) rfl wd_830) ?_
  refine ok_c (j := 41) rfl (ok_iload_n (j := ⟨1, by decide⟩) (pc := 110) rfl rfl (by decide +kernel)) ?_
  refine ok_c (j := 42) rfl (ok_ild (pc := 111) rfl rfl (by decide +kernel) rfl) ?_
  refine ok_c (j := 43) rfl (ok_iret (pc := 112) rfl (by decide +kernel) rfl) ?_
  refine ok_c (j := 44) rfl (ok_aload_n (j := ⟨0, by decide⟩) (pc := 113) rfl rfl (by decide +kernel)) ?_
  refine ok_c (j := 45) rfl (ok_iload_n (j := ⟨1, by decide⟩) (pc := 114) rfl rfl (by decide +kernel)) ?_
  refine ok_c (j := 46) rfl (ok_iconst (n := 0) (pc := 115) rfl rfl (by decide +kernel) (by decide)) ?_
  refine ok_c (j := 47) rfl (ok_aload_n (j := ⟨0, by decide⟩) (pc := 116) rfl rfl (by decide +kernel)) ?_
  refine ok_c (j := 48) rfl (ok_getS (f := 3) (ci := 12) (C := RX12) (T := TX12) (N := 45) (ix := 19) (pc := 117) rfl rfl (by decide +kernel) rfl (fun _ => rfl) rfl cw_X12 (by decide) rfl wd_827) ?_
  refine ok_c (j := 49) rfl (ok_iload_n (j := ⟨1, by decide⟩) (pc := 120) rfl rfl (by decide +kernel)) ?_
  refine ok_c (j := 50) rfl (ok_ild (pc := 121) rfl rfl (by decide +kernel) rfl) ?_
  refine ok_c (j := 51) rfl (ok_virtual (y := yX12_leastOf) (n := 3) (d' := 3) (t := 20) (T := TX12) (N := 45) (ix := 182) is_ci (pc := 122) rfl rfl (by decide +kernel) (by decide) (ct_X12_leastOf l) rfl (fun _ => rfl) ce_fI_rec wd_1051 wd_1053 wd_40 wd_75) ?_
  refine ok_c (j := 52) rfl (ok_iret (pc := 125) rfl (by decide +kernel) rfl) ?_
  refine ok_c (j := 53) rfl (ok_aload_n (j := ⟨0, by decide⟩) (pc := 126) rfl rfl (by decide +kernel)) ?_
  refine ok_c (j := 54) rfl (ok_iload_n (j := ⟨1, by decide⟩) (pc := 127) rfl rfl (by decide +kernel)) ?_
  refine ok_c (j := 55) rfl (ok_virtual (y := yX12_staysOf) (n := 1) (d' := 1) (t := 20) (T := TX12) (N := 45) (ix := 195) is_ci (pc := 128) rfl rfl (by decide +kernel) (by decide) (ct_X12_staysOf l) rfl (fun _ => rfl) ce_fI_rec wd_1074 wd_1076 wd_42 wd_75) ?_
  refine ok_c (j := 56) rfl (ok_iret (pc := 131) rfl (by decide +kernel) rfl) ?_
  refine ok_c (j := 57) rfl (ok_bipush (n := (-2)) (pc := 132) rfl rfl (by decide +kernel) (by decide)) ?_
  refine ok_c (j := 58) rfl (ok_iret (pc := 134) rfl (by decide +kernel) rfl) ?_
  exact trivial
noncomputable def F_X12_told := ce_fI tb_X12_told 3 (some 20)
theorem ct_X12_told (l : Launch) : ce_callee l yX12_told 2 4 0 0 (ce_wI F_X12_told) := ⟨_, _, _, ce_ctr_of (pcs := pc_X12_told) (by decide +kernel) rfl (ok_X12_told l ) ce_fI_run, ce_tw_at wd_1073 rfl, by decide, by decide +kernel, by decide +kernel, by decide +kernel⟩
def pc_X12_speaks : List Nat := [0, 1, 4, 5, 6, 7, 8, 9, 10, 11, 12, 13, 14, 17, 18, 19, 22, 23, 24, 27, 28, 29, 30, 31, 32, 35, 36, 38, 39, 42, 43, 44, 45, 48, 50, 51, 52, 53, 54, 55, 58, 59, 60, 63, 64, 66, 69, 70, 72, 74, 75, 78, 79, 82, 84, 86, 88, 89, 92, 93, 94, 97, 98, 101, 102, 103, 106, 108, 110, 111, 112, 113, 114, 116, 119, 122, 123, 126, 127, 128, 129, 130, 133, 134, 135, 136, 139, 140, 143, 144, 145, 146, 147, 150, 153, 154, 157, 158, 159, 160, 163, 164, 167, 168, 170, 171, 172, 175, 176, 177]
noncomputable def tb_X12_speaks : List ce_Op := [o_aload 0, o_getS 20 25 (fun _ => 0), o_iload 1, o_dup2, o_ild 25, o_int 1, o_bin q_add, o_ist 25, o_aload 0, o_iload 1, o_iload 2, o_aload 0, o_getS 20 24 (fun _ => 0), o_iload 1, o_ild 24, o_ci 4 F_X12_leastOf 0 0 0 0, o_istore 3, o_aload 0, o_getS 20 24 (fun _ => 0), o_iload 1, o_ild 24, o_aload 0, o_iload 1, o_iload 2, o_ci 3 F_X12_stepsOf 0 0 0 0, o_bin q_sub, o_istore 4, o_aload 0, o_getS 20 25 (fun _ => 0), o_iload 1, o_ild 25, o_int 1, o_cmpne 48, o_iload 4, o_aload 0, o_int 2, o_iload 1, o_iload 2, o_aload 0, o_getS 20 24 (fun _ => 0), o_iload 1, o_ild 24, o_ci 5 F_X12_says 0 0 0 0, o_int 0, o_int 99, o_ci 3 F_X12_bounded 0 0 0 0, o_bin q_add, o_istore 4, o_iload 4, o_iload 3, o_cmpge 53, o_iload 3, o_goto 54, o_iload 4, o_istore 4, o_iload 4, o_aload 0, o_getS 20 24 (fun _ => 0), o_iload 1, o_ild 24, o_cmple 66, o_aload 0, o_getS 20 24 (fun _ => 0), o_iload 1, o_ild 24, o_goto 67, o_iload 4, o_istore 4, o_aload 0, o_iload 1, o_iload 2, o_iload 3, o_iload 4, o_ci 5 F_X12_doesTake 0 0 0 0, o_ifeq 86, o_aload 0, o_getS 20 26 (fun _ => 0), o_iload 1, o_int 1, o_ist 26, o_aload 0, o_getS 20 27 (fun _ => 0), o_iload 1, o_iload 2, o_ist 27, o_goto 105, o_aload 0, o_getS 20 25 (fun _ => 0), o_iload 1, o_ild 25, o_aload 0, o_iload 1, o_ci 2 F_X12_staysOf 0 0 0 0, o_cmplt 100, o_aload 0, o_getS 20 26 (fun _ => 0), o_iload 1, o_int 2, o_ist 26, o_goto 105, o_aload 0, o_getS 20 24 (fun _ => 0), o_iload 1, o_iload 4, o_ist 24, o_aload 0, o_getS 20 26 (fun _ => 0), o_iload 1, o_ild 26, o_iret]
theorem tl_X12_speaks : ce_TL tb_X12_speaks := by
  unfold tb_X12_speaks
  refine tl_c ta_aload ?_
  refine tl_c ta_getS ?_
  refine tl_c ta_iload ?_
  refine tl_c ta_dup2 ?_
  refine tl_c ta_ild ?_
  refine tl_c ta_int ?_
  refine tl_c ta_bin ?_
  refine tl_c ta_ist ?_
  refine tl_c ta_aload ?_
  refine tl_c ta_iload ?_
  refine tl_c ta_iload ?_
  refine tl_c ta_aload ?_
  refine tl_c ta_getS ?_
  refine tl_c ta_iload ?_
  refine tl_c ta_ild ?_
  refine tl_c ta_ci ?_
  refine tl_c ta_istore ?_
  refine tl_c ta_aload ?_
  refine tl_c ta_getS ?_
  refine tl_c ta_iload ?_
  refine tl_c ta_ild ?_
  refine tl_c ta_aload ?_
  refine tl_c ta_iload ?_
  refine tl_c ta_iload ?_
  refine tl_c ta_ci ?_
  refine tl_c ta_bin ?_
  refine tl_c ta_istore ?_
  refine tl_c ta_aload ?_
  refine tl_c ta_getS ?_
  refine tl_c ta_iload ?_
  refine tl_c ta_ild ?_
  refine tl_c ta_int ?_
  refine tl_c ta_cmpne ?_
  refine tl_c ta_iload ?_
  refine tl_c ta_aload ?_
  refine tl_c ta_int ?_
  refine tl_c ta_iload ?_
  refine tl_c ta_iload ?_
  refine tl_c ta_aload ?_
  refine tl_c ta_getS ?_
  refine tl_c ta_iload ?_
  refine tl_c ta_ild ?_
  refine tl_c ta_ci ?_
  refine tl_c ta_int ?_
  refine tl_c ta_int ?_
  refine tl_c ta_ci ?_
  refine tl_c ta_bin ?_
  refine tl_c ta_istore ?_
  refine tl_c ta_iload ?_
  refine tl_c ta_iload ?_
  refine tl_c ta_cmpge ?_
  refine tl_c ta_iload ?_
  refine tl_c ta_goto ?_
  refine tl_c ta_iload ?_
  refine tl_c ta_istore ?_
  refine tl_c ta_iload ?_
  refine tl_c ta_aload ?_
  refine tl_c ta_getS ?_
  refine tl_c ta_iload ?_
  refine tl_c ta_ild ?_
  refine tl_c ta_cmple ?_
  refine tl_c ta_aload ?_
  refine tl_c ta_getS ?_
  refine tl_c ta_iload ?_
  refine tl_c ta_ild ?_
  refine tl_c ta_goto ?_
  refine tl_c ta_iload ?_
  refine tl_c ta_istore ?_
  refine tl_c ta_aload ?_
  refine tl_c ta_iload ?_
  refine tl_c ta_iload ?_
  refine tl_c ta_iload ?_
  refine tl_c ta_iload ?_
  refine tl_c ta_ci ?_
  refine tl_c ta_ifeq ?_
  refine tl_c ta_aload ?_
  refine tl_c ta_getS ?_
  refine tl_c ta_iload ?_
  refine tl_c ta_int ?_
  refine tl_c ta_ist ?_
  refine tl_c ta_aload ?_
  refine tl_c ta_getS ?_
  refine tl_c ta_iload ?_
  refine tl_c ta_iload ?_
  refine tl_c ta_ist ?_
  refine tl_c ta_goto ?_
  refine tl_c ta_aload ?_
  refine tl_c ta_getS ?_
  refine tl_c ta_iload ?_
  refine tl_c ta_ild ?_
  refine tl_c ta_aload ?_
  refine tl_c ta_iload ?_
  refine tl_c ta_ci ?_
  refine tl_c ta_cmplt ?_
  refine tl_c ta_aload ?_
  refine tl_c ta_getS ?_
  refine tl_c ta_iload ?_
  refine tl_c ta_int ?_
  refine tl_c ta_ist ?_
  refine tl_c ta_goto ?_
  refine tl_c ta_aload ?_
  refine tl_c ta_getS ?_
  refine tl_c ta_iload ?_
  refine tl_c ta_iload ?_
  refine tl_c ta_ist ?_
  refine tl_c ta_aload ?_
  refine tl_c ta_getS ?_
  refine tl_c ta_iload ?_
  refine tl_c ta_ild ?_
  refine tl_c ta_iret ?_
  exact trivial
set_option maxRecDepth 20000 in
theorem ok_X12_speaks (l : Launch) : ce_OkL l cX12_speaks RX12 5 (some .int) 4 0 0 pc_X12_speaks 0 tb_X12_speaks := by
  unfold tb_X12_speaks
  refine ok_c (j := 1) rfl (ok_aload_n (j := ⟨0, by decide⟩) (pc := 0) rfl rfl (by decide +kernel)) ?_
  refine ok_c (j := 2) rfl (ok_getS (f := 4) (ci := 12) (C := RX12) (T := TX12) (N := 45) (ix := 22) (pc := 1) rfl rfl (by decide +kernel) rfl (fun _ => rfl) rfl cw_X12 (by decide) rfl wd_828) ?_
  refine ok_c (j := 3) rfl (ok_iload_n (j := ⟨1, by decide⟩) (pc := 4) rfl rfl (by decide +kernel)) ?_
  refine ok_c (j := 4) rfl (ok_dup2 (pc := 5) rfl rfl (by decide +kernel)) ?_
  refine ok_c (j := 5) rfl (ok_ild (pc := 6) rfl rfl (by decide +kernel) rfl) ?_
  refine ok_c (j := 6) rfl (ok_iconst (n := 1) (pc := 7) rfl rfl (by decide +kernel) (by decide)) ?_
  refine ok_c (j := 7) rfl (ok_iadd (pc := 8) rfl rfl (by decide +kernel)) ?_
  refine ok_c (j := 8) rfl (ok_ist (pc := 9) rfl rfl (by decide +kernel) rfl) ?_
  refine ok_c (j := 9) rfl (ok_aload_n (j := ⟨0, by decide⟩) (pc := 10) rfl rfl (by decide +kernel)) ?_
  refine ok_c (j := 10) rfl (ok_iload_n (j := ⟨1, by decide⟩) (pc := 11) rfl rfl (by decide +kernel)) ?_
  refine ok_c (j := 11) rfl (ok_iload_n (j := ⟨2, by decide⟩) (pc := 12) rfl rfl (by decide +kernel)) ?_
  refine ok_c (j := 12) rfl (ok_aload_n (j := ⟨0, by decide⟩) (pc := 13) rfl rfl (by decide +kernel)) ?_
  refine ok_c (j := 13) rfl (ok_getS (f := 3) (ci := 12) (C := RX12) (T := TX12) (N := 45) (ix := 19) (pc := 14) rfl rfl (by decide +kernel) rfl (fun _ => rfl) rfl cw_X12 (by decide) rfl wd_827) ?_
  refine ok_c (j := 14) rfl (ok_iload_n (j := ⟨1, by decide⟩) (pc := 17) rfl rfl (by decide +kernel)) ?_
  refine ok_c (j := 15) rfl (ok_ild (pc := 18) rfl rfl (by decide +kernel) rfl) ?_
  refine ok_c (j := 16) rfl (ok_virtual (y := yX12_leastOf) (n := 3) (d' := 3) (t := 20) (T := TX12) (N := 45) (ix := 182) is_ci (pc := 19) rfl rfl (by decide +kernel) (by decide) (ct_X12_leastOf l) rfl (fun _ => rfl) ce_fI_rec wd_1051 wd_1053 wd_40 wd_75) ?_
  refine ok_c (j := 17) rfl (ok_istore_n (j := ⟨3, by decide⟩) (pc := 22) rfl rfl (by decide +kernel) (by decide)) ?_
  refine ok_c (j := 18) rfl (ok_aload_n (j := ⟨0, by decide⟩) (pc := 23) rfl rfl (by decide +kernel)) ?_
  refine ok_c (j := 19) rfl (ok_getS (f := 3) (ci := 12) (C := RX12) (T := TX12) (N := 45) (ix := 19) (pc := 24) rfl rfl (by decide +kernel) rfl (fun _ => rfl) rfl cw_X12 (by decide) rfl wd_827) ?_
  refine ok_c (j := 20) rfl (ok_iload_n (j := ⟨1, by decide⟩) (pc := 27) rfl rfl (by decide +kernel)) ?_
  refine ok_c (j := 21) rfl (ok_ild (pc := 28) rfl rfl (by decide +kernel) rfl) ?_
  refine ok_c (j := 22) rfl (ok_aload_n (j := ⟨0, by decide⟩) (pc := 29) rfl rfl (by decide +kernel)) ?_
  refine ok_c (j := 23) rfl (ok_iload_n (j := ⟨1, by decide⟩) (pc := 30) rfl rfl (by decide +kernel)) ?_
  refine ok_c (j := 24) rfl (ok_iload_n (j := ⟨2, by decide⟩) (pc := 31) rfl rfl (by decide +kernel)) ?_
  refine ok_c (j := 25) rfl (ok_virtual (y := yX12_stepsOf) (n := 2) (d' := 1) (t := 20) (T := TX12) (N := 45) (ix := 201) is_ci (pc := 32) rfl rfl (by decide +kernel) (by decide) (ct_X12_stepsOf l) rfl (fun _ => rfl) ce_fI_rec wd_1096 wd_1098 wd_44 wd_75) ?_
  refine ok_c (j := 26) rfl (ok_isub (pc := 35) rfl rfl (by decide +kernel)) ?_
  refine ok_c (j := 27) rfl (ok_istore (j := 4) (pc := 36) rfl rfl (by decide +kernel) (by decide)) ?_
  refine ok_c (j := 28) rfl (ok_aload_n (j := ⟨0, by decide⟩) (pc := 38) rfl rfl (by decide +kernel)) ?_
  refine ok_c (j := 29) rfl (ok_getS (f := 4) (ci := 12) (C := RX12) (T := TX12) (N := 45) (ix := 22) (pc := 39) rfl rfl (by decide +kernel) rfl (fun _ => rfl) rfl cw_X12 (by decide) rfl wd_828) ?_
  refine ok_c (j := 30) rfl (ok_iload_n (j := ⟨1, by decide⟩) (pc := 42) rfl rfl (by decide +kernel)) ?_
  refine ok_c (j := 31) rfl (ok_ild (pc := 43) rfl rfl (by decide +kernel) rfl) ?_
  refine ok_c (j := 32) rfl (ok_iconst (n := 1) (pc := 44) rfl rfl (by decide +kernel) (by decide)) ?_
  refine ok_c (j := 33) rfl (ok_cmpne (off := 27) (tg := 72) (pc := 45) rfl rfl (by decide +kernel) rfl (by decide)) ?_
  refine ok_c (j := 34) rfl (ok_iload (j := 4) (pc := 48) rfl rfl (by decide +kernel)) ?_
  refine ok_c (j := 35) rfl (ok_aload_n (j := ⟨0, by decide⟩) (pc := 50) rfl rfl (by decide +kernel)) ?_
  refine ok_c (j := 36) rfl (ok_iconst (n := 2) (pc := 51) rfl rfl (by decide +kernel) (by decide)) ?_
  refine ok_c (j := 37) rfl (ok_iload_n (j := ⟨1, by decide⟩) (pc := 52) rfl rfl (by decide +kernel)) ?_
  refine ok_c (j := 38) rfl (ok_iload_n (j := ⟨2, by decide⟩) (pc := 53) rfl rfl (by decide +kernel)) ?_
  refine ok_c (j := 39) rfl (ok_aload_n (j := ⟨0, by decide⟩) (pc := 54) rfl rfl (by decide +kernel)) ?_
  refine ok_c (j := 40) rfl (ok_getS (f := 3) (ci := 12) (C := RX12) (T := TX12) (N := 45) (ix := 19) (pc := 55) rfl rfl (by decide +kernel) rfl (fun _ => rfl) rfl cw_X12 (by decide) rfl wd_827) ?_
  refine ok_c (j := 41) rfl (ok_iload_n (j := ⟨1, by decide⟩) (pc := 58) rfl rfl (by decide +kernel)) ?_
  refine ok_c (j := 42) rfl (ok_ild (pc := 59) rfl rfl (by decide +kernel) rfl) ?_
  refine ok_c (j := 43) rfl (ok_virtual (y := yX12_says) (n := 4) (d' := 2) (t := 20) (T := TX12) (N := 45) (ix := 176) is_ci (pc := 60) rfl rfl (by decide +kernel) (by decide) (ct_X12_says l) rfl (fun _ => rfl) ce_fI_rec wd_1040 wd_1042 wd_38 wd_75) ?_
  refine ok_c (j := 44) rfl (ok_iconst (n := 0) (pc := 63) rfl rfl (by decide +kernel) (by decide)) ?_
  refine ok_c (j := 45) rfl (ok_bipush (n := 99) (pc := 64) rfl rfl (by decide +kernel) (by decide)) ?_
  refine ok_c (j := 46) rfl (ok_static (y := yX12_bounded) (n := 3) (d' := 1) (ix := 179) is_ci (pc := 66) rfl rfl (by decide +kernel) (by decide) rfl (ct_X12_bounded l) wd_1055 wd_1056 wd_75) ?_
  refine ok_c (j := 47) rfl (ok_iadd (pc := 69) rfl rfl (by decide +kernel)) ?_
  refine ok_c (j := 48) rfl (ok_istore (j := 4) (pc := 70) rfl rfl (by decide +kernel) (by decide)) ?_
  refine ok_c (j := 49) rfl (ok_iload (j := 4) (pc := 72) rfl rfl (by decide +kernel)) ?_
  refine ok_c (j := 50) rfl (ok_iload_n (j := ⟨3, by decide⟩) (pc := 74) rfl rfl (by decide +kernel)) ?_
  refine ok_c (j := 51) rfl (ok_cmpge (off := 7) (tg := 82) (pc := 75) rfl rfl (by decide +kernel) rfl (by decide)) ?_
  refine ok_c (j := 52) rfl (ok_iload_n (j := ⟨3, by decide⟩) (pc := 78) rfl rfl (by decide +kernel)) ?_
  refine ok_c (j := 53) rfl (ok_goto (off := 5) (tg := 84) (pc := 79) rfl (by decide +kernel) rfl (by decide)) ?_
  refine ok_c (j := 54) rfl (ok_iload (j := 4) (pc := 82) rfl rfl (by decide +kernel)) ?_
  refine ok_c (j := 55) rfl (ok_istore (j := 4) (pc := 84) rfl rfl (by decide +kernel) (by decide)) ?_
  refine ok_c (j := 56) rfl (ok_iload (j := 4) (pc := 86) rfl rfl (by decide +kernel)) ?_
  refine ok_c (j := 57) rfl (ok_aload_n (j := ⟨0, by decide⟩) (pc := 88) rfl rfl (by decide +kernel)) ?_
  refine ok_c (j := 58) rfl (ok_getS (f := 3) (ci := 12) (C := RX12) (T := TX12) (N := 45) (ix := 19) (pc := 89) rfl rfl (by decide +kernel) rfl (fun _ => rfl) rfl cw_X12 (by decide) rfl wd_827) ?_
  refine ok_c (j := 59) rfl (ok_iload_n (j := ⟨1, by decide⟩) (pc := 92) rfl rfl (by decide +kernel)) ?_
  refine ok_c (j := 60) rfl (ok_ild (pc := 93) rfl rfl (by decide +kernel) rfl) ?_
  refine ok_c (j := 61) rfl (ok_cmple (off := 12) (tg := 106) (pc := 94) rfl rfl (by decide +kernel) rfl (by decide)) ?_
  refine ok_c (j := 62) rfl (ok_aload_n (j := ⟨0, by decide⟩) (pc := 97) rfl rfl (by decide +kernel)) ?_
  refine ok_c (j := 63) rfl (ok_getS (f := 3) (ci := 12) (C := RX12) (T := TX12) (N := 45) (ix := 19) (pc := 98) rfl rfl (by decide +kernel) rfl (fun _ => rfl) rfl cw_X12 (by decide) rfl wd_827) ?_
  refine ok_c (j := 64) rfl (ok_iload_n (j := ⟨1, by decide⟩) (pc := 101) rfl rfl (by decide +kernel)) ?_
  refine ok_c (j := 65) rfl (ok_ild (pc := 102) rfl rfl (by decide +kernel) rfl) ?_
  refine ok_c (j := 66) rfl (ok_goto (off := 5) (tg := 108) (pc := 103) rfl (by decide +kernel) rfl (by decide)) ?_
  refine ok_c (j := 67) rfl (ok_iload (j := 4) (pc := 106) rfl rfl (by decide +kernel)) ?_
  refine ok_c (j := 68) rfl (ok_istore (j := 4) (pc := 108) rfl rfl (by decide +kernel) (by decide)) ?_
  refine ok_c (j := 69) rfl (ok_aload_n (j := ⟨0, by decide⟩) (pc := 110) rfl rfl (by decide +kernel)) ?_
  refine ok_c (j := 70) rfl (ok_iload_n (j := ⟨1, by decide⟩) (pc := 111) rfl rfl (by decide +kernel)) ?_
  refine ok_c (j := 71) rfl (ok_iload_n (j := ⟨2, by decide⟩) (pc := 112) rfl rfl (by decide +kernel)) ?_
  refine ok_c (j := 72) rfl (ok_iload_n (j := ⟨3, by decide⟩) (pc := 113) rfl rfl (by decide +kernel)) ?_
  refine ok_c (j := 73) rfl (ok_iload (j := 4) (pc := 114) rfl rfl (by decide +kernel)) ?_
  refine ok_c (j := 74) rfl (ok_virtual (y := yX12_doesTake) (n := 4) (d' := 1) (t := 20) (T := TX12) (N := 45) (ix := 204) is_ci (pc := 116) rfl rfl (by decide +kernel) (by decide) (ct_X12_doesTake l) rfl (fun _ => rfl) ce_fI_rec wd_1100 wd_1102 wd_45 wd_75) ?_
  refine ok_c (j := 75) rfl (ok_ifeq (off := 20) (tg := 139) (pc := 119) rfl rfl (by decide +kernel) rfl (by decide)) ?_
  refine ok_c (j := 76) rfl (ok_aload_n (j := ⟨0, by decide⟩) (pc := 122) rfl rfl (by decide +kernel)) ?_
  refine ok_c (j := 77) rfl (ok_getS (f := 5) (ci := 12) (C := RX12) (T := TX12) (N := 45) (ix := 25) (pc := 123) rfl rfl (by decide +kernel) rfl (fun _ => rfl) rfl cw_X12 (by decide) rfl wd_829) ?_
  refine ok_c (j := 78) rfl (ok_iload_n (j := ⟨1, by decide⟩) (pc := 126) rfl rfl (by decide +kernel)) ?_
  refine ok_c (j := 79) rfl (ok_iconst (n := 1) (pc := 127) rfl rfl (by decide +kernel) (by decide)) ?_
  refine ok_c (j := 80) rfl (ok_ist (pc := 128) rfl rfl (by decide +kernel) rfl) ?_
  refine ok_c (j := 81) rfl (ok_aload_n (j := ⟨0, by decide⟩) (pc := 129) rfl rfl (by decide +kernel)) ?_
  refine ok_c (j := 82) rfl (ok_getS (f := 6) (ci := 12) (C := RX12) (T := TX12) (N := 45) (ix := 28) (pc := 130) rfl rfl (by decide +kernel) rfl (fun _ => rfl) rfl cw_X12 (by decide) rfl wd_830) ?_
  refine ok_c (j := 83) rfl (ok_iload_n (j := ⟨1, by decide⟩) (pc := 133) rfl rfl (by decide +kernel)) ?_
  refine ok_c (j := 84) rfl (ok_iload_n (j := ⟨2, by decide⟩) (pc := 134) rfl rfl (by decide +kernel)) ?_
  refine ok_c (j := 85) rfl (ok_ist (pc := 135) rfl rfl (by decide +kernel) rfl) ?_
  refine ok_c (j := 86) rfl (ok_goto (off := 35) (tg := 171) (pc := 136) rfl (by decide +kernel) rfl (by decide)) ?_
  refine ok_c (j := 87) rfl (ok_aload_n (j := ⟨0, by decide⟩) (pc := 139) rfl rfl (by decide +kernel)) ?_
  refine ok_c (j := 88) rfl (ok_getS (f := 4) (ci := 12) (C := RX12) (T := TX12) (N := 45) (ix := 22) (pc := 140) rfl rfl (by decide +kernel) rfl (fun _ => rfl) rfl cw_X12 (by decide) rfl wd_828) ?_
  refine ok_c (j := 89) rfl (ok_iload_n (j := ⟨1, by decide⟩) (pc := 143) rfl rfl (by decide +kernel)) ?_
  refine ok_c (j := 90) rfl (ok_ild (pc := 144) rfl rfl (by decide +kernel) rfl) ?_
  refine ok_c (j := 91) rfl (ok_aload_n (j := ⟨0, by decide⟩) (pc := 145) rfl rfl (by decide +kernel)) ?_
  refine ok_c (j := 92) rfl (ok_iload_n (j := ⟨1, by decide⟩) (pc := 146) rfl rfl (by decide +kernel)) ?_
  refine ok_c (j := 93) rfl (ok_virtual (y := yX12_staysOf) (n := 1) (d' := 1) (t := 20) (T := TX12) (N := 45) (ix := 195) is_ci (pc := 147) rfl rfl (by decide +kernel) (by decide) (ct_X12_staysOf l) rfl (fun _ => rfl) ce_fI_rec wd_1074 wd_1076 wd_42 wd_75) ?_
  refine ok_c (j := 94) rfl (ok_cmplt (off := 13) (tg := 163) (pc := 150) rfl rfl (by decide +kernel) rfl (by decide)) ?_
  refine ok_c (j := 95) rfl (ok_aload_n (j := ⟨0, by decide⟩) (pc := 153) rfl rfl (by decide +kernel)) ?_
  refine ok_c (j := 96) rfl (ok_getS (f := 5) (ci := 12) (C := RX12) (T := TX12) (N := 45) (ix := 25) (pc := 154) rfl rfl (by decide +kernel) rfl (fun _ => rfl) rfl cw_X12 (by decide) rfl wd_829) ?_
  refine ok_c (j := 97) rfl (ok_iload_n (j := ⟨1, by decide⟩) (pc := 157) rfl rfl (by decide +kernel)) ?_
  refine ok_c (j := 98) rfl (ok_iconst (n := 2) (pc := 158) rfl rfl (by decide +kernel) (by decide)) ?_
  refine ok_c (j := 99) rfl (ok_ist (pc := 159) rfl rfl (by decide +kernel) rfl) ?_
  refine ok_c (j := 100) rfl (ok_goto (off := 11) (tg := 171) (pc := 160) rfl (by decide +kernel) rfl (by decide)) ?_
  refine ok_c (j := 101) rfl (ok_aload_n (j := ⟨0, by decide⟩) (pc := 163) rfl rfl (by decide +kernel)) ?_
  refine ok_c (j := 102) rfl (ok_getS (f := 3) (ci := 12) (C := RX12) (T := TX12) (N := 45) (ix := 19) (pc := 164) rfl rfl (by decide +kernel) rfl (fun _ => rfl) rfl cw_X12 (by decide) rfl wd_827) ?_
  refine ok_c (j := 103) rfl (ok_iload_n (j := ⟨1, by decide⟩) (pc := 167) rfl rfl (by decide +kernel)) ?_
  refine ok_c (j := 104) rfl (ok_iload (j := 4) (pc := 168) rfl rfl (by decide +kernel)) ?_
  refine ok_c (j := 105) rfl (ok_ist (pc := 170) rfl rfl (by decide +kernel) rfl) ?_
  refine ok_c (j := 106) rfl (ok_aload_n (j := ⟨0, by decide⟩) (pc := 171) rfl rfl (by decide +kernel)) ?_
  refine ok_c (j := 107) rfl (ok_getS (f := 5) (ci := 12) (C := RX12) (T := TX12) (N := 45) (ix := 25) (pc := 172) rfl rfl (by decide +kernel) rfl (fun _ => rfl) rfl cw_X12 (by decide) rfl wd_829) ?_
  refine ok_c (j := 108) rfl (ok_iload_n (j := ⟨1, by decide⟩) (pc := 175) rfl rfl (by decide +kernel)) ?_
  refine ok_c (j := 109) rfl (ok_ild (pc := 176) rfl rfl (by decide +kernel) rfl) ?_
  refine ok_c (j := 110) rfl (ok_iret (pc := 177) rfl (by decide +kernel) rfl) ?_
  exact trivial
noncomputable def F_X12_speaks := ce_fI tb_X12_speaks 5 (some 20)
theorem ct_X12_speaks (l : Launch) : ce_callee l yX12_speaks 2 4 0 0 (ce_wI F_X12_speaks) := ⟨_, _, _, ce_ctr_of (pcs := pc_X12_speaks) (by decide +kernel) rfl (ok_X12_speaks l ) ce_fI_run, ce_tw_at wd_1095 rfl, by decide, by decide +kernel, by decide +kernel, by decide +kernel⟩
def pc_X12_readsRow : List Nat := [0, 1, 4, 5, 8, 9, 10, 11, 12, 15, 16, 17, 20, 21, 22, 23, 26, 27, 30, 33, 34, 37, 38, 39, 42, 43, 44, 45, 48, 49, 50, 53, 54, 57, 58, 59, 60, 63, 64, 67, 68, 71, 72, 75, 76, 77, 80, 81, 84, 85, 86, 87, 90, 91, 94, 95, 96]
noncomputable def tb_X12_readsRow : List ce_Op := [o_aload 0, o_getS 20 30 (fun _ => 0), o_aload 0, o_getI 20 26, o_int 0, o_ist 30, o_aload 0, o_int 0, o_putI 20 25, o_aload 0, o_int 0, o_putI 20 24, o_int 1, o_istore 1, o_iload 1, o_ifeq 19, o_aload 0, o_ci 1 F_X12_ahead 0 0 0 0, o_goto 21, o_aload 0, o_ci 1 F_X12_behind 0 0 0 0, o_istore 2, o_iload 2, o_ifge 26, o_int 0, o_zret, o_iload 1, o_ifne 33, o_iload 2, o_int 2, o_cmpne 33, o_int 1, o_goto 34, o_int 0, o_istore 3, o_iload 1, o_ifeq 43, o_iload 2, o_ifne 41, o_int 1, o_goto 49, o_int 0, o_goto 49, o_iload 2, o_int 1, o_cmpne 48, o_int 1, o_goto 49, o_int 0, o_istore 1, o_aload 0, o_cv 1 F_X12_reads 0 0 0 0, o_iload 3, o_ifeq 56, o_int 1, o_zret, o_goto 14]
theorem tl_X12_readsRow : ce_TL tb_X12_readsRow := by
  unfold tb_X12_readsRow
  refine tl_c ta_aload ?_
  refine tl_c ta_getS ?_
  refine tl_c ta_aload ?_
  refine tl_c ta_getI ?_
  refine tl_c ta_int ?_
  refine tl_c ta_ist ?_
  refine tl_c ta_aload ?_
  refine tl_c ta_int ?_
  refine tl_c ta_putI ?_
  refine tl_c ta_aload ?_
  refine tl_c ta_int ?_
  refine tl_c ta_putI ?_
  refine tl_c ta_int ?_
  refine tl_c ta_istore ?_
  refine tl_c ta_iload ?_
  refine tl_c ta_ifeq ?_
  refine tl_c ta_aload ?_
  refine tl_c ta_ci ?_
  refine tl_c ta_goto ?_
  refine tl_c ta_aload ?_
  refine tl_c ta_ci ?_
  refine tl_c ta_istore ?_
  refine tl_c ta_iload ?_
  refine tl_c ta_ifge ?_
  refine tl_c ta_int ?_
  refine tl_c ta_zret ?_
  refine tl_c ta_iload ?_
  refine tl_c ta_ifne ?_
  refine tl_c ta_iload ?_
  refine tl_c ta_int ?_
  refine tl_c ta_cmpne ?_
  refine tl_c ta_int ?_
  refine tl_c ta_goto ?_
  refine tl_c ta_int ?_
  refine tl_c ta_istore ?_
  refine tl_c ta_iload ?_
  refine tl_c ta_ifeq ?_
  refine tl_c ta_iload ?_
  refine tl_c ta_ifne ?_
  refine tl_c ta_int ?_
  refine tl_c ta_goto ?_
  refine tl_c ta_int ?_
  refine tl_c ta_goto ?_
  refine tl_c ta_iload ?_
  refine tl_c ta_int ?_
  refine tl_c ta_cmpne ?_
  refine tl_c ta_int ?_
  refine tl_c ta_goto ?_
  refine tl_c ta_int ?_
  refine tl_c ta_istore ?_
  refine tl_c ta_aload ?_
  refine tl_c ta_cv ?_
  refine tl_c ta_iload ?_
  refine tl_c ta_ifeq ?_
  refine tl_c ta_int ?_
  refine tl_c ta_zret ?_
  refine tl_c ta_goto ?_
  exact trivial
set_option maxRecDepth 20000 in
theorem ok_X12_readsRow (l : Launch) : ce_OkL l cX12_readsRow RX12 4 (some .boolean) 5 0 0 pc_X12_readsRow 0 tb_X12_readsRow := by
  unfold tb_X12_readsRow
  refine ok_c (j := 1) rfl (ok_aload_n (j := ⟨0, by decide⟩) (pc := 0) rfl rfl (by decide +kernel)) ?_
  refine ok_c (j := 2) rfl (ok_getS (f := 15) (ci := 12) (C := RX12) (T := TX12) (N := 45) (ix := 52) (pc := 1) rfl rfl (by decide +kernel) rfl (fun _ => rfl) rfl cw_X12 (by decide) rfl wd_839) ?_
  refine ok_c (j := 3) rfl (ok_aload_n (j := ⟨0, by decide⟩) (pc := 4) rfl rfl (by decide +kernel)) ?_
  refine ok_c (j := 4) rfl (ok_getI (ci := 12) (C := RX12) (T := TX12) (N := 45) (ix := 85) (pc := 5) rfl rfl (by decide +kernel) rfl (fun _ => rfl) rfl cw_X12 (by decide) rfl wd_850) ?_
  refine ok_c (j := 5) rfl (ok_iconst (n := 0) (pc := 8) rfl rfl (by decide +kernel) (by decide)) ?_
  refine ok_c (j := 6) rfl (ok_ist (pc := 9) rfl rfl (by decide +kernel) rfl) ?_
  refine ok_c (j := 7) rfl (ok_aload_n (j := ⟨0, by decide⟩) (pc := 10) rfl rfl (by decide +kernel)) ?_
  refine ok_c (j := 8) rfl (ok_iconst (n := 0) (pc := 11) rfl rfl (by decide +kernel) (by decide)) ?_
  refine ok_c (j := 9) rfl (ok_putI (ci := 12) (C := RX12) (T := TX12) (N := 45) (ty := tyX12) (ix := 123) (pc := 12) rfl rfl (by decide +kernel) rfl (fun _ => rfl) rfl cw_X12 tyX12_ok nmX12 (by decide) rfl rfl rfl wd_849) ?_
  refine ok_c (j := 10) rfl (ok_aload_n (j := ⟨0, by decide⟩) (pc := 15) rfl rfl (by decide +kernel)) ?_
  refine ok_c (j := 11) rfl (ok_iconst (n := 0) (pc := 16) rfl rfl (by decide +kernel) (by decide)) ?_
  refine ok_c (j := 12) rfl (ok_putI (ci := 12) (C := RX12) (T := TX12) (N := 45) (ty := tyX12) (ix := 126) (pc := 17) rfl rfl (by decide +kernel) rfl (fun _ => rfl) rfl cw_X12 tyX12_ok nmX12 (by decide) rfl rfl rfl wd_848) ?_
  refine ok_c (j := 13) rfl (ok_iconst (n := 1) (pc := 20) rfl rfl (by decide +kernel) (by decide)) ?_
  refine ok_c (j := 14) rfl (ok_istore_n (j := ⟨1, by decide⟩) (pc := 21) rfl rfl (by decide +kernel) (by decide)) ?_
  refine ok_c (j := 15) rfl (ok_iload_n (j := ⟨1, by decide⟩) (pc := 22) rfl rfl (by decide +kernel)) ?_
  refine ok_c (j := 16) rfl (ok_ifeq (off := 10) (tg := 33) (pc := 23) rfl rfl (by decide +kernel) rfl (by decide)) ?_
  refine ok_c (j := 17) rfl (ok_aload_n (j := ⟨0, by decide⟩) (pc := 26) rfl rfl (by decide +kernel)) ?_
  refine ok_c (j := 18) rfl (ok_virtual (y := yX12_ahead) (n := 0) (d' := 3) (t := 20) (T := TX12) (N := 45) (ix := 153) is_ci (pc := 27) rfl rfl (by decide +kernel) (by decide) (ct_X12_ahead l) rfl (fun _ => rfl) ce_fI_rec wd_990 wd_992 wd_29 wd_75) ?_
  refine ok_c (j := 19) rfl (ok_goto (off := 7) (tg := 37) (pc := 30) rfl (by decide +kernel) rfl (by decide)) ?_
  refine ok_c (j := 20) rfl (ok_aload_n (j := ⟨0, by decide⟩) (pc := 33) rfl rfl (by decide +kernel)) ?_
  refine ok_c (j := 21) rfl (ok_virtual (y := yX12_behind) (n := 0) (d' := 4) (t := 20) (T := TX12) (N := 45) (ix := 156) is_ci (pc := 34) rfl rfl (by decide +kernel) (by decide) (ct_X12_behind l) rfl (fun _ => rfl) ce_fI_rec wd_1006 wd_1008 wd_33 wd_75) ?_
  refine ok_c (j := 22) rfl (ok_istore_n (j := ⟨2, by decide⟩) (pc := 37) rfl rfl (by decide +kernel) (by decide)) ?_
  refine ok_c (j := 23) rfl (ok_iload_n (j := ⟨2, by decide⟩) (pc := 38) rfl rfl (by decide +kernel)) ?_
  refine ok_c (j := 24) rfl (ok_ifge (off := 5) (tg := 44) (pc := 39) rfl rfl (by decide +kernel) rfl (by decide)) ?_
  refine ok_c (j := 25) rfl (ok_iconst (n := 0) (pc := 42) rfl rfl (by decide +kernel) (by decide)) ?_
  refine ok_c (j := 26) rfl (ok_zret (pc := 43) rfl (by decide +kernel) rfl) ?_
  refine ok_c (j := 27) rfl (ok_iload_n (j := ⟨1, by decide⟩) (pc := 44) rfl rfl (by decide +kernel)) ?_
  refine ok_c (j := 28) rfl (ok_ifne (off := 12) (tg := 57) (pc := 45) rfl rfl (by decide +kernel) rfl (by decide)) ?_
  refine ok_c (j := 29) rfl (ok_iload_n (j := ⟨2, by decide⟩) (pc := 48) rfl rfl (by decide +kernel)) ?_
  refine ok_c (j := 30) rfl (ok_iconst (n := 2) (pc := 49) rfl rfl (by decide +kernel) (by decide)) ?_
  refine ok_c (j := 31) rfl (ok_cmpne (off := 7) (tg := 57) (pc := 50) rfl rfl (by decide +kernel) rfl (by decide)) ?_
  refine ok_c (j := 32) rfl (ok_iconst (n := 1) (pc := 53) rfl rfl (by decide +kernel) (by decide)) ?_
  refine ok_c (j := 33) rfl (ok_goto (off := 4) (tg := 58) (pc := 54) rfl (by decide +kernel) rfl (by decide)) ?_
  refine ok_c (j := 34) rfl (ok_iconst (n := 0) (pc := 57) rfl rfl (by decide +kernel) (by decide)) ?_
  refine ok_c (j := 35) rfl (ok_istore_n (j := ⟨3, by decide⟩) (pc := 58) rfl rfl (by decide +kernel) (by decide)) ?_
  refine ok_c (j := 36) rfl (ok_iload_n (j := ⟨1, by decide⟩) (pc := 59) rfl rfl (by decide +kernel)) ?_
  refine ok_c (j := 37) rfl (ok_ifeq (off := 15) (tg := 75) (pc := 60) rfl rfl (by decide +kernel) rfl (by decide)) ?_
  refine ok_c (j := 38) rfl (ok_iload_n (j := ⟨2, by decide⟩) (pc := 63) rfl rfl (by decide +kernel)) ?_
  refine ok_c (j := 39) rfl (ok_ifne (off := 7) (tg := 71) (pc := 64) rfl rfl (by decide +kernel) rfl (by decide)) ?_
  refine ok_c (j := 40) rfl (ok_iconst (n := 1) (pc := 67) rfl rfl (by decide +kernel) (by decide)) ?_
  refine ok_c (j := 41) rfl (ok_goto (off := 17) (tg := 85) (pc := 68) rfl (by decide +kernel) rfl (by decide)) ?_
  refine ok_c (j := 42) rfl (ok_iconst (n := 0) (pc := 71) rfl rfl (by decide +kernel) (by decide)) ?_
  refine ok_c (j := 43) rfl (ok_goto (off := 13) (tg := 85) (pc := 72) rfl (by decide +kernel) rfl (by decide)) ?_
  refine ok_c (j := 44) rfl (ok_iload_n (j := ⟨2, by decide⟩) (pc := 75) rfl rfl (by decide +kernel)) ?_
  refine ok_c (j := 45) rfl (ok_iconst (n := 1) (pc := 76) rfl rfl (by decide +kernel) (by decide)) ?_
  refine ok_c (j := 46) rfl (ok_cmpne (off := 7) (tg := 84) (pc := 77) rfl rfl (by decide +kernel) rfl (by decide)) ?_
  refine ok_c (j := 47) rfl (ok_iconst (n := 1) (pc := 80) rfl rfl (by decide +kernel) (by decide)) ?_
  refine ok_c (j := 48) rfl (ok_goto (off := 4) (tg := 85) (pc := 81) rfl (by decide +kernel) rfl (by decide)) ?_
  refine ok_c (j := 49) rfl (ok_iconst (n := 0) (pc := 84) rfl rfl (by decide +kernel) (by decide)) ?_
  refine ok_c (j := 50) rfl (ok_istore_n (j := ⟨1, by decide⟩) (pc := 85) rfl rfl (by decide +kernel) (by decide)) ?_
  refine ok_c (j := 51) rfl (ok_aload_n (j := ⟨0, by decide⟩) (pc := 86) rfl rfl (by decide +kernel)) ?_
  refine ok_c (j := 52) rfl (ok_virtual (y := yX12_reads) (n := 0) (d' := 3) (t := 20) (T := TX12) (N := 45) (ix := 159) is_cv (pc := 87) rfl rfl (by decide +kernel) (by decide) (ct_X12_reads l) rfl (fun _ => rfl) ce_fV_rec wd_971 wd_973 wd_25 wd_75) ?_
  refine ok_c (j := 53) rfl (ok_iload_n (j := ⟨3, by decide⟩) (pc := 90) rfl rfl (by decide +kernel)) ?_
  refine ok_c (j := 54) rfl (ok_ifeq (off := 5) (tg := 96) (pc := 91) rfl rfl (by decide +kernel) rfl (by decide)) ?_
  refine ok_c (j := 55) rfl (ok_iconst (n := 1) (pc := 94) rfl rfl (by decide +kernel) (by decide)) ?_
  refine ok_c (j := 56) rfl (ok_zret (pc := 95) rfl (by decide +kernel) rfl) ?_
  refine ok_c (j := 57) rfl (ok_goto (off := (-74)) (tg := 22) (pc := 96) rfl (by decide +kernel) rfl (by decide)) ?_
  exact trivial
noncomputable def F_X12_readsRow := ce_fI tb_X12_readsRow 4 (some 20)
theorem ct_X12_readsRow (l : Launch) : ce_callee l yX12_readsRow 0 5 0 0 (ce_wI F_X12_readsRow) := ⟨_, _, _, ce_ctr_of (pcs := pc_X12_readsRow) (by decide +kernel) rfl (ok_X12_readsRow l ) ce_fI_run, ce_tw_at wd_989 rfl, by decide, by decide +kernel, by decide +kernel, by decide +kernel⟩
def pc_X12_comes : List Nat := [0, 1, 2, 3, 6, 9, 10, 11, 14, 17, 20, 22, 23, 24, 27, 29, 32, 34, 35, 36, 39, 40, 43, 44, 45, 46, 49, 50, 53, 54, 56, 57, 58, 59, 62, 63, 66, 67, 69, 70, 71, 72, 73, 76, 77, 78, 81, 82, 83, 86, 87, 88, 91, 92, 95, 96, 97]
noncomputable def tb_X12_comes : List ce_Op := [o_iload 1, o_int 0, o_int 5, o_ci 3 F_X12_isIn 0 0 0 0, o_ifeq 10, o_iload 2, o_int 0, o_int 9999, o_ci 3 F_X12_isIn 0 0 0 0, o_ifne 12, o_int (-2), o_iret, o_aload 0, o_getI 20 7, o_int 6, o_cmpne 18, o_int (-4), o_iret, o_aload 0, o_getS 20 21 (fun _ => 0), o_aload 0, o_getI 20 7, o_iload 1, o_ist 21, o_aload 0, o_getS 20 22 (fun _ => 0), o_aload 0, o_getI 20 7, o_iload 2, o_int 10, o_div, o_ist 22, o_aload 0, o_getS 20 23 (fun _ => 0), o_aload 0, o_getI 20 7, o_iload 2, o_int 10, o_rem, o_ist 23, o_aload 0, o_dup, o_getI 20 7, o_int 1, o_bin q_add, o_putI 20 7, o_aload 0, o_aload 0, o_getI 20 7, o_int 1, o_bin q_sub, o_cv 2 F_X12_begins 0 0 0 0, o_aload 0, o_getI 20 7, o_int 1, o_bin q_sub, o_iret]
theorem tl_X12_comes : ce_TL tb_X12_comes := by
  unfold tb_X12_comes
  refine tl_c ta_iload ?_
  refine tl_c ta_int ?_
  refine tl_c ta_int ?_
  refine tl_c ta_ci ?_
  refine tl_c ta_ifeq ?_
  refine tl_c ta_iload ?_
  refine tl_c ta_int ?_
  refine tl_c ta_int ?_
  refine tl_c ta_ci ?_
  refine tl_c ta_ifne ?_
  refine tl_c ta_int ?_
  refine tl_c ta_iret ?_
  refine tl_c ta_aload ?_
  refine tl_c ta_getI ?_
  refine tl_c ta_int ?_
  refine tl_c ta_cmpne ?_
  refine tl_c ta_int ?_
  refine tl_c ta_iret ?_
  refine tl_c ta_aload ?_
  refine tl_c ta_getS ?_
  refine tl_c ta_aload ?_
  refine tl_c ta_getI ?_
  refine tl_c ta_iload ?_
  refine tl_c ta_ist ?_
  refine tl_c ta_aload ?_
  refine tl_c ta_getS ?_
  refine tl_c ta_aload ?_
  refine tl_c ta_getI ?_
  refine tl_c ta_iload ?_
  refine tl_c ta_int ?_
  refine tl_c ta_div ?_
  refine tl_c ta_ist ?_
  refine tl_c ta_aload ?_
  refine tl_c ta_getS ?_
  refine tl_c ta_aload ?_
  refine tl_c ta_getI ?_
  refine tl_c ta_iload ?_
  refine tl_c ta_int ?_
  refine tl_c ta_rem ?_
  refine tl_c ta_ist ?_
  refine tl_c ta_aload ?_
  refine tl_c ta_dup ?_
  refine tl_c ta_getI ?_
  refine tl_c ta_int ?_
  refine tl_c ta_bin ?_
  refine tl_c ta_putI ?_
  refine tl_c ta_aload ?_
  refine tl_c ta_aload ?_
  refine tl_c ta_getI ?_
  refine tl_c ta_int ?_
  refine tl_c ta_bin ?_
  refine tl_c ta_cv ?_
  refine tl_c ta_aload ?_
  refine tl_c ta_getI ?_
  refine tl_c ta_int ?_
  refine tl_c ta_bin ?_
  refine tl_c ta_iret ?_
  exact trivial
set_option maxRecDepth 20000 in
theorem ok_X12_comes (l : Launch) : ce_OkL l cX12_comes RX12 3 (some .int) 5 0 0 pc_X12_comes 0 tb_X12_comes := by
  unfold tb_X12_comes
  refine ok_c (j := 1) rfl (ok_iload_n (j := ⟨1, by decide⟩) (pc := 0) rfl rfl (by decide +kernel)) ?_
  refine ok_c (j := 2) rfl (ok_iconst (n := 0) (pc := 1) rfl rfl (by decide +kernel) (by decide)) ?_
  refine ok_c (j := 3) rfl (ok_iconst (n := 5) (pc := 2) rfl rfl (by decide +kernel) (by decide)) ?_
  refine ok_c (j := 4) rfl (ok_static (y := yX12_isIn) (n := 3) (d' := 1) (ix := 92) is_ci (pc := 3) rfl rfl (by decide +kernel) (by decide) rfl (ct_X12_isIn l) wd_964 wd_965 wd_75) ?_
  refine ok_c (j := 5) rfl (ok_ifeq (off := 14) (tg := 20) (pc := 6) rfl rfl (by decide +kernel) rfl (by decide)) ?_
  refine ok_c (j := 6) rfl (ok_iload_n (j := ⟨2, by decide⟩) (pc := 9) rfl rfl (by decide +kernel)) ?_
  refine ok_c (j := 7) rfl (ok_iconst (n := 0) (pc := 10) rfl rfl (by decide +kernel) (by decide)) ?_
  refine ok_c (j := 8) rfl (ok_sipush (n := 9999) (pc := 11) rfl rfl (by decide +kernel) (by decide)) ?_
  refine ok_c (j := 9) rfl (ok_static (y := yX12_isIn) (n := 3) (d' := 1) (ix := 92) is_ci (pc := 14) rfl rfl (by decide +kernel) (by decide) rfl (ct_X12_isIn l) wd_964 wd_965 wd_75) ?_
  refine ok_c (j := 10) rfl (ok_ifne (off := 6) (tg := 23) (pc := 17) rfl rfl (by decide +kernel) rfl (by decide)) ?_
  refine ok_c (j := 11) rfl (ok_bipush (n := (-2)) (pc := 20) rfl rfl (by decide +kernel) (by decide)) ?_
  refine ok_c (j := 12) rfl (ok_iret (pc := 22) rfl (by decide +kernel) rfl) ?_
  refine ok_c (j := 13) rfl (ok_aload_n (j := ⟨0, by decide⟩) (pc := 23) rfl rfl (by decide +kernel)) ?_
  refine ok_c (j := 14) rfl (ok_getI (ci := 12) (C := RX12) (T := TX12) (N := 45) (ix := 82) (pc := 24) rfl rfl (by decide +kernel) rfl (fun _ => rfl) rfl cw_X12 (by decide) rfl wd_831) ?_
  refine ok_c (j := 15) rfl (ok_bipush (n := 6) (pc := 27) rfl rfl (by decide +kernel) (by decide)) ?_
  refine ok_c (j := 16) rfl (ok_cmpne (off := 6) (tg := 35) (pc := 29) rfl rfl (by decide +kernel) rfl (by decide)) ?_
  refine ok_c (j := 17) rfl (ok_bipush (n := (-4)) (pc := 32) rfl rfl (by decide +kernel) (by decide)) ?_
  refine ok_c (j := 18) rfl (ok_iret (pc := 34) rfl (by decide +kernel) rfl) ?_
  refine ok_c (j := 19) rfl (ok_aload_n (j := ⟨0, by decide⟩) (pc := 35) rfl rfl (by decide +kernel)) ?_
  refine ok_c (j := 20) rfl (ok_getS (f := 0) (ci := 12) (C := RX12) (T := TX12) (N := 45) (ix := 7) (pc := 36) rfl rfl (by decide +kernel) rfl (fun _ => rfl) rfl cw_X12 (by decide) rfl wd_824) ?_
  refine ok_c (j := 21) rfl (ok_aload_n (j := ⟨0, by decide⟩) (pc := 39) rfl rfl (by decide +kernel)) ?_
  refine ok_c (j := 22) rfl (ok_getI (ci := 12) (C := RX12) (T := TX12) (N := 45) (ix := 82) (pc := 40) rfl rfl (by decide +kernel) rfl (fun _ => rfl) rfl cw_X12 (by decide) rfl wd_831) ?_
  refine ok_c (j := 23) rfl (ok_iload_n (j := ⟨1, by decide⟩) (pc := 43) rfl rfl (by decide +kernel)) ?_
  refine ok_c (j := 24) rfl (ok_ist (pc := 44) rfl rfl (by decide +kernel) rfl) ?_
  refine ok_c (j := 25) rfl (ok_aload_n (j := ⟨0, by decide⟩) (pc := 45) rfl rfl (by decide +kernel)) ?_
  refine ok_c (j := 26) rfl (ok_getS (f := 1) (ci := 12) (C := RX12) (T := TX12) (N := 45) (ix := 13) (pc := 46) rfl rfl (by decide +kernel) rfl (fun _ => rfl) rfl cw_X12 (by decide) rfl wd_825) ?_
  refine ok_c (j := 27) rfl (ok_aload_n (j := ⟨0, by decide⟩) (pc := 49) rfl rfl (by decide +kernel)) ?_
  refine ok_c (j := 28) rfl (ok_getI (ci := 12) (C := RX12) (T := TX12) (N := 45) (ix := 82) (pc := 50) rfl rfl (by decide +kernel) rfl (fun _ => rfl) rfl cw_X12 (by decide) rfl wd_831) ?_
  refine ok_c (j := 29) rfl (ok_iload_n (j := ⟨2, by decide⟩) (pc := 53) rfl rfl (by decide +kernel)) ?_
  refine ok_c (j := 30) rfl (ok_bipush (n := 10) (pc := 54) rfl rfl (by decide +kernel) (by decide)) ?_
  refine ok_c (j := 31) rfl (ok_idiv (pc := 56) rfl rfl (by decide +kernel)) ?_
  refine ok_c (j := 32) rfl (ok_ist (pc := 57) rfl rfl (by decide +kernel) rfl) ?_
  refine ok_c (j := 33) rfl (ok_aload_n (j := ⟨0, by decide⟩) (pc := 58) rfl rfl (by decide +kernel)) ?_
  refine ok_c (j := 34) rfl (ok_getS (f := 2) (ci := 12) (C := RX12) (T := TX12) (N := 45) (ix := 16) (pc := 59) rfl rfl (by decide +kernel) rfl (fun _ => rfl) rfl cw_X12 (by decide) rfl wd_826) ?_
  refine ok_c (j := 35) rfl (ok_aload_n (j := ⟨0, by decide⟩) (pc := 62) rfl rfl (by decide +kernel)) ?_
  refine ok_c (j := 36) rfl (ok_getI (ci := 12) (C := RX12) (T := TX12) (N := 45) (ix := 82) (pc := 63) rfl rfl (by decide +kernel) rfl (fun _ => rfl) rfl cw_X12 (by decide) rfl wd_831) ?_
  refine ok_c (j := 37) rfl (ok_iload_n (j := ⟨2, by decide⟩) (pc := 66) rfl rfl (by decide +kernel)) ?_
  refine ok_c (j := 38) rfl (ok_bipush (n := 10) (pc := 67) rfl rfl (by decide +kernel) (by decide)) ?_
  refine ok_c (j := 39) rfl (ok_irem (pc := 69) rfl rfl (by decide +kernel)) ?_
  refine ok_c (j := 40) rfl (ok_ist (pc := 70) rfl rfl (by decide +kernel) rfl) ?_
  refine ok_c (j := 41) rfl (ok_aload_n (j := ⟨0, by decide⟩) (pc := 71) rfl rfl (by decide +kernel)) ?_
  refine ok_c (j := 42) rfl (ok_dup (pc := 72) rfl rfl (by decide +kernel)) ?_
  refine ok_c (j := 43) rfl (ok_getI (ci := 12) (C := RX12) (T := TX12) (N := 45) (ix := 82) (pc := 73) rfl rfl (by decide +kernel) rfl (fun _ => rfl) rfl cw_X12 (by decide) rfl wd_831) ?_
  refine ok_c (j := 44) rfl (ok_iconst (n := 1) (pc := 76) rfl rfl (by decide +kernel) (by decide)) ?_
  refine ok_c (j := 45) rfl (ok_iadd (pc := 77) rfl rfl (by decide +kernel)) ?_
  refine ok_c (j := 46) rfl (ok_putI (ci := 12) (C := RX12) (T := TX12) (N := 45) (ty := tyX12) (ix := 82) (pc := 78) rfl rfl (by decide +kernel) rfl (fun _ => rfl) rfl cw_X12 tyX12_ok nmX12 (by decide) rfl rfl rfl wd_831) ?_
  refine ok_c (j := 47) rfl (ok_aload_n (j := ⟨0, by decide⟩) (pc := 81) rfl rfl (by decide +kernel)) ?_
  refine ok_c (j := 48) rfl (ok_aload_n (j := ⟨0, by decide⟩) (pc := 82) rfl rfl (by decide +kernel)) ?_
  refine ok_c (j := 49) rfl (ok_getI (ci := 12) (C := RX12) (T := TX12) (N := 45) (ix := 82) (pc := 83) rfl rfl (by decide +kernel) rfl (fun _ => rfl) rfl cw_X12 (by decide) rfl wd_831) ?_
  refine ok_c (j := 50) rfl (ok_iconst (n := 1) (pc := 86) rfl rfl (by decide +kernel) (by decide)) ?_
  refine ok_c (j := 51) rfl (ok_isub (pc := 87) rfl rfl (by decide +kernel)) ?_
  refine ok_c (j := 52) rfl (ok_virtual (y := yX12_begins) (n := 1) (d' := 4) (t := 20) (T := TX12) (N := 45) (ix := 185) is_cv (pc := 88) rfl rfl (by decide +kernel) (by decide) (ct_X12_begins l) rfl (fun _ => rfl) ce_fV_rec wd_1036 wd_1038 wd_37 wd_75) ?_
  refine ok_c (j := 53) rfl (ok_aload_n (j := ⟨0, by decide⟩) (pc := 91) rfl rfl (by decide +kernel)) ?_
  refine ok_c (j := 54) rfl (ok_getI (ci := 12) (C := RX12) (T := TX12) (N := 45) (ix := 82) (pc := 92) rfl rfl (by decide +kernel) rfl (fun _ => rfl) rfl cw_X12 (by decide) rfl wd_831) ?_
  refine ok_c (j := 55) rfl (ok_iconst (n := 1) (pc := 95) rfl rfl (by decide +kernel) (by decide)) ?_
  refine ok_c (j := 56) rfl (ok_isub (pc := 96) rfl rfl (by decide +kernel)) ?_
  refine ok_c (j := 57) rfl (ok_iret (pc := 97) rfl (by decide +kernel) rfl) ?_
  exact trivial
noncomputable def F_X12_comes := ce_fI tb_X12_comes 3 (some 20)
theorem ct_X12_comes (l : Launch) : ce_callee l yX12_comes 2 5 0 0 (ce_wI F_X12_comes) := ⟨_, _, _, ce_ctr_of (pcs := pc_X12_comes) (by decide +kernel) rfl (ok_X12_comes l ) ce_fI_run, ce_tw_at wd_1035 rfl, by decide, by decide +kernel, by decide +kernel, by decide +kernel⟩
def pc_X12_set : List Nat := [0, 1, 2, 3, 6, 9, 11, 12, 13, 16, 18, 21, 22, 23, 26, 28, 31, 32, 33, 36, 39, 42, 45, 47, 48, 49, 52, 53, 54, 57, 60, 61, 62, 64, 67, 70, 72, 73, 74, 77, 78, 81, 84, 85, 86, 89, 90, 93, 96, 97, 98, 101, 102, 105, 108, 109, 112, 113, 114, 116, 117, 120, 121, 122, 125, 126, 127, 130, 131, 132, 135, 136, 137, 140, 141, 142, 145, 146, 147, 150, 151, 154, 155, 156, 157, 158, 159, 162, 164]
noncomputable def tb_X12_set : List ce_Op := [o_iload 1, o_int 0, o_int 3, o_ci 3 F_X12_isIn 0 0 0 0, o_ifne 7, o_int (-2), o_iret, o_iload 1, o_ifne 11, o_int 9, o_goto 22, o_iload 1, o_int 1, o_cmpne 16, o_int 23, o_goto 22, o_iload 1, o_int 2, o_cmpne 21, o_int 1999, o_goto 22, o_int 999, o_istore 4, o_iload 1, o_int 3, o_cmpne 30, o_aload 0, o_iload 2, o_ci 2 F_X12_isSeller 0 0 0 0, o_ifeq 35, o_iload 3, o_int 0, o_iload 4, o_ci 3 F_X12_isIn 0 0 0 0, o_ifne 37, o_int (-2), o_iret, o_iload 1, o_ifne 42, o_aload 0, o_getI 20 8, o_goto 58, o_iload 1, o_int 1, o_cmpne 48, o_aload 0, o_getI 20 9, o_goto 58, o_iload 1, o_int 2, o_cmpne 54, o_aload 0, o_getI 20 10, o_goto 58, o_aload 0, o_getS 20 22 (fun _ => 0), o_iload 2, o_ild 22, o_istore 5, o_iload 1, o_ifne 64, o_aload 0, o_iload 3, o_putI 20 8, o_iload 1, o_int 1, o_cmpne 70, o_aload 0, o_iload 3, o_putI 20 9, o_iload 1, o_int 2, o_cmpne 76, o_aload 0, o_iload 3, o_putI 20 10, o_iload 1, o_int 3, o_cmpne 87, o_aload 0, o_getS 20 22 (fun _ => 0), o_iload 2, o_iload 3, o_ist 22, o_aload 0, o_iload 2, o_cv 2 F_X12_begins 0 0 0 0, o_iload 5, o_iret]
theorem tl_X12_set : ce_TL tb_X12_set := by
  unfold tb_X12_set
  refine tl_c ta_iload ?_
  refine tl_c ta_int ?_
  refine tl_c ta_int ?_
  refine tl_c ta_ci ?_
  refine tl_c ta_ifne ?_
  refine tl_c ta_int ?_
  refine tl_c ta_iret ?_
  refine tl_c ta_iload ?_
  refine tl_c ta_ifne ?_
  refine tl_c ta_int ?_
  refine tl_c ta_goto ?_
  refine tl_c ta_iload ?_
  refine tl_c ta_int ?_
  refine tl_c ta_cmpne ?_
  refine tl_c ta_int ?_
  refine tl_c ta_goto ?_
  refine tl_c ta_iload ?_
  refine tl_c ta_int ?_
  refine tl_c ta_cmpne ?_
  refine tl_c ta_int ?_
  refine tl_c ta_goto ?_
  refine tl_c ta_int ?_
  refine tl_c ta_istore ?_
  refine tl_c ta_iload ?_
  refine tl_c ta_int ?_
  refine tl_c ta_cmpne ?_
  refine tl_c ta_aload ?_
  refine tl_c ta_iload ?_
  refine tl_c ta_ci ?_
  refine tl_c ta_ifeq ?_
  refine tl_c ta_iload ?_
  refine tl_c ta_int ?_
  refine tl_c ta_iload ?_
  refine tl_c ta_ci ?_
  refine tl_c ta_ifne ?_
  refine tl_c ta_int ?_
  refine tl_c ta_iret ?_
  refine tl_c ta_iload ?_
  refine tl_c ta_ifne ?_
  refine tl_c ta_aload ?_
  refine tl_c ta_getI ?_
  refine tl_c ta_goto ?_
  refine tl_c ta_iload ?_
  refine tl_c ta_int ?_
  refine tl_c ta_cmpne ?_
  refine tl_c ta_aload ?_
  refine tl_c ta_getI ?_
  refine tl_c ta_goto ?_
  refine tl_c ta_iload ?_
  refine tl_c ta_int ?_
  refine tl_c ta_cmpne ?_
  refine tl_c ta_aload ?_
  refine tl_c ta_getI ?_
  refine tl_c ta_goto ?_
  refine tl_c ta_aload ?_
  refine tl_c ta_getS ?_
  refine tl_c ta_iload ?_
  refine tl_c ta_ild ?_
  refine tl_c ta_istore ?_
  refine tl_c ta_iload ?_
  refine tl_c ta_ifne ?_
  refine tl_c ta_aload ?_
  refine tl_c ta_iload ?_
  refine tl_c ta_putI ?_
  refine tl_c ta_iload ?_
  refine tl_c ta_int ?_
  refine tl_c ta_cmpne ?_
  refine tl_c ta_aload ?_
  refine tl_c ta_iload ?_
  refine tl_c ta_putI ?_
  refine tl_c ta_iload ?_
  refine tl_c ta_int ?_
  refine tl_c ta_cmpne ?_
  refine tl_c ta_aload ?_
  refine tl_c ta_iload ?_
  refine tl_c ta_putI ?_
  refine tl_c ta_iload ?_
  refine tl_c ta_int ?_
  refine tl_c ta_cmpne ?_
  refine tl_c ta_aload ?_
  refine tl_c ta_getS ?_
  refine tl_c ta_iload ?_
  refine tl_c ta_iload ?_
  refine tl_c ta_ist ?_
  refine tl_c ta_aload ?_
  refine tl_c ta_iload ?_
  refine tl_c ta_cv ?_
  refine tl_c ta_iload ?_
  refine tl_c ta_iret ?_
  exact trivial
set_option maxRecDepth 20000 in
theorem ok_X12_set (l : Launch) : ce_OkL l cX12_set RX12 6 (some .int) 5 0 0 pc_X12_set 0 tb_X12_set := by
  unfold tb_X12_set
  refine ok_c (j := 1) rfl (ok_iload_n (j := ⟨1, by decide⟩) (pc := 0) rfl rfl (by decide +kernel)) ?_
  refine ok_c (j := 2) rfl (ok_iconst (n := 0) (pc := 1) rfl rfl (by decide +kernel) (by decide)) ?_
  refine ok_c (j := 3) rfl (ok_iconst (n := 3) (pc := 2) rfl rfl (by decide +kernel) (by decide)) ?_
  refine ok_c (j := 4) rfl (ok_static (y := yX12_isIn) (n := 3) (d' := 1) (ix := 92) is_ci (pc := 3) rfl rfl (by decide +kernel) (by decide) rfl (ct_X12_isIn l) wd_964 wd_965 wd_75) ?_
  refine ok_c (j := 5) rfl (ok_ifne (off := 6) (tg := 12) (pc := 6) rfl rfl (by decide +kernel) rfl (by decide)) ?_
  refine ok_c (j := 6) rfl (ok_bipush (n := (-2)) (pc := 9) rfl rfl (by decide +kernel) (by decide)) ?_
  refine ok_c (j := 7) rfl (ok_iret (pc := 11) rfl (by decide +kernel) rfl) ?_
  refine ok_c (j := 8) rfl (ok_iload_n (j := ⟨1, by decide⟩) (pc := 12) rfl rfl (by decide +kernel)) ?_
  refine ok_c (j := 9) rfl (ok_ifne (off := 8) (tg := 21) (pc := 13) rfl rfl (by decide +kernel) rfl (by decide)) ?_
  refine ok_c (j := 10) rfl (ok_bipush (n := 9) (pc := 16) rfl rfl (by decide +kernel) (by decide)) ?_
  refine ok_c (j := 11) rfl (ok_goto (off := 27) (tg := 45) (pc := 18) rfl (by decide +kernel) rfl (by decide)) ?_
  refine ok_c (j := 12) rfl (ok_iload_n (j := ⟨1, by decide⟩) (pc := 21) rfl rfl (by decide +kernel)) ?_
  refine ok_c (j := 13) rfl (ok_iconst (n := 1) (pc := 22) rfl rfl (by decide +kernel) (by decide)) ?_
  refine ok_c (j := 14) rfl (ok_cmpne (off := 8) (tg := 31) (pc := 23) rfl rfl (by decide +kernel) rfl (by decide)) ?_
  refine ok_c (j := 15) rfl (ok_bipush (n := 23) (pc := 26) rfl rfl (by decide +kernel) (by decide)) ?_
  refine ok_c (j := 16) rfl (ok_goto (off := 17) (tg := 45) (pc := 28) rfl (by decide +kernel) rfl (by decide)) ?_
  refine ok_c (j := 17) rfl (ok_iload_n (j := ⟨1, by decide⟩) (pc := 31) rfl rfl (by decide +kernel)) ?_
  refine ok_c (j := 18) rfl (ok_iconst (n := 2) (pc := 32) rfl rfl (by decide +kernel) (by decide)) ?_
  refine ok_c (j := 19) rfl (ok_cmpne (off := 9) (tg := 42) (pc := 33) rfl rfl (by decide +kernel) rfl (by decide)) ?_
  refine ok_c (j := 20) rfl (ok_sipush (n := 1999) (pc := 36) rfl rfl (by decide +kernel) (by decide)) ?_
  refine ok_c (j := 21) rfl (ok_goto (off := 6) (tg := 45) (pc := 39) rfl (by decide +kernel) rfl (by decide)) ?_
  refine ok_c (j := 22) rfl (ok_sipush (n := 999) (pc := 42) rfl rfl (by decide +kernel) (by decide)) ?_
  refine ok_c (j := 23) rfl (ok_istore (j := 4) (pc := 45) rfl rfl (by decide +kernel) (by decide)) ?_
  refine ok_c (j := 24) rfl (ok_iload_n (j := ⟨1, by decide⟩) (pc := 47) rfl rfl (by decide +kernel)) ?_
  refine ok_c (j := 25) rfl (ok_iconst (n := 3) (pc := 48) rfl rfl (by decide +kernel) (by decide)) ?_
  refine ok_c (j := 26) rfl (ok_cmpne (off := 11) (tg := 60) (pc := 49) rfl rfl (by decide +kernel) rfl (by decide)) ?_
  refine ok_c (j := 27) rfl (ok_aload_n (j := ⟨0, by decide⟩) (pc := 52) rfl rfl (by decide +kernel)) ?_
  refine ok_c (j := 28) rfl (ok_iload_n (j := ⟨2, by decide⟩) (pc := 53) rfl rfl (by decide +kernel)) ?_
  refine ok_c (j := 29) rfl (ok_virtual (y := yX12_isSeller) (n := 1) (d' := 1) (t := 20) (T := TX12) (N := 45) (ix := 192) is_ci (pc := 54) rfl rfl (by decide +kernel) (by decide) (ct_X12_isSeller l) rfl (fun _ => rfl) ce_fI_rec wd_1062 wd_1064 wd_41 wd_75) ?_
  refine ok_c (j := 30) rfl (ok_ifeq (off := 13) (tg := 70) (pc := 57) rfl rfl (by decide +kernel) rfl (by decide)) ?_
  refine ok_c (j := 31) rfl (ok_iload_n (j := ⟨3, by decide⟩) (pc := 60) rfl rfl (by decide +kernel)) ?_
  refine ok_c (j := 32) rfl (ok_iconst (n := 0) (pc := 61) rfl rfl (by decide +kernel) (by decide)) ?_
  refine ok_c (j := 33) rfl (ok_iload (j := 4) (pc := 62) rfl rfl (by decide +kernel)) ?_
  refine ok_c (j := 34) rfl (ok_static (y := yX12_isIn) (n := 3) (d' := 1) (ix := 92) is_ci (pc := 64) rfl rfl (by decide +kernel) (by decide) rfl (ct_X12_isIn l) wd_964 wd_965 wd_75) ?_
  refine ok_c (j := 35) rfl (ok_ifne (off := 6) (tg := 73) (pc := 67) rfl rfl (by decide +kernel) rfl (by decide)) ?_
  refine ok_c (j := 36) rfl (ok_bipush (n := (-2)) (pc := 70) rfl rfl (by decide +kernel) (by decide)) ?_
  refine ok_c (j := 37) rfl (ok_iret (pc := 72) rfl (by decide +kernel) rfl) ?_
  refine ok_c (j := 38) rfl (ok_iload_n (j := ⟨1, by decide⟩) (pc := 73) rfl rfl (by decide +kernel)) ?_
  refine ok_c (j := 39) rfl (ok_ifne (off := 10) (tg := 84) (pc := 74) rfl rfl (by decide +kernel) rfl (by decide)) ?_
  refine ok_c (j := 40) rfl (ok_aload_n (j := ⟨0, by decide⟩) (pc := 77) rfl rfl (by decide +kernel)) ?_
  refine ok_c (j := 41) rfl (ok_getI (ci := 12) (C := RX12) (T := TX12) (N := 45) (ix := 31) (pc := 78) rfl rfl (by decide +kernel) rfl (fun _ => rfl) rfl cw_X12 (by decide) rfl wd_832) ?_
  refine ok_c (j := 42) rfl (ok_goto (off := 33) (tg := 114) (pc := 81) rfl (by decide +kernel) rfl (by decide)) ?_
  refine ok_c (j := 43) rfl (ok_iload_n (j := ⟨1, by decide⟩) (pc := 84) rfl rfl (by decide +kernel)) ?_
  refine ok_c (j := 44) rfl (ok_iconst (n := 1) (pc := 85) rfl rfl (by decide +kernel) (by decide)) ?_
  refine ok_c (j := 45) rfl (ok_cmpne (off := 10) (tg := 96) (pc := 86) rfl rfl (by decide +kernel) rfl (by decide)) ?_
  refine ok_c (j := 46) rfl (ok_aload_n (j := ⟨0, by decide⟩) (pc := 89) rfl rfl (by decide +kernel)) ?_
  refine ok_c (j := 47) rfl (ok_getI (ci := 12) (C := RX12) (T := TX12) (N := 45) (ix := 35) (pc := 90) rfl rfl (by decide +kernel) rfl (fun _ => rfl) rfl cw_X12 (by decide) rfl wd_833) ?_
  refine ok_c (j := 48) rfl (ok_goto (off := 21) (tg := 114) (pc := 93) rfl (by decide +kernel) rfl (by decide)) ?_
  refine ok_c (j := 49) rfl (ok_iload_n (j := ⟨1, by decide⟩) (pc := 96) rfl rfl (by decide +kernel)) ?_
  refine ok_c (j := 50) rfl (ok_iconst (n := 2) (pc := 97) rfl rfl (by decide +kernel) (by decide)) ?_
  refine ok_c (j := 51) rfl (ok_cmpne (off := 10) (tg := 108) (pc := 98) rfl rfl (by decide +kernel) rfl (by decide)) ?_
  refine ok_c (j := 52) rfl (ok_aload_n (j := ⟨0, by decide⟩) (pc := 101) rfl rfl (by decide +kernel)) ?_
  refine ok_c (j := 53) rfl (ok_getI (ci := 12) (C := RX12) (T := TX12) (N := 45) (ix := 38) (pc := 102) rfl rfl (by decide +kernel) rfl (fun _ => rfl) rfl cw_X12 (by decide) rfl wd_834) ?_
  refine ok_c (j := 54) rfl (ok_goto (off := 9) (tg := 114) (pc := 105) rfl (by decide +kernel) rfl (by decide)) ?_
  refine ok_c (j := 55) rfl (ok_aload_n (j := ⟨0, by decide⟩) (pc := 108) rfl rfl (by decide +kernel)) ?_
  refine ok_c (j := 56) rfl (ok_getS (f := 1) (ci := 12) (C := RX12) (T := TX12) (N := 45) (ix := 13) (pc := 109) rfl rfl (by decide +kernel) rfl (fun _ => rfl) rfl cw_X12 (by decide) rfl wd_825) ?_
  refine ok_c (j := 57) rfl (ok_iload_n (j := ⟨2, by decide⟩) (pc := 112) rfl rfl (by decide +kernel)) ?_
  refine ok_c (j := 58) rfl (ok_ild (pc := 113) rfl rfl (by decide +kernel) rfl) ?_
  refine ok_c (j := 59) rfl (ok_istore (j := 5) (pc := 114) rfl rfl (by decide +kernel) (by decide)) ?_
  refine ok_c (j := 60) rfl (ok_iload_n (j := ⟨1, by decide⟩) (pc := 116) rfl rfl (by decide +kernel)) ?_
  refine ok_c (j := 61) rfl (ok_ifne (off := 8) (tg := 125) (pc := 117) rfl rfl (by decide +kernel) rfl (by decide)) ?_
  refine ok_c (j := 62) rfl (ok_aload_n (j := ⟨0, by decide⟩) (pc := 120) rfl rfl (by decide +kernel)) ?_
  refine ok_c (j := 63) rfl (ok_iload_n (j := ⟨3, by decide⟩) (pc := 121) rfl rfl (by decide +kernel)) ?_
  refine ok_c (j := 64) rfl (ok_putI (ci := 12) (C := RX12) (T := TX12) (N := 45) (ty := tyX12) (ix := 31) (pc := 122) rfl rfl (by decide +kernel) rfl (fun _ => rfl) rfl cw_X12 tyX12_ok nmX12 (by decide) rfl rfl rfl wd_832) ?_
  refine ok_c (j := 65) rfl (ok_iload_n (j := ⟨1, by decide⟩) (pc := 125) rfl rfl (by decide +kernel)) ?_
  refine ok_c (j := 66) rfl (ok_iconst (n := 1) (pc := 126) rfl rfl (by decide +kernel) (by decide)) ?_
  refine ok_c (j := 67) rfl (ok_cmpne (off := 8) (tg := 135) (pc := 127) rfl rfl (by decide +kernel) rfl (by decide)) ?_
  refine ok_c (j := 68) rfl (ok_aload_n (j := ⟨0, by decide⟩) (pc := 130) rfl rfl (by decide +kernel)) ?_
  refine ok_c (j := 69) rfl (ok_iload_n (j := ⟨3, by decide⟩) (pc := 131) rfl rfl (by decide +kernel)) ?_
  refine ok_c (j := 70) rfl (ok_putI (ci := 12) (C := RX12) (T := TX12) (N := 45) (ty := tyX12) (ix := 35) (pc := 132) rfl rfl (by decide +kernel) rfl (fun _ => rfl) rfl cw_X12 tyX12_ok nmX12 (by decide) rfl rfl rfl wd_833) ?_
  refine ok_c (j := 71) rfl (ok_iload_n (j := ⟨1, by decide⟩) (pc := 135) rfl rfl (by decide +kernel)) ?_
  refine ok_c (j := 72) rfl (ok_iconst (n := 2) (pc := 136) rfl rfl (by decide +kernel) (by decide)) ?_
  refine ok_c (j := 73) rfl (ok_cmpne (off := 8) (tg := 145) (pc := 137) rfl rfl (by decide +kernel) rfl (by decide)) ?_
  refine ok_c (j := 74) rfl (ok_aload_n (j := ⟨0, by decide⟩) (pc := 140) rfl rfl (by decide +kernel)) ?_
  refine ok_c (j := 75) rfl (ok_iload_n (j := ⟨3, by decide⟩) (pc := 141) rfl rfl (by decide +kernel)) ?_
  refine ok_c (j := 76) rfl (ok_putI (ci := 12) (C := RX12) (T := TX12) (N := 45) (ty := tyX12) (ix := 38) (pc := 142) rfl rfl (by decide +kernel) rfl (fun _ => rfl) rfl cw_X12 tyX12_ok nmX12 (by decide) rfl rfl rfl wd_834) ?_
  refine ok_c (j := 77) rfl (ok_iload_n (j := ⟨1, by decide⟩) (pc := 145) rfl rfl (by decide +kernel)) ?_
  refine ok_c (j := 78) rfl (ok_iconst (n := 3) (pc := 146) rfl rfl (by decide +kernel) (by decide)) ?_
  refine ok_c (j := 79) rfl (ok_cmpne (off := 15) (tg := 162) (pc := 147) rfl rfl (by decide +kernel) rfl (by decide)) ?_
  refine ok_c (j := 80) rfl (ok_aload_n (j := ⟨0, by decide⟩) (pc := 150) rfl rfl (by decide +kernel)) ?_
  refine ok_c (j := 81) rfl (ok_getS (f := 1) (ci := 12) (C := RX12) (T := TX12) (N := 45) (ix := 13) (pc := 151) rfl rfl (by decide +kernel) rfl (fun _ => rfl) rfl cw_X12 (by decide) rfl wd_825) ?_
  refine ok_c (j := 82) rfl (ok_iload_n (j := ⟨2, by decide⟩) (pc := 154) rfl rfl (by decide +kernel)) ?_
  refine ok_c (j := 83) rfl (ok_iload_n (j := ⟨3, by decide⟩) (pc := 155) rfl rfl (by decide +kernel)) ?_
  refine ok_c (j := 84) rfl (ok_ist (pc := 156) rfl rfl (by decide +kernel) rfl) ?_
  refine ok_c (j := 85) rfl (ok_aload_n (j := ⟨0, by decide⟩) (pc := 157) rfl rfl (by decide +kernel)) ?_
  refine ok_c (j := 86) rfl (ok_iload_n (j := ⟨2, by decide⟩) (pc := 158) rfl rfl (by decide +kernel)) ?_
  refine ok_c (j := 87) rfl (ok_virtual (y := yX12_begins) (n := 1) (d' := 4) (t := 20) (T := TX12) (N := 45) (ix := 185) is_cv (pc := 159) rfl rfl (by decide +kernel) (by decide) (ct_X12_begins l) rfl (fun _ => rfl) ce_fV_rec wd_1036 wd_1038 wd_37 wd_75) ?_
  refine ok_c (j := 88) rfl (ok_iload (j := 5) (pc := 162) rfl rfl (by decide +kernel)) ?_
  refine ok_c (j := 89) rfl (ok_iret (pc := 164) rfl (by decide +kernel) rfl) ?_
  exact trivial
noncomputable def F_X12_set := ce_fI tb_X12_set 6 (some 20)
theorem ct_X12_set (l : Launch) : ce_callee l yX12_set 3 5 0 0 (ce_wI F_X12_set) := ⟨_, _, _, ce_ctr_of (pcs := pc_X12_set) (by decide +kernel) rfl (ok_X12_set l ) ce_fI_run, ce_tw_at wd_1061 rfl, by decide, by decide +kernel, by decide +kernel, by decide +kernel⟩
def pc_X12_anew : List Nat := [0, 1, 2, 5, 8, 10, 11, 12, 13, 16, 17, 20, 21, 22]
noncomputable def tb_X12_anew : List ce_Op := [o_aload 0, o_iload 1, o_ci 2 F_X12_isSeller 0 0 0 0, o_ifne 6, o_int (-2), o_iret, o_aload 0, o_iload 1, o_cv 2 F_X12_begins 0 0 0 0, o_aload 0, o_getS 20 24 (fun _ => 0), o_iload 1, o_ild 24, o_iret]
theorem tl_X12_anew : ce_TL tb_X12_anew := by
  unfold tb_X12_anew
  refine tl_c ta_aload ?_
  refine tl_c ta_iload ?_
  refine tl_c ta_ci ?_
  refine tl_c ta_ifne ?_
  refine tl_c ta_int ?_
  refine tl_c ta_iret ?_
  refine tl_c ta_aload ?_
  refine tl_c ta_iload ?_
  refine tl_c ta_cv ?_
  refine tl_c ta_aload ?_
  refine tl_c ta_getS ?_
  refine tl_c ta_iload ?_
  refine tl_c ta_ild ?_
  refine tl_c ta_iret ?_
  exact trivial
set_option maxRecDepth 20000 in
theorem ok_X12_anew (l : Launch) : ce_OkL l cX12_anew RX12 2 (some .int) 5 0 0 pc_X12_anew 0 tb_X12_anew := by
  unfold tb_X12_anew
  refine ok_c (j := 1) rfl (ok_aload_n (j := ⟨0, by decide⟩) (pc := 0) rfl rfl (by decide +kernel)) ?_
  refine ok_c (j := 2) rfl (ok_iload_n (j := ⟨1, by decide⟩) (pc := 1) rfl rfl (by decide +kernel)) ?_
  refine ok_c (j := 3) rfl (ok_virtual (y := yX12_isSeller) (n := 1) (d' := 1) (t := 20) (T := TX12) (N := 45) (ix := 192) is_ci (pc := 2) rfl rfl (by decide +kernel) (by decide) (ct_X12_isSeller l) rfl (fun _ => rfl) ce_fI_rec wd_1062 wd_1064 wd_41 wd_75) ?_
  refine ok_c (j := 4) rfl (ok_ifne (off := 6) (tg := 11) (pc := 5) rfl rfl (by decide +kernel) rfl (by decide)) ?_
  refine ok_c (j := 5) rfl (ok_bipush (n := (-2)) (pc := 8) rfl rfl (by decide +kernel) (by decide)) ?_
  refine ok_c (j := 6) rfl (ok_iret (pc := 10) rfl (by decide +kernel) rfl) ?_
  refine ok_c (j := 7) rfl (ok_aload_n (j := ⟨0, by decide⟩) (pc := 11) rfl rfl (by decide +kernel)) ?_
  refine ok_c (j := 8) rfl (ok_iload_n (j := ⟨1, by decide⟩) (pc := 12) rfl rfl (by decide +kernel)) ?_
  refine ok_c (j := 9) rfl (ok_virtual (y := yX12_begins) (n := 1) (d' := 4) (t := 20) (T := TX12) (N := 45) (ix := 185) is_cv (pc := 13) rfl rfl (by decide +kernel) (by decide) (ct_X12_begins l) rfl (fun _ => rfl) ce_fV_rec wd_1036 wd_1038 wd_37 wd_75) ?_
  refine ok_c (j := 10) rfl (ok_aload_n (j := ⟨0, by decide⟩) (pc := 16) rfl rfl (by decide +kernel)) ?_
  refine ok_c (j := 11) rfl (ok_getS (f := 3) (ci := 12) (C := RX12) (T := TX12) (N := 45) (ix := 19) (pc := 17) rfl rfl (by decide +kernel) rfl (fun _ => rfl) rfl cw_X12 (by decide) rfl wd_827) ?_
  refine ok_c (j := 12) rfl (ok_iload_n (j := ⟨1, by decide⟩) (pc := 20) rfl rfl (by decide +kernel)) ?_
  refine ok_c (j := 13) rfl (ok_ild (pc := 21) rfl rfl (by decide +kernel) rfl) ?_
  refine ok_c (j := 14) rfl (ok_iret (pc := 22) rfl (by decide +kernel) rfl) ?_
  exact trivial
noncomputable def F_X12_anew := ce_fI tb_X12_anew 2 (some 20)
theorem ct_X12_anew (l : Launch) : ce_callee l yX12_anew 1 5 0 0 (ce_wI F_X12_anew) := ⟨_, _, _, ce_ctr_of (pcs := pc_X12_anew) (by decide +kernel) rfl (ok_X12_anew l ) ce_fI_run, ce_tw_at wd_1069 rfl, by decide, by decide +kernel, by decide +kernel, by decide +kernel⟩
def pc_X12_word : List Nat := [0, 1, 2, 5, 8, 9, 12, 15, 17, 18, 19, 22, 23, 24, 27, 29, 32, 33, 34, 35, 38]
noncomputable def tb_X12_word : List ce_Op := [o_aload 0, o_iload 1, o_ci 2 F_X12_isSeller 0 0 0 0, o_ifeq 7, o_iload 2, o_ci 1 F_X12_isBid 0 0 0 0, o_ifne 9, o_int (-2), o_iret, o_aload 0, o_getS 20 26 (fun _ => 0), o_iload 1, o_ild 26, o_ifeq 16, o_int (-3), o_goto 20, o_aload 0, o_iload 1, o_iload 2, o_ci 3 F_X12_speaks 0 0 0 0, o_iret]
theorem tl_X12_word : ce_TL tb_X12_word := by
  unfold tb_X12_word
  refine tl_c ta_aload ?_
  refine tl_c ta_iload ?_
  refine tl_c ta_ci ?_
  refine tl_c ta_ifeq ?_
  refine tl_c ta_iload ?_
  refine tl_c ta_ci ?_
  refine tl_c ta_ifne ?_
  refine tl_c ta_int ?_
  refine tl_c ta_iret ?_
  refine tl_c ta_aload ?_
  refine tl_c ta_getS ?_
  refine tl_c ta_iload ?_
  refine tl_c ta_ild ?_
  refine tl_c ta_ifeq ?_
  refine tl_c ta_int ?_
  refine tl_c ta_goto ?_
  refine tl_c ta_aload ?_
  refine tl_c ta_iload ?_
  refine tl_c ta_iload ?_
  refine tl_c ta_ci ?_
  refine tl_c ta_iret ?_
  exact trivial
set_option maxRecDepth 20000 in
theorem ok_X12_word (l : Launch) : ce_OkL l cX12_word RX12 3 (some .int) 5 0 0 pc_X12_word 0 tb_X12_word := by
  unfold tb_X12_word
  refine ok_c (j := 1) rfl (ok_aload_n (j := ⟨0, by decide⟩) (pc := 0) rfl rfl (by decide +kernel)) ?_
  refine ok_c (j := 2) rfl (ok_iload_n (j := ⟨1, by decide⟩) (pc := 1) rfl rfl (by decide +kernel)) ?_
  refine ok_c (j := 3) rfl (ok_virtual (y := yX12_isSeller) (n := 1) (d' := 1) (t := 20) (T := TX12) (N := 45) (ix := 192) is_ci (pc := 2) rfl rfl (by decide +kernel) (by decide) (ct_X12_isSeller l) rfl (fun _ => rfl) ce_fI_rec wd_1062 wd_1064 wd_41 wd_75) ?_
  refine ok_c (j := 4) rfl (ok_ifeq (off := 10) (tg := 15) (pc := 5) rfl rfl (by decide +kernel) rfl (by decide)) ?_
  refine ok_c (j := 5) rfl (ok_iload_n (j := ⟨2, by decide⟩) (pc := 8) rfl rfl (by decide +kernel)) ?_
  refine ok_c (j := 6) rfl (ok_static (y := yX12_isBid) (n := 1) (d' := 1) (ix := 208) is_ci (pc := 9) rfl rfl (by decide +kernel) (by decide) rfl (ct_X12_isBid l) wd_1089 wd_1090 wd_75) ?_
  refine ok_c (j := 7) rfl (ok_ifne (off := 6) (tg := 18) (pc := 12) rfl rfl (by decide +kernel) rfl (by decide)) ?_
  refine ok_c (j := 8) rfl (ok_bipush (n := (-2)) (pc := 15) rfl rfl (by decide +kernel) (by decide)) ?_
  refine ok_c (j := 9) rfl (ok_iret (pc := 17) rfl (by decide +kernel) rfl) ?_
  refine ok_c (j := 10) rfl (ok_aload_n (j := ⟨0, by decide⟩) (pc := 18) rfl rfl (by decide +kernel)) ?_
  refine ok_c (j := 11) rfl (ok_getS (f := 5) (ci := 12) (C := RX12) (T := TX12) (N := 45) (ix := 25) (pc := 19) rfl rfl (by decide +kernel) rfl (fun _ => rfl) rfl cw_X12 (by decide) rfl wd_829) ?_
  refine ok_c (j := 12) rfl (ok_iload_n (j := ⟨1, by decide⟩) (pc := 22) rfl rfl (by decide +kernel)) ?_
  refine ok_c (j := 13) rfl (ok_ild (pc := 23) rfl rfl (by decide +kernel) rfl) ?_
  refine ok_c (j := 14) rfl (ok_ifeq (off := 8) (tg := 32) (pc := 24) rfl rfl (by decide +kernel) rfl (by decide)) ?_
  refine ok_c (j := 15) rfl (ok_bipush (n := (-3)) (pc := 27) rfl rfl (by decide +kernel) (by decide)) ?_
  refine ok_c (j := 16) rfl (ok_goto (off := 9) (tg := 38) (pc := 29) rfl (by decide +kernel) rfl (by decide)) ?_
  refine ok_c (j := 17) rfl (ok_aload_n (j := ⟨0, by decide⟩) (pc := 32) rfl rfl (by decide +kernel)) ?_
  refine ok_c (j := 18) rfl (ok_iload_n (j := ⟨1, by decide⟩) (pc := 33) rfl rfl (by decide +kernel)) ?_
  refine ok_c (j := 19) rfl (ok_iload_n (j := ⟨2, by decide⟩) (pc := 34) rfl rfl (by decide +kernel)) ?_
  refine ok_c (j := 20) rfl (ok_virtual (y := yX12_speaks) (n := 2) (d' := 4) (t := 20) (T := TX12) (N := 45) (ix := 211) is_ci (pc := 35) rfl rfl (by decide +kernel) (by decide) (ct_X12_speaks l) rfl (fun _ => rfl) ce_fI_rec wd_1092 wd_1094 wd_43 wd_75) ?_
  refine ok_c (j := 21) rfl (ok_iret (pc := 38) rfl (by decide +kernel) rfl) ?_
  exact trivial
noncomputable def F_X12_word := ce_fI tb_X12_word 3 (some 20)
theorem ct_X12_word (l : Launch) : ce_callee l yX12_word 2 5 0 0 (ce_wI F_X12_word) := ⟨_, _, _, ce_ctr_of (pcs := pc_X12_word) (by decide +kernel) rfl (ok_X12_word l ) ce_fI_run, ce_tw_at wd_1088 rfl, by decide, by decide +kernel, by decide +kernel, by decide +kernel⟩
def pc_X12_bids : List Nat := [0, 1, 3, 6, 7, 10, 12, 14, 15, 16, 19, 20, 23, 24, 25, 28, 29, 32, 34, 37, 39, 40, 43, 44, 45, 48, 49, 50, 53, 54, 55, 56, 57, 59, 62, 63, 64, 65, 68, 69, 70, 73, 74, 77, 78, 79, 81, 84, 86, 87, 88, 91, 92, 93, 95, 96, 97, 99, 100, 101, 103, 105, 107, 110, 112, 115, 117, 119, 122]
noncomputable def tb_X12_bids : List ce_Op := [o_iload 2, o_iload 4, o_cmpge 5, o_iload 2, o_goto 6, o_iload 4, o_istore 5, o_aload 0, o_int 0, o_putI 20 34, o_aload 0, o_getS 20 26 (fun _ => 0), o_iload 1, o_ild 26, o_ifne 68, o_aload 0, o_getI 20 34, o_int 30, o_cmpge 68, o_iload 5, o_aload 0, o_getS 20 24 (fun _ => 0), o_iload 1, o_ild 24, o_cmplt 30, o_aload 0, o_iload 1, o_ci 2 F_X12_agrees 0 0 0 0, o_pop, o_vret, o_aload 0, o_iload 1, o_iload 5, o_ci 3 F_X12_speaks 0 0 0 0, o_pop, o_aload 0, o_dup, o_getI 20 34, o_int 1, o_bin q_add, o_putI 20 34, o_aload 0, o_getS 20 24 (fun _ => 0), o_iload 1, o_ild 24, o_iload 5, o_cmple 60, o_iload 5, o_iload 3, o_aload 0, o_getS 20 24 (fun _ => 0), o_iload 1, o_ild 24, o_iload 5, o_bin q_sub, o_bin q_mul, o_int 10, o_div, o_bin q_add, o_istore 5, o_iload 5, o_iload 4, o_cmpge 65, o_iload 5, o_goto 66, o_iload 4, o_istore 5, o_goto 10, o_vret]
theorem tl_X12_bids : ce_TL tb_X12_bids := by
  unfold tb_X12_bids
  refine tl_c ta_iload ?_
  refine tl_c ta_iload ?_
  refine tl_c ta_cmpge ?_
  refine tl_c ta_iload ?_
  refine tl_c ta_goto ?_
  refine tl_c ta_iload ?_
  refine tl_c ta_istore ?_
  refine tl_c ta_aload ?_
  refine tl_c ta_int ?_
  refine tl_c ta_putI ?_
  refine tl_c ta_aload ?_
  refine tl_c ta_getS ?_
  refine tl_c ta_iload ?_
  refine tl_c ta_ild ?_
  refine tl_c ta_ifne ?_
  refine tl_c ta_aload ?_
  refine tl_c ta_getI ?_
  refine tl_c ta_int ?_
  refine tl_c ta_cmpge ?_
  refine tl_c ta_iload ?_
  refine tl_c ta_aload ?_
  refine tl_c ta_getS ?_
  refine tl_c ta_iload ?_
  refine tl_c ta_ild ?_
  refine tl_c ta_cmplt ?_
  refine tl_c ta_aload ?_
  refine tl_c ta_iload ?_
  refine tl_c ta_ci ?_
  refine tl_c ta_pop ?_
  refine tl_c ta_vret ?_
  refine tl_c ta_aload ?_
  refine tl_c ta_iload ?_
  refine tl_c ta_iload ?_
  refine tl_c ta_ci ?_
  refine tl_c ta_pop ?_
  refine tl_c ta_aload ?_
  refine tl_c ta_dup ?_
  refine tl_c ta_getI ?_
  refine tl_c ta_int ?_
  refine tl_c ta_bin ?_
  refine tl_c ta_putI ?_
  refine tl_c ta_aload ?_
  refine tl_c ta_getS ?_
  refine tl_c ta_iload ?_
  refine tl_c ta_ild ?_
  refine tl_c ta_iload ?_
  refine tl_c ta_cmple ?_
  refine tl_c ta_iload ?_
  refine tl_c ta_iload ?_
  refine tl_c ta_aload ?_
  refine tl_c ta_getS ?_
  refine tl_c ta_iload ?_
  refine tl_c ta_ild ?_
  refine tl_c ta_iload ?_
  refine tl_c ta_bin ?_
  refine tl_c ta_bin ?_
  refine tl_c ta_int ?_
  refine tl_c ta_div ?_
  refine tl_c ta_bin ?_
  refine tl_c ta_istore ?_
  refine tl_c ta_iload ?_
  refine tl_c ta_iload ?_
  refine tl_c ta_cmpge ?_
  refine tl_c ta_iload ?_
  refine tl_c ta_goto ?_
  refine tl_c ta_iload ?_
  refine tl_c ta_istore ?_
  refine tl_c ta_goto ?_
  refine tl_c ta_vret ?_
  exact trivial
set_option maxRecDepth 20000 in
theorem ok_X12_bids (l : Launch) : ce_OkL l cX12_bids RX12 6 none 5 0 0 pc_X12_bids 0 tb_X12_bids := by
  unfold tb_X12_bids
  refine ok_c (j := 1) rfl (ok_iload_n (j := ⟨2, by decide⟩) (pc := 0) rfl rfl (by decide +kernel)) ?_
  refine ok_c (j := 2) rfl (ok_iload (j := 4) (pc := 1) rfl rfl (by decide +kernel)) ?_
  refine ok_c (j := 3) rfl (ok_cmpge (off := 7) (tg := 10) (pc := 3) rfl rfl (by decide +kernel) rfl (by decide)) ?_
  refine ok_c (j := 4) rfl (ok_iload_n (j := ⟨2, by decide⟩) (pc := 6) rfl rfl (by decide +kernel)) ?_
  refine ok_c (j := 5) rfl (ok_goto (off := 5) (tg := 12) (pc := 7) rfl (by decide +kernel) rfl (by decide)) ?_
  refine ok_c (j := 6) rfl (ok_iload (j := 4) (pc := 10) rfl rfl (by decide +kernel)) ?_
  refine ok_c (j := 7) rfl (ok_istore (j := 5) (pc := 12) rfl rfl (by decide +kernel) (by decide)) ?_
  refine ok_c (j := 8) rfl (ok_aload_n (j := ⟨0, by decide⟩) (pc := 14) rfl rfl (by decide +kernel)) ?_
  refine ok_c (j := 9) rfl (ok_iconst (n := 0) (pc := 15) rfl rfl (by decide +kernel) (by decide)) ?_
  refine ok_c (j := 10) rfl (ok_putI (ci := 12) (C := RX12) (T := TX12) (N := 45) (ty := tyX12) (ix := 246) (pc := 16) rfl rfl (by decide +kernel) rfl (fun _ => rfl) rfl cw_X12 tyX12_ok nmX12 (by decide) rfl rfl rfl wd_858) ?_
  refine ok_c (j := 11) rfl (ok_aload_n (j := ⟨0, by decide⟩) (pc := 19) rfl rfl (by decide +kernel)) ?_
  refine ok_c (j := 12) rfl (ok_getS (f := 5) (ci := 12) (C := RX12) (T := TX12) (N := 45) (ix := 25) (pc := 20) rfl rfl (by decide +kernel) rfl (fun _ => rfl) rfl cw_X12 (by decide) rfl wd_829) ?_
  refine ok_c (j := 13) rfl (ok_iload_n (j := ⟨1, by decide⟩) (pc := 23) rfl rfl (by decide +kernel)) ?_
  refine ok_c (j := 14) rfl (ok_ild (pc := 24) rfl rfl (by decide +kernel) rfl) ?_
  refine ok_c (j := 15) rfl (ok_ifne (off := 97) (tg := 122) (pc := 25) rfl rfl (by decide +kernel) rfl (by decide)) ?_
  refine ok_c (j := 16) rfl (ok_aload_n (j := ⟨0, by decide⟩) (pc := 28) rfl rfl (by decide +kernel)) ?_
  refine ok_c (j := 17) rfl (ok_getI (ci := 12) (C := RX12) (T := TX12) (N := 45) (ix := 246) (pc := 29) rfl rfl (by decide +kernel) rfl (fun _ => rfl) rfl cw_X12 (by decide) rfl wd_858) ?_
  refine ok_c (j := 18) rfl (ok_bipush (n := 30) (pc := 32) rfl rfl (by decide +kernel) (by decide)) ?_
  refine ok_c (j := 19) rfl (ok_cmpge (off := 88) (tg := 122) (pc := 34) rfl rfl (by decide +kernel) rfl (by decide)) ?_
  refine ok_c (j := 20) rfl (ok_iload (j := 5) (pc := 37) rfl rfl (by decide +kernel)) ?_
  refine ok_c (j := 21) rfl (ok_aload_n (j := ⟨0, by decide⟩) (pc := 39) rfl rfl (by decide +kernel)) ?_
  refine ok_c (j := 22) rfl (ok_getS (f := 3) (ci := 12) (C := RX12) (T := TX12) (N := 45) (ix := 19) (pc := 40) rfl rfl (by decide +kernel) rfl (fun _ => rfl) rfl cw_X12 (by decide) rfl wd_827) ?_
  refine ok_c (j := 23) rfl (ok_iload_n (j := ⟨1, by decide⟩) (pc := 43) rfl rfl (by decide +kernel)) ?_
  refine ok_c (j := 24) rfl (ok_ild (pc := 44) rfl rfl (by decide +kernel) rfl) ?_
  refine ok_c (j := 25) rfl (ok_cmplt (off := 10) (tg := 55) (pc := 45) rfl rfl (by decide +kernel) rfl (by decide)) ?_
  refine ok_c (j := 26) rfl (ok_aload_n (j := ⟨0, by decide⟩) (pc := 48) rfl rfl (by decide +kernel)) ?_
  refine ok_c (j := 27) rfl (ok_iload_n (j := ⟨1, by decide⟩) (pc := 49) rfl rfl (by decide +kernel)) ?_
  refine ok_c (j := 28) rfl (ok_virtual (y := yX12_agrees) (n := 1) (d' := 1) (t := 20) (T := TX12) (N := 45) (ix := 214) is_ci (pc := 50) rfl rfl (by decide +kernel) (by decide) (ct_X12_agrees l) rfl (fun _ => rfl) ce_fI_rec wd_1108 wd_1110 wd_46 wd_75) ?_
  refine ok_c (j := 29) rfl (ok_pop (pc := 53) rfl rfl (by decide +kernel)) ?_
  refine ok_c (j := 30) rfl (ok_vret (pc := 54) rfl (by decide +kernel) rfl) ?_
  refine ok_c (j := 31) rfl (ok_aload_n (j := ⟨0, by decide⟩) (pc := 55) rfl rfl (by decide +kernel)) ?_
  refine ok_c (j := 32) rfl (ok_iload_n (j := ⟨1, by decide⟩) (pc := 56) rfl rfl (by decide +kernel)) ?_
  refine ok_c (j := 33) rfl (ok_iload (j := 5) (pc := 57) rfl rfl (by decide +kernel)) ?_
  refine ok_c (j := 34) rfl (ok_virtual (y := yX12_speaks) (n := 2) (d' := 4) (t := 20) (T := TX12) (N := 45) (ix := 211) is_ci (pc := 59) rfl rfl (by decide +kernel) (by decide) (ct_X12_speaks l) rfl (fun _ => rfl) ce_fI_rec wd_1092 wd_1094 wd_43 wd_75) ?_
  refine ok_c (j := 35) rfl (ok_pop (pc := 62) rfl rfl (by decide +kernel)) ?_
  refine ok_c (j := 36) rfl (ok_aload_n (j := ⟨0, by decide⟩) (pc := 63) rfl rfl (by decide +kernel)) ?_
  refine ok_c (j := 37) rfl (ok_dup (pc := 64) rfl rfl (by decide +kernel)) ?_
  refine ok_c (j := 38) rfl (ok_getI (ci := 12) (C := RX12) (T := TX12) (N := 45) (ix := 246) (pc := 65) rfl rfl (by decide +kernel) rfl (fun _ => rfl) rfl cw_X12 (by decide) rfl wd_858) ?_
  refine ok_c (j := 39) rfl (ok_iconst (n := 1) (pc := 68) rfl rfl (by decide +kernel) (by decide)) ?_
  refine ok_c (j := 40) rfl (ok_iadd (pc := 69) rfl rfl (by decide +kernel)) ?_
  refine ok_c (j := 41) rfl (ok_putI (ci := 12) (C := RX12) (T := TX12) (N := 45) (ty := tyX12) (ix := 246) (pc := 70) rfl rfl (by decide +kernel) rfl (fun _ => rfl) rfl cw_X12 tyX12_ok nmX12 (by decide) rfl rfl rfl wd_858) ?_
  refine ok_c (j := 42) rfl (ok_aload_n (j := ⟨0, by decide⟩) (pc := 73) rfl rfl (by decide +kernel)) ?_
  refine ok_c (j := 43) rfl (ok_getS (f := 3) (ci := 12) (C := RX12) (T := TX12) (N := 45) (ix := 19) (pc := 74) rfl rfl (by decide +kernel) rfl (fun _ => rfl) rfl cw_X12 (by decide) rfl wd_827) ?_
  refine ok_c (j := 44) rfl (ok_iload_n (j := ⟨1, by decide⟩) (pc := 77) rfl rfl (by decide +kernel)) ?_
  refine ok_c (j := 45) rfl (ok_ild (pc := 78) rfl rfl (by decide +kernel) rfl) ?_
  refine ok_c (j := 46) rfl (ok_iload (j := 5) (pc := 79) rfl rfl (by decide +kernel)) ?_
  refine ok_c (j := 47) rfl (ok_cmple (off := 22) (tg := 103) (pc := 81) rfl rfl (by decide +kernel) rfl (by decide)) ?_
  refine ok_c (j := 48) rfl (ok_iload (j := 5) (pc := 84) rfl rfl (by decide +kernel)) ?_
  refine ok_c (j := 49) rfl (ok_iload_n (j := ⟨3, by decide⟩) (pc := 86) rfl rfl (by decide +kernel)) ?_
  refine ok_c (j := 50) rfl (ok_aload_n (j := ⟨0, by decide⟩) (pc := 87) rfl rfl (by decide +kernel)) ?_
  refine ok_c (j := 51) rfl (ok_getS (f := 3) (ci := 12) (C := RX12) (T := TX12) (N := 45) (ix := 19) (pc := 88) rfl rfl (by decide +kernel) rfl (fun _ => rfl) rfl cw_X12 (by decide) rfl wd_827) ?_
  refine ok_c (j := 52) rfl (ok_iload_n (j := ⟨1, by decide⟩) (pc := 91) rfl rfl (by decide +kernel)) ?_
  refine ok_c (j := 53) rfl (ok_ild (pc := 92) rfl rfl (by decide +kernel) rfl) ?_
  refine ok_c (j := 54) rfl (ok_iload (j := 5) (pc := 93) rfl rfl (by decide +kernel)) ?_
  refine ok_c (j := 55) rfl (ok_isub (pc := 95) rfl rfl (by decide +kernel)) ?_
  refine ok_c (j := 56) rfl (ok_imul (pc := 96) rfl rfl (by decide +kernel)) ?_
  refine ok_c (j := 57) rfl (ok_bipush (n := 10) (pc := 97) rfl rfl (by decide +kernel) (by decide)) ?_
  refine ok_c (j := 58) rfl (ok_idiv (pc := 99) rfl rfl (by decide +kernel)) ?_
  refine ok_c (j := 59) rfl (ok_iadd (pc := 100) rfl rfl (by decide +kernel)) ?_
  refine ok_c (j := 60) rfl (ok_istore (j := 5) (pc := 101) rfl rfl (by decide +kernel) (by decide)) ?_
  refine ok_c (j := 61) rfl (ok_iload (j := 5) (pc := 103) rfl rfl (by decide +kernel)) ?_
  refine ok_c (j := 62) rfl (ok_iload (j := 4) (pc := 105) rfl rfl (by decide +kernel)) ?_
  refine ok_c (j := 63) rfl (ok_cmpge (off := 8) (tg := 115) (pc := 107) rfl rfl (by decide +kernel) rfl (by decide)) ?_
  refine ok_c (j := 64) rfl (ok_iload (j := 5) (pc := 110) rfl rfl (by decide +kernel)) ?_
  refine ok_c (j := 65) rfl (ok_goto (off := 5) (tg := 117) (pc := 112) rfl (by decide +kernel) rfl (by decide)) ?_
  refine ok_c (j := 66) rfl (ok_iload (j := 4) (pc := 115) rfl rfl (by decide +kernel)) ?_
  refine ok_c (j := 67) rfl (ok_istore (j := 5) (pc := 117) rfl rfl (by decide +kernel) (by decide)) ?_
  refine ok_c (j := 68) rfl (ok_goto (off := (-100)) (tg := 19) (pc := 119) rfl (by decide +kernel) rfl (by decide)) ?_
  refine ok_c (j := 69) rfl (ok_vret (pc := 122) rfl (by decide +kernel) rfl) ?_
  exact trivial
noncomputable def F_X12_bids := ce_fV tb_X12_bids 6 (some 20)
theorem ct_X12_bids (l : Launch) : ce_callee l yX12_bids 4 5 0 0 (ce_wV F_X12_bids) := ⟨_, _, _, ce_ctr_of (pcs := pc_X12_bids) (by decide +kernel) rfl (ok_X12_bids l ) ce_fV_run, ce_tw_at wd_1146 rfl, by decide, by decide +kernel, by decide +kernel, by decide +kernel⟩
def pc_X12_isJustSo : List Nat := [0, 1, 2, 5, 6, 7, 8, 9, 12, 13, 14, 17, 18, 21, 23, 24, 25, 26, 27, 28, 30, 32, 35, 38, 39, 40, 42, 45, 48, 49, 52, 53, 54, 55, 58, 60, 61, 62, 63, 64, 65, 66, 67, 70, 71, 72, 75, 78, 79]
noncomputable def tb_X12_isJustSo : List ce_Op := [o_aload 0, o_iload 1, o_cv 2 F_X12_begins 0 0 0 0, o_int 0, o_istore 3, o_iload 3, o_aload 0, o_getS 20 35 (fun _ => 0), o_iload 2, o_ild 35, o_cmpge 47, o_aload 0, o_getS 20 36 (fun _ => 0), o_int 40, o_iload 2, o_bin q_mul, o_iload 3, o_bin q_add, o_ild 36, o_istore 4, o_iload 4, o_ci 1 F_X12_isBid 0 0 0 0, o_ifeq 43, o_aload 0, o_iload 1, o_iload 4, o_ci 3 F_X12_speaks 0 0 0 0, o_ifne 43, o_aload 0, o_getS 20 24 (fun _ => 0), o_iload 1, o_ild 24, o_aload 0, o_getS 20 36 (fun _ => 0), o_int 40, o_iload 2, o_bin q_mul, o_iload 3, o_bin q_add, o_int 1, o_bin q_add, o_ild 36, o_cmpeq 45, o_int 0, o_zret, o_iinc 3 2, o_goto 5, o_int 1, o_zret]
theorem tl_X12_isJustSo : ce_TL tb_X12_isJustSo := by
  unfold tb_X12_isJustSo
  refine tl_c ta_aload ?_
  refine tl_c ta_iload ?_
  refine tl_c ta_cv ?_
  refine tl_c ta_int ?_
  refine tl_c ta_istore ?_
  refine tl_c ta_iload ?_
  refine tl_c ta_aload ?_
  refine tl_c ta_getS ?_
  refine tl_c ta_iload ?_
  refine tl_c ta_ild ?_
  refine tl_c ta_cmpge ?_
  refine tl_c ta_aload ?_
  refine tl_c ta_getS ?_
  refine tl_c ta_int ?_
  refine tl_c ta_iload ?_
  refine tl_c ta_bin ?_
  refine tl_c ta_iload ?_
  refine tl_c ta_bin ?_
  refine tl_c ta_ild ?_
  refine tl_c ta_istore ?_
  refine tl_c ta_iload ?_
  refine tl_c ta_ci ?_
  refine tl_c ta_ifeq ?_
  refine tl_c ta_aload ?_
  refine tl_c ta_iload ?_
  refine tl_c ta_iload ?_
  refine tl_c ta_ci ?_
  refine tl_c ta_ifne ?_
  refine tl_c ta_aload ?_
  refine tl_c ta_getS ?_
  refine tl_c ta_iload ?_
  refine tl_c ta_ild ?_
  refine tl_c ta_aload ?_
  refine tl_c ta_getS ?_
  refine tl_c ta_int ?_
  refine tl_c ta_iload ?_
  refine tl_c ta_bin ?_
  refine tl_c ta_iload ?_
  refine tl_c ta_bin ?_
  refine tl_c ta_int ?_
  refine tl_c ta_bin ?_
  refine tl_c ta_ild ?_
  refine tl_c ta_cmpeq ?_
  refine tl_c ta_int ?_
  refine tl_c ta_zret ?_
  refine tl_c ta_iinc ?_
  refine tl_c ta_goto ?_
  refine tl_c ta_int ?_
  refine tl_c ta_zret ?_
  exact trivial
set_option maxRecDepth 20000 in
theorem ok_X12_isJustSo (l : Launch) : ce_OkL l cX12_isJustSo RX12 5 (some .boolean) 5 0 0 pc_X12_isJustSo 0 tb_X12_isJustSo := by
  unfold tb_X12_isJustSo
  refine ok_c (j := 1) rfl (ok_aload_n (j := ⟨0, by decide⟩) (pc := 0) rfl rfl (by decide +kernel)) ?_
  refine ok_c (j := 2) rfl (ok_iload_n (j := ⟨1, by decide⟩) (pc := 1) rfl rfl (by decide +kernel)) ?_
  refine ok_c (j := 3) rfl (ok_virtual (y := yX12_begins) (n := 1) (d' := 4) (t := 20) (T := TX12) (N := 45) (ix := 185) is_cv (pc := 2) rfl rfl (by decide +kernel) (by decide) (ct_X12_begins l) rfl (fun _ => rfl) ce_fV_rec wd_1036 wd_1038 wd_37 wd_75) ?_
  refine ok_c (j := 4) rfl (ok_iconst (n := 0) (pc := 5) rfl rfl (by decide +kernel) (by decide)) ?_
  refine ok_c (j := 5) rfl (ok_istore_n (j := ⟨3, by decide⟩) (pc := 6) rfl rfl (by decide +kernel) (by decide)) ?_
  refine ok_c (j := 6) rfl (ok_iload_n (j := ⟨3, by decide⟩) (pc := 7) rfl rfl (by decide +kernel)) ?_
  refine ok_c (j := 7) rfl (ok_aload_n (j := ⟨0, by decide⟩) (pc := 8) rfl rfl (by decide +kernel)) ?_
  refine ok_c (j := 8) rfl (ok_getS (f := 42) (ci := 12) (C := RX12) (T := TX12) (N := 45) (ix := 70) (pc := 9) rfl rfl (by decide +kernel) rfl (fun _ => rfl) rfl cw_X12 (by decide) rfl wd_866) ?_
  refine ok_c (j := 9) rfl (ok_iload_n (j := ⟨2, by decide⟩) (pc := 12) rfl rfl (by decide +kernel)) ?_
  refine ok_c (j := 10) rfl (ok_ild (pc := 13) rfl rfl (by decide +kernel) rfl) ?_
  refine ok_c (j := 11) rfl (ok_cmpge (off := 64) (tg := 78) (pc := 14) rfl rfl (by decide +kernel) rfl (by decide)) ?_
  refine ok_c (j := 12) rfl (ok_aload_n (j := ⟨0, by decide⟩) (pc := 17) rfl rfl (by decide +kernel)) ?_
  refine ok_c (j := 13) rfl (ok_getS (f := 43) (ci := 12) (C := RX12) (T := TX12) (N := 45) (ix := 73) (pc := 18) rfl rfl (by decide +kernel) rfl (fun _ => rfl) rfl cw_X12 (by decide) rfl wd_867) ?_
  refine ok_c (j := 14) rfl (ok_bipush (n := 40) (pc := 21) rfl rfl (by decide +kernel) (by decide)) ?_
  refine ok_c (j := 15) rfl (ok_iload_n (j := ⟨2, by decide⟩) (pc := 23) rfl rfl (by decide +kernel)) ?_
  refine ok_c (j := 16) rfl (ok_imul (pc := 24) rfl rfl (by decide +kernel)) ?_
  refine ok_c (j := 17) rfl (ok_iload_n (j := ⟨3, by decide⟩) (pc := 25) rfl rfl (by decide +kernel)) ?_
  refine ok_c (j := 18) rfl (ok_iadd (pc := 26) rfl rfl (by decide +kernel)) ?_
  refine ok_c (j := 19) rfl (ok_ild (pc := 27) rfl rfl (by decide +kernel) rfl) ?_
  refine ok_c (j := 20) rfl (ok_istore (j := 4) (pc := 28) rfl rfl (by decide +kernel) (by decide)) ?_
  refine ok_c (j := 21) rfl (ok_iload (j := 4) (pc := 30) rfl rfl (by decide +kernel)) ?_
  refine ok_c (j := 22) rfl (ok_static (y := yX12_isBid) (n := 1) (d' := 1) (ix := 208) is_ci (pc := 32) rfl rfl (by decide +kernel) (by decide) rfl (ct_X12_isBid l) wd_1089 wd_1090 wd_75) ?_
  refine ok_c (j := 23) rfl (ok_ifeq (off := 35) (tg := 70) (pc := 35) rfl rfl (by decide +kernel) rfl (by decide)) ?_
  refine ok_c (j := 24) rfl (ok_aload_n (j := ⟨0, by decide⟩) (pc := 38) rfl rfl (by decide +kernel)) ?_
  refine ok_c (j := 25) rfl (ok_iload_n (j := ⟨1, by decide⟩) (pc := 39) rfl rfl (by decide +kernel)) ?_
  refine ok_c (j := 26) rfl (ok_iload (j := 4) (pc := 40) rfl rfl (by decide +kernel)) ?_
  refine ok_c (j := 27) rfl (ok_virtual (y := yX12_speaks) (n := 2) (d' := 4) (t := 20) (T := TX12) (N := 45) (ix := 211) is_ci (pc := 42) rfl rfl (by decide +kernel) (by decide) (ct_X12_speaks l) rfl (fun _ => rfl) ce_fI_rec wd_1092 wd_1094 wd_43 wd_75) ?_
  refine ok_c (j := 28) rfl (ok_ifne (off := 25) (tg := 70) (pc := 45) rfl rfl (by decide +kernel) rfl (by decide)) ?_
  refine ok_c (j := 29) rfl (ok_aload_n (j := ⟨0, by decide⟩) (pc := 48) rfl rfl (by decide +kernel)) ?_
  refine ok_c (j := 30) rfl (ok_getS (f := 3) (ci := 12) (C := RX12) (T := TX12) (N := 45) (ix := 19) (pc := 49) rfl rfl (by decide +kernel) rfl (fun _ => rfl) rfl cw_X12 (by decide) rfl wd_827) ?_
  refine ok_c (j := 31) rfl (ok_iload_n (j := ⟨1, by decide⟩) (pc := 52) rfl rfl (by decide +kernel)) ?_
  refine ok_c (j := 32) rfl (ok_ild (pc := 53) rfl rfl (by decide +kernel) rfl) ?_
  refine ok_c (j := 33) rfl (ok_aload_n (j := ⟨0, by decide⟩) (pc := 54) rfl rfl (by decide +kernel)) ?_
  refine ok_c (j := 34) rfl (ok_getS (f := 43) (ci := 12) (C := RX12) (T := TX12) (N := 45) (ix := 73) (pc := 55) rfl rfl (by decide +kernel) rfl (fun _ => rfl) rfl cw_X12 (by decide) rfl wd_867) ?_
  refine ok_c (j := 35) rfl (ok_bipush (n := 40) (pc := 58) rfl rfl (by decide +kernel) (by decide)) ?_
  refine ok_c (j := 36) rfl (ok_iload_n (j := ⟨2, by decide⟩) (pc := 60) rfl rfl (by decide +kernel)) ?_
  refine ok_c (j := 37) rfl (ok_imul (pc := 61) rfl rfl (by decide +kernel)) ?_
  refine ok_c (j := 38) rfl (ok_iload_n (j := ⟨3, by decide⟩) (pc := 62) rfl rfl (by decide +kernel)) ?_
  refine ok_c (j := 39) rfl (ok_iadd (pc := 63) rfl rfl (by decide +kernel)) ?_
  refine ok_c (j := 40) rfl (ok_iconst (n := 1) (pc := 64) rfl rfl (by decide +kernel) (by decide)) ?_
  refine ok_c (j := 41) rfl (ok_iadd (pc := 65) rfl rfl (by decide +kernel)) ?_
  refine ok_c (j := 42) rfl (ok_ild (pc := 66) rfl rfl (by decide +kernel) rfl) ?_
  refine ok_c (j := 43) rfl (ok_cmpeq (off := 5) (tg := 72) (pc := 67) rfl rfl (by decide +kernel) rfl (by decide)) ?_
  refine ok_c (j := 44) rfl (ok_iconst (n := 0) (pc := 70) rfl rfl (by decide +kernel) (by decide)) ?_
  refine ok_c (j := 45) rfl (ok_zret (pc := 71) rfl (by decide +kernel) rfl) ?_
  refine ok_c (j := 46) rfl (ok_iinc (n := 2) (pc := 72) rfl rfl (by decide +kernel) (by decide) (by decide)) ?_
  refine ok_c (j := 47) rfl (ok_goto (off := (-68)) (tg := 7) (pc := 75) rfl (by decide +kernel) rfl (by decide)) ?_
  refine ok_c (j := 48) rfl (ok_iconst (n := 1) (pc := 78) rfl rfl (by decide +kernel) (by decide)) ?_
  refine ok_c (j := 49) rfl (ok_zret (pc := 79) rfl (by decide +kernel) rfl) ?_
  exact trivial
noncomputable def F_X12_isJustSo := ce_fI tb_X12_isJustSo 5 (some 20)
theorem ct_X12_isJustSo (l : Launch) : ce_callee l yX12_isJustSo 2 5 0 0 (ce_wI F_X12_isJustSo) := ⟨_, _, _, ce_ctr_of (pcs := pc_X12_isJustSo) (by decide +kernel) rfl (ok_X12_isJustSo l ) ce_fI_run, ce_tw_at wd_1173 rfl, by decide, by decide +kernel, by decide +kernel, by decide +kernel⟩
def pc_X12_judge : List Nat := [0, 1, 2, 5, 8, 9, 12, 15, 17, 18, 19, 22, 23, 24, 27, 29, 30, 31, 32, 35, 36, 37, 38, 40, 42, 43, 46, 47, 48, 51, 52, 55, 56, 59, 61, 62, 63, 65, 66, 67, 69, 70, 73, 74, 75, 78, 80, 83, 86, 88, 89, 92, 93, 94, 96, 99, 100, 103, 106, 107, 108, 109, 112, 115, 116]
noncomputable def tb_X12_judge : List ce_Op := [o_aload 0, o_iload 1, o_ci 2 F_X12_isSeller 0 0 0 0, o_ifeq 7, o_iload 2, o_ci 1 F_X12_isSheet 0 0 0 0, o_ifne 9, o_int (-2), o_iret, o_aload 0, o_getS 20 34 (fun _ => 0), o_iload 2, o_ild 34, o_ifge 16, o_int (-11), o_iret, o_aload 0, o_int 1, o_cv 2 F_X12_keeps 0 0 0 0, o_int (-1), o_istore 3, o_int 0, o_istore 4, o_iload 4, o_aload 0, o_getS 20 35 (fun _ => 0), o_iload 2, o_ild 35, o_cmpge 58, o_iload 3, o_ifge 58, o_aload 0, o_getS 20 36 (fun _ => 0), o_int 40, o_iload 2, o_bin q_mul, o_iload 4, o_bin q_add, o_ild 36, o_istore 5, o_aload 0, o_getS 20 26 (fun _ => 0), o_iload 1, o_ild 26, o_ifne 48, o_iload 5, o_ci 1 F_X12_isBid 0 0 0 0, o_ifne 51, o_iload 4, o_istore 3, o_goto 56, o_aload 0, o_iload 1, o_iload 5, o_ci 3 F_X12_speaks 0 0 0 0, o_pop, o_iinc 4 1, o_goto 23, o_aload 0, o_int 1, o_aload 0, o_getI 20 7, o_cv 3 F_X12_putsBack 0 0 0 0, o_iload 3, o_iret]
theorem tl_X12_judge : ce_TL tb_X12_judge := by
  unfold tb_X12_judge
  refine tl_c ta_aload ?_
  refine tl_c ta_iload ?_
  refine tl_c ta_ci ?_
  refine tl_c ta_ifeq ?_
  refine tl_c ta_iload ?_
  refine tl_c ta_ci ?_
  refine tl_c ta_ifne ?_
  refine tl_c ta_int ?_
  refine tl_c ta_iret ?_
  refine tl_c ta_aload ?_
  refine tl_c ta_getS ?_
  refine tl_c ta_iload ?_
  refine tl_c ta_ild ?_
  refine tl_c ta_ifge ?_
  refine tl_c ta_int ?_
  refine tl_c ta_iret ?_
  refine tl_c ta_aload ?_
  refine tl_c ta_int ?_
  refine tl_c ta_cv ?_
  refine tl_c ta_int ?_
  refine tl_c ta_istore ?_
  refine tl_c ta_int ?_
  refine tl_c ta_istore ?_
  refine tl_c ta_iload ?_
  refine tl_c ta_aload ?_
  refine tl_c ta_getS ?_
  refine tl_c ta_iload ?_
  refine tl_c ta_ild ?_
  refine tl_c ta_cmpge ?_
  refine tl_c ta_iload ?_
  refine tl_c ta_ifge ?_
  refine tl_c ta_aload ?_
  refine tl_c ta_getS ?_
  refine tl_c ta_int ?_
  refine tl_c ta_iload ?_
  refine tl_c ta_bin ?_
  refine tl_c ta_iload ?_
  refine tl_c ta_bin ?_
  refine tl_c ta_ild ?_
  refine tl_c ta_istore ?_
  refine tl_c ta_aload ?_
  refine tl_c ta_getS ?_
  refine tl_c ta_iload ?_
  refine tl_c ta_ild ?_
  refine tl_c ta_ifne ?_
  refine tl_c ta_iload ?_
  refine tl_c ta_ci ?_
  refine tl_c ta_ifne ?_
  refine tl_c ta_iload ?_
  refine tl_c ta_istore ?_
  refine tl_c ta_goto ?_
  refine tl_c ta_aload ?_
  refine tl_c ta_iload ?_
  refine tl_c ta_iload ?_
  refine tl_c ta_ci ?_
  refine tl_c ta_pop ?_
  refine tl_c ta_iinc ?_
  refine tl_c ta_goto ?_
  refine tl_c ta_aload ?_
  refine tl_c ta_int ?_
  refine tl_c ta_aload ?_
  refine tl_c ta_getI ?_
  refine tl_c ta_cv ?_
  refine tl_c ta_iload ?_
  refine tl_c ta_iret ?_
  exact trivial
set_option maxRecDepth 20000 in
theorem ok_X12_judge (l : Launch) : ce_OkL l cX12_judge RX12 6 (some .int) 5 0 0 pc_X12_judge 0 tb_X12_judge := by
  unfold tb_X12_judge
  refine ok_c (j := 1) rfl (ok_aload_n (j := ⟨0, by decide⟩) (pc := 0) rfl rfl (by decide +kernel)) ?_
  refine ok_c (j := 2) rfl (ok_iload_n (j := ⟨1, by decide⟩) (pc := 1) rfl rfl (by decide +kernel)) ?_
  refine ok_c (j := 3) rfl (ok_virtual (y := yX12_isSeller) (n := 1) (d' := 1) (t := 20) (T := TX12) (N := 45) (ix := 192) is_ci (pc := 2) rfl rfl (by decide +kernel) (by decide) (ct_X12_isSeller l) rfl (fun _ => rfl) ce_fI_rec wd_1062 wd_1064 wd_41 wd_75) ?_
  refine ok_c (j := 4) rfl (ok_ifeq (off := 10) (tg := 15) (pc := 5) rfl rfl (by decide +kernel) rfl (by decide)) ?_
  refine ok_c (j := 5) rfl (ok_iload_n (j := ⟨2, by decide⟩) (pc := 8) rfl rfl (by decide +kernel)) ?_
  refine ok_c (j := 6) rfl (ok_static (y := yX12_isSheet) (n := 1) (d' := 1) (ix := 269) is_ci (pc := 9) rfl rfl (by decide +kernel) (by decide) rfl (ct_X12_isSheet l) wd_1167 wd_1168 wd_75) ?_
  refine ok_c (j := 7) rfl (ok_ifne (off := 6) (tg := 18) (pc := 12) rfl rfl (by decide +kernel) rfl (by decide)) ?_
  refine ok_c (j := 8) rfl (ok_bipush (n := (-2)) (pc := 15) rfl rfl (by decide +kernel) (by decide)) ?_
  refine ok_c (j := 9) rfl (ok_iret (pc := 17) rfl (by decide +kernel) rfl) ?_
  refine ok_c (j := 10) rfl (ok_aload_n (j := ⟨0, by decide⟩) (pc := 18) rfl rfl (by decide +kernel)) ?_
  refine ok_c (j := 11) rfl (ok_getS (f := 41) (ci := 12) (C := RX12) (T := TX12) (N := 45) (ix := 67) (pc := 19) rfl rfl (by decide +kernel) rfl (fun _ => rfl) rfl cw_X12 (by decide) rfl wd_865) ?_
  refine ok_c (j := 12) rfl (ok_iload_n (j := ⟨2, by decide⟩) (pc := 22) rfl rfl (by decide +kernel)) ?_
  refine ok_c (j := 13) rfl (ok_ild (pc := 23) rfl rfl (by decide +kernel) rfl) ?_
  refine ok_c (j := 14) rfl (ok_ifge (off := 6) (tg := 30) (pc := 24) rfl rfl (by decide +kernel) rfl (by decide)) ?_
  refine ok_c (j := 15) rfl (ok_bipush (n := (-11)) (pc := 27) rfl rfl (by decide +kernel) (by decide)) ?_
  refine ok_c (j := 16) rfl (ok_iret (pc := 29) rfl (by decide +kernel) rfl) ?_
  refine ok_c (j := 17) rfl (ok_aload_n (j := ⟨0, by decide⟩) (pc := 30) rfl rfl (by decide +kernel)) ?_
  refine ok_c (j := 18) rfl (ok_iconst (n := 1) (pc := 31) rfl rfl (by decide +kernel) (by decide)) ?_
  refine ok_c (j := 19) rfl (ok_virtual (y := yX12_keeps) (n := 1) (d' := 1) (t := 20) (T := TX12) (N := 45) (ix := 221) is_cv (pc := 32) rfl rfl (by decide +kernel) (by decide) (ct_X12_keeps l) rfl (fun _ => rfl) ce_fV_rec wd_1116 wd_1118 wd_47 wd_75) ?_
  refine ok_c (j := 20) rfl (ok_iconst (n := (-1)) (pc := 35) rfl rfl (by decide +kernel) (by decide)) ?_
  refine ok_c (j := 21) rfl (ok_istore_n (j := ⟨3, by decide⟩) (pc := 36) rfl rfl (by decide +kernel) (by decide)) ?_
  refine ok_c (j := 22) rfl (ok_iconst (n := 0) (pc := 37) rfl rfl (by decide +kernel) (by decide)) ?_
  refine ok_c (j := 23) rfl (ok_istore (j := 4) (pc := 38) rfl rfl (by decide +kernel) (by decide)) ?_
  refine ok_c (j := 24) rfl (ok_iload (j := 4) (pc := 40) rfl rfl (by decide +kernel)) ?_
  refine ok_c (j := 25) rfl (ok_aload_n (j := ⟨0, by decide⟩) (pc := 42) rfl rfl (by decide +kernel)) ?_
  refine ok_c (j := 26) rfl (ok_getS (f := 42) (ci := 12) (C := RX12) (T := TX12) (N := 45) (ix := 70) (pc := 43) rfl rfl (by decide +kernel) rfl (fun _ => rfl) rfl cw_X12 (by decide) rfl wd_866) ?_
  refine ok_c (j := 27) rfl (ok_iload_n (j := ⟨2, by decide⟩) (pc := 46) rfl rfl (by decide +kernel)) ?_
  refine ok_c (j := 28) rfl (ok_ild (pc := 47) rfl rfl (by decide +kernel) rfl) ?_
  refine ok_c (j := 29) rfl (ok_cmpge (off := 58) (tg := 106) (pc := 48) rfl rfl (by decide +kernel) rfl (by decide)) ?_
  refine ok_c (j := 30) rfl (ok_iload_n (j := ⟨3, by decide⟩) (pc := 51) rfl rfl (by decide +kernel)) ?_
  refine ok_c (j := 31) rfl (ok_ifge (off := 54) (tg := 106) (pc := 52) rfl rfl (by decide +kernel) rfl (by decide)) ?_
  refine ok_c (j := 32) rfl (ok_aload_n (j := ⟨0, by decide⟩) (pc := 55) rfl rfl (by decide +kernel)) ?_
  refine ok_c (j := 33) rfl (ok_getS (f := 43) (ci := 12) (C := RX12) (T := TX12) (N := 45) (ix := 73) (pc := 56) rfl rfl (by decide +kernel) rfl (fun _ => rfl) rfl cw_X12 (by decide) rfl wd_867) ?_
  refine ok_c (j := 34) rfl (ok_bipush (n := 40) (pc := 59) rfl rfl (by decide +kernel) (by decide)) ?_
  refine ok_c (j := 35) rfl (ok_iload_n (j := ⟨2, by decide⟩) (pc := 61) rfl rfl (by decide +kernel)) ?_
  refine ok_c (j := 36) rfl (ok_imul (pc := 62) rfl rfl (by decide +kernel)) ?_
  refine ok_c (j := 37) rfl (ok_iload (j := 4) (pc := 63) rfl rfl (by decide +kernel)) ?_
  refine ok_c (j := 38) rfl (ok_iadd (pc := 65) rfl rfl (by decide +kernel)) ?_
  refine ok_c (j := 39) rfl (ok_ild (pc := 66) rfl rfl (by decide +kernel) rfl) ?_
  refine ok_c (j := 40) rfl (ok_istore (j := 5) (pc := 67) rfl rfl (by decide +kernel) (by decide)) ?_
  refine ok_c (j := 41) rfl (ok_aload_n (j := ⟨0, by decide⟩) (pc := 69) rfl rfl (by decide +kernel)) ?_
  refine ok_c (j := 42) rfl (ok_getS (f := 5) (ci := 12) (C := RX12) (T := TX12) (N := 45) (ix := 25) (pc := 70) rfl rfl (by decide +kernel) rfl (fun _ => rfl) rfl cw_X12 (by decide) rfl wd_829) ?_
  refine ok_c (j := 43) rfl (ok_iload_n (j := ⟨1, by decide⟩) (pc := 73) rfl rfl (by decide +kernel)) ?_
  refine ok_c (j := 44) rfl (ok_ild (pc := 74) rfl rfl (by decide +kernel) rfl) ?_
  refine ok_c (j := 45) rfl (ok_ifne (off := 11) (tg := 86) (pc := 75) rfl rfl (by decide +kernel) rfl (by decide)) ?_
  refine ok_c (j := 46) rfl (ok_iload (j := 5) (pc := 78) rfl rfl (by decide +kernel)) ?_
  refine ok_c (j := 47) rfl (ok_static (y := yX12_isBid) (n := 1) (d' := 1) (ix := 208) is_ci (pc := 80) rfl rfl (by decide +kernel) (by decide) rfl (ct_X12_isBid l) wd_1089 wd_1090 wd_75) ?_
  refine ok_c (j := 48) rfl (ok_ifne (off := 9) (tg := 92) (pc := 83) rfl rfl (by decide +kernel) rfl (by decide)) ?_
  refine ok_c (j := 49) rfl (ok_iload (j := 4) (pc := 86) rfl rfl (by decide +kernel)) ?_
  refine ok_c (j := 50) rfl (ok_istore_n (j := ⟨3, by decide⟩) (pc := 88) rfl rfl (by decide +kernel) (by decide)) ?_
  refine ok_c (j := 51) rfl (ok_goto (off := 11) (tg := 100) (pc := 89) rfl (by decide +kernel) rfl (by decide)) ?_
  refine ok_c (j := 52) rfl (ok_aload_n (j := ⟨0, by decide⟩) (pc := 92) rfl rfl (by decide +kernel)) ?_
  refine ok_c (j := 53) rfl (ok_iload_n (j := ⟨1, by decide⟩) (pc := 93) rfl rfl (by decide +kernel)) ?_
  refine ok_c (j := 54) rfl (ok_iload (j := 5) (pc := 94) rfl rfl (by decide +kernel)) ?_
  refine ok_c (j := 55) rfl (ok_virtual (y := yX12_speaks) (n := 2) (d' := 4) (t := 20) (T := TX12) (N := 45) (ix := 211) is_ci (pc := 96) rfl rfl (by decide +kernel) (by decide) (ct_X12_speaks l) rfl (fun _ => rfl) ce_fI_rec wd_1092 wd_1094 wd_43 wd_75) ?_
  refine ok_c (j := 56) rfl (ok_pop (pc := 99) rfl rfl (by decide +kernel)) ?_
  refine ok_c (j := 57) rfl (ok_iinc (n := 1) (pc := 100) rfl rfl (by decide +kernel) (by decide) (by decide)) ?_
  refine ok_c (j := 58) rfl (ok_goto (off := (-63)) (tg := 40) (pc := 103) rfl (by decide +kernel) rfl (by decide)) ?_
  refine ok_c (j := 59) rfl (ok_aload_n (j := ⟨0, by decide⟩) (pc := 106) rfl rfl (by decide +kernel)) ?_
  refine ok_c (j := 60) rfl (ok_iconst (n := 1) (pc := 107) rfl rfl (by decide +kernel) (by decide)) ?_
  refine ok_c (j := 61) rfl (ok_aload_n (j := ⟨0, by decide⟩) (pc := 108) rfl rfl (by decide +kernel)) ?_
  refine ok_c (j := 62) rfl (ok_getI (ci := 12) (C := RX12) (T := TX12) (N := 45) (ix := 82) (pc := 109) rfl rfl (by decide +kernel) rfl (fun _ => rfl) rfl cw_X12 (by decide) rfl wd_831) ?_
  refine ok_c (j := 63) rfl (ok_virtual (y := yX12_putsBack) (n := 2) (d' := 1) (t := 20) (T := TX12) (N := 45) (ix := 242) is_cv (pc := 112) rfl rfl (by decide +kernel) (by decide) (ct_X12_putsBack l) rfl (fun _ => rfl) ce_fV_rec wd_1128 wd_1130 wd_49 wd_75) ?_
  refine ok_c (j := 64) rfl (ok_iload_n (j := ⟨3, by decide⟩) (pc := 115) rfl rfl (by decide +kernel)) ?_
  refine ok_c (j := 65) rfl (ok_iret (pc := 116) rfl (by decide +kernel) rfl) ?_
  exact trivial
noncomputable def F_X12_judge := ce_fI tb_X12_judge 6 (some 20)
theorem ct_X12_judge (l : Launch) : ce_callee l yX12_judge 2 5 0 0 (ce_wI F_X12_judge) := ⟨_, _, _, ce_ctr_of (pcs := pc_X12_judge) (by decide +kernel) rfl (ok_X12_judge l ) ce_fI_run, ce_tw_at wd_1189 rfl, by decide, by decide +kernel, by decide +kernel, by decide +kernel⟩
def pc_X12_drawnBy : List Nat := [0, 1, 2, 5, 6, 7, 8, 10, 12, 14, 17, 18, 21, 22, 23, 26, 27, 30, 31, 34, 35, 36, 37, 38, 39, 41, 42, 45, 46, 49, 50, 53, 56, 57, 60, 61, 62, 64, 65, 66, 67, 70, 73, 75]
noncomputable def tb_X12_drawnBy : List ce_Op := [o_aload 0, o_int 1, o_cv 2 F_X12_keeps 0 0 0 0, o_iload 2, o_istore 3, o_int 0, o_istore 4, o_iload 4, o_int 30, o_cmpge 32, o_aload 0, o_getS 20 26 (fun _ => 0), o_iload 1, o_ild 26, o_ifne 32, o_iload 3, o_int 1103515245, o_bin q_mul, o_int 12345, o_bin q_add, o_istore 3, o_aload 0, o_iload 1, o_iload 3, o_int 11, o_bin q_ushr, o_int 400, o_rem, o_ci 3 F_X12_speaks 0 0 0 0, o_pop, o_iinc 4 1, o_goto 7, o_aload 0, o_getS 20 26 (fun _ => 0), o_iload 1, o_ild 26, o_istore 4, o_aload 0, o_int 1, o_aload 0, o_getI 20 7, o_cv 3 F_X12_putsBack 0 0 0 0, o_iload 4, o_iret]
theorem tl_X12_drawnBy : ce_TL tb_X12_drawnBy := by
  unfold tb_X12_drawnBy
  refine tl_c ta_aload ?_
  refine tl_c ta_int ?_
  refine tl_c ta_cv ?_
  refine tl_c ta_iload ?_
  refine tl_c ta_istore ?_
  refine tl_c ta_int ?_
  refine tl_c ta_istore ?_
  refine tl_c ta_iload ?_
  refine tl_c ta_int ?_
  refine tl_c ta_cmpge ?_
  refine tl_c ta_aload ?_
  refine tl_c ta_getS ?_
  refine tl_c ta_iload ?_
  refine tl_c ta_ild ?_
  refine tl_c ta_ifne ?_
  refine tl_c ta_iload ?_
  refine tl_c ta_int ?_
  refine tl_c ta_bin ?_
  refine tl_c ta_int ?_
  refine tl_c ta_bin ?_
  refine tl_c ta_istore ?_
  refine tl_c ta_aload ?_
  refine tl_c ta_iload ?_
  refine tl_c ta_iload ?_
  refine tl_c ta_int ?_
  refine tl_c ta_bin ?_
  refine tl_c ta_int ?_
  refine tl_c ta_rem ?_
  refine tl_c ta_ci ?_
  refine tl_c ta_pop ?_
  refine tl_c ta_iinc ?_
  refine tl_c ta_goto ?_
  refine tl_c ta_aload ?_
  refine tl_c ta_getS ?_
  refine tl_c ta_iload ?_
  refine tl_c ta_ild ?_
  refine tl_c ta_istore ?_
  refine tl_c ta_aload ?_
  refine tl_c ta_int ?_
  refine tl_c ta_aload ?_
  refine tl_c ta_getI ?_
  refine tl_c ta_cv ?_
  refine tl_c ta_iload ?_
  refine tl_c ta_iret ?_
  exact trivial
set_option maxRecDepth 20000 in
theorem ok_X12_drawnBy (l : Launch) : ce_OkL l cX12_drawnBy RX12 5 (some .int) 5 0 0 pc_X12_drawnBy 0 tb_X12_drawnBy := by
  unfold tb_X12_drawnBy
  refine ok_c (j := 1) rfl (ok_aload_n (j := ⟨0, by decide⟩) (pc := 0) rfl rfl (by decide +kernel)) ?_
  refine ok_c (j := 2) rfl (ok_iconst (n := 1) (pc := 1) rfl rfl (by decide +kernel) (by decide)) ?_
  refine ok_c (j := 3) rfl (ok_virtual (y := yX12_keeps) (n := 1) (d' := 1) (t := 20) (T := TX12) (N := 45) (ix := 221) is_cv (pc := 2) rfl rfl (by decide +kernel) (by decide) (ct_X12_keeps l) rfl (fun _ => rfl) ce_fV_rec wd_1116 wd_1118 wd_47 wd_75) ?_
  refine ok_c (j := 4) rfl (ok_iload_n (j := ⟨2, by decide⟩) (pc := 5) rfl rfl (by decide +kernel)) ?_
  refine ok_c (j := 5) rfl (ok_istore_n (j := ⟨3, by decide⟩) (pc := 6) rfl rfl (by decide +kernel) (by decide)) ?_
  refine ok_c (j := 6) rfl (ok_iconst (n := 0) (pc := 7) rfl rfl (by decide +kernel) (by decide)) ?_
  refine ok_c (j := 7) rfl (ok_istore (j := 4) (pc := 8) rfl rfl (by decide +kernel) (by decide)) ?_
  refine ok_c (j := 8) rfl (ok_iload (j := 4) (pc := 10) rfl rfl (by decide +kernel)) ?_
  refine ok_c (j := 9) rfl (ok_bipush (n := 30) (pc := 12) rfl rfl (by decide +kernel) (by decide)) ?_
  refine ok_c (j := 10) rfl (ok_cmpge (off := 42) (tg := 56) (pc := 14) rfl rfl (by decide +kernel) rfl (by decide)) ?_
  refine ok_c (j := 11) rfl (ok_aload_n (j := ⟨0, by decide⟩) (pc := 17) rfl rfl (by decide +kernel)) ?_
  refine ok_c (j := 12) rfl (ok_getS (f := 5) (ci := 12) (C := RX12) (T := TX12) (N := 45) (ix := 25) (pc := 18) rfl rfl (by decide +kernel) rfl (fun _ => rfl) rfl cw_X12 (by decide) rfl wd_829) ?_
  refine ok_c (j := 13) rfl (ok_iload_n (j := ⟨1, by decide⟩) (pc := 21) rfl rfl (by decide +kernel)) ?_
  refine ok_c (j := 14) rfl (ok_ild (pc := 22) rfl rfl (by decide +kernel) rfl) ?_
  refine ok_c (j := 15) rfl (ok_ifne (off := 33) (tg := 56) (pc := 23) rfl rfl (by decide +kernel) rfl (by decide)) ?_
  refine ok_c (j := 16) rfl (ok_iload_n (j := ⟨3, by decide⟩) (pc := 26) rfl rfl (by decide +kernel)) ?_
  refine ok_c (j := 17) rfl (ok_ldcw (ix := 288) (pc := 27) rfl rfl (by decide +kernel) wd_1198 (by decide +kernel)) ?_
  refine ok_c (j := 18) rfl (ok_imul (pc := 30) rfl rfl (by decide +kernel)) ?_
  refine ok_c (j := 19) rfl (ok_sipush (n := 12345) (pc := 31) rfl rfl (by decide +kernel) (by decide)) ?_
  refine ok_c (j := 20) rfl (ok_iadd (pc := 34) rfl rfl (by decide +kernel)) ?_
  refine ok_c (j := 21) rfl (ok_istore_n (j := ⟨3, by decide⟩) (pc := 35) rfl rfl (by decide +kernel) (by decide)) ?_
  refine ok_c (j := 22) rfl (ok_aload_n (j := ⟨0, by decide⟩) (pc := 36) rfl rfl (by decide +kernel)) ?_
  refine ok_c (j := 23) rfl (ok_iload_n (j := ⟨1, by decide⟩) (pc := 37) rfl rfl (by decide +kernel)) ?_
  refine ok_c (j := 24) rfl (ok_iload_n (j := ⟨3, by decide⟩) (pc := 38) rfl rfl (by decide +kernel)) ?_
  refine ok_c (j := 25) rfl (ok_bipush (n := 11) (pc := 39) rfl rfl (by decide +kernel) (by decide)) ?_
  refine ok_c (j := 26) rfl (ok_iushr (pc := 41) rfl rfl (by decide +kernel)) ?_
  refine ok_c (j := 27) rfl (ok_sipush (n := 400) (pc := 42) rfl rfl (by decide +kernel) (by decide)) ?_
  refine ok_c (j := 28) rfl (ok_irem (pc := 45) rfl rfl (by decide +kernel)) ?_
  refine ok_c (j := 29) rfl (ok_virtual (y := yX12_speaks) (n := 2) (d' := 4) (t := 20) (T := TX12) (N := 45) (ix := 211) is_ci (pc := 46) rfl rfl (by decide +kernel) (by decide) (ct_X12_speaks l) rfl (fun _ => rfl) ce_fI_rec wd_1092 wd_1094 wd_43 wd_75) ?_
  refine ok_c (j := 30) rfl (ok_pop (pc := 49) rfl rfl (by decide +kernel)) ?_
  refine ok_c (j := 31) rfl (ok_iinc (n := 1) (pc := 50) rfl rfl (by decide +kernel) (by decide) (by decide)) ?_
  refine ok_c (j := 32) rfl (ok_goto (off := (-43)) (tg := 10) (pc := 53) rfl (by decide +kernel) rfl (by decide)) ?_
  refine ok_c (j := 33) rfl (ok_aload_n (j := ⟨0, by decide⟩) (pc := 56) rfl rfl (by decide +kernel)) ?_
  refine ok_c (j := 34) rfl (ok_getS (f := 5) (ci := 12) (C := RX12) (T := TX12) (N := 45) (ix := 25) (pc := 57) rfl rfl (by decide +kernel) rfl (fun _ => rfl) rfl cw_X12 (by decide) rfl wd_829) ?_
  refine ok_c (j := 35) rfl (ok_iload_n (j := ⟨1, by decide⟩) (pc := 60) rfl rfl (by decide +kernel)) ?_
  refine ok_c (j := 36) rfl (ok_ild (pc := 61) rfl rfl (by decide +kernel) rfl) ?_
  refine ok_c (j := 37) rfl (ok_istore (j := 4) (pc := 62) rfl rfl (by decide +kernel) (by decide)) ?_
  refine ok_c (j := 38) rfl (ok_aload_n (j := ⟨0, by decide⟩) (pc := 64) rfl rfl (by decide +kernel)) ?_
  refine ok_c (j := 39) rfl (ok_iconst (n := 1) (pc := 65) rfl rfl (by decide +kernel) (by decide)) ?_
  refine ok_c (j := 40) rfl (ok_aload_n (j := ⟨0, by decide⟩) (pc := 66) rfl rfl (by decide +kernel)) ?_
  refine ok_c (j := 41) rfl (ok_getI (ci := 12) (C := RX12) (T := TX12) (N := 45) (ix := 82) (pc := 67) rfl rfl (by decide +kernel) rfl (fun _ => rfl) rfl cw_X12 (by decide) rfl wd_831) ?_
  refine ok_c (j := 42) rfl (ok_virtual (y := yX12_putsBack) (n := 2) (d' := 1) (t := 20) (T := TX12) (N := 45) (ix := 242) is_cv (pc := 70) rfl rfl (by decide +kernel) (by decide) (ct_X12_putsBack l) rfl (fun _ => rfl) ce_fV_rec wd_1128 wd_1130 wd_49 wd_75) ?_
  refine ok_c (j := 43) rfl (ok_iload (j := 4) (pc := 73) rfl rfl (by decide +kernel)) ?_
  refine ok_c (j := 44) rfl (ok_iret (pc := 75) rfl (by decide +kernel) rfl) ?_
  exact trivial
noncomputable def F_X12_drawnBy := ce_fI tb_X12_drawnBy 5 (some 20)
theorem ct_X12_drawnBy (l : Launch) : ce_callee l yX12_drawnBy 2 5 0 0 (ce_wI F_X12_drawnBy) := ⟨_, _, _, ce_ctr_of (pcs := pc_X12_drawnBy) (by decide +kernel) rfl (ok_X12_drawnBy l ) ce_fI_run, ce_tw_at wd_1197 rfl, by decide, by decide +kernel, by decide +kernel, by decide +kernel⟩
def pc_X12_text : List Nat := [0, 1, 4, 6, 9, 11, 12, 13, 14, 17, 18, 21, 22, 23, 24, 25, 26, 27, 30, 31, 34, 35, 38, 40, 43, 44, 47, 49, 50, 51, 54, 55, 58, 59, 60, 61, 64, 67, 68, 71, 72, 73, 74, 77, 78, 79, 80, 83, 84, 87, 88, 91, 94, 95, 98, 99, 102, 104, 107, 108, 111, 112, 113, 114, 117, 118, 119, 120, 123, 124, 127, 129, 130, 131, 132, 133, 134, 137, 138, 139, 142, 143, 146, 147, 148]
noncomputable def tb_X12_text : List ce_Op := [o_aload 0, o_getI 20 19, o_int 6, o_cmpne 6, o_int (-4), o_iret, o_aload 0, o_int 0, o_putI 20 20, o_aload 0, o_cv 1 F_X12_reads 0 0 0 0, o_int 1, o_istore 1, o_int 0, o_istore 2, o_iload 2, o_int 3, o_cmpge 52, o_iload 1, o_ifeq 52, o_aload 0, o_getI 20 21, o_int 101, o_cmpne 32, o_aload 0, o_getI 20 23, o_int 6, o_iload 2, o_bin q_add, o_cmpne 32, o_int 1, o_goto 33, o_int 0, o_istore 1, o_iload 1, o_ifne 37, o_goto 50, o_aload 0, o_cv 1 F_X12_reads 0 0 0 0, o_aload 0, o_int 3, o_aload 0, o_getI 20 19, o_bin q_mul, o_iload 2, o_bin q_add, o_putI 20 26, o_aload 0, o_ci 1 F_X12_readsRow 0 0 0 0, o_istore 1, o_iinc 2 1, o_goto 15, o_iload 1, o_ifeq 60, o_aload 0, o_getI 20 21, o_int 103, o_cmpne 60, o_int 1, o_goto 61, o_int 0, o_istore 1, o_aload 0, o_getI 20 22, o_istore 2, o_aload 0, o_int 0, o_putI 20 18, o_iload 1, o_ifne 74, o_int (-100), o_iload 2, o_bin q_sub, o_iret, o_aload 0, o_dup, o_getI 20 19, o_int 1, o_bin q_add, o_putI 20 19, o_aload 0, o_getI 20 19, o_int 1, o_bin q_sub, o_iret]
theorem tl_X12_text : ce_TL tb_X12_text := by
  unfold tb_X12_text
  refine tl_c ta_aload ?_
  refine tl_c ta_getI ?_
  refine tl_c ta_int ?_
  refine tl_c ta_cmpne ?_
  refine tl_c ta_int ?_
  refine tl_c ta_iret ?_
  refine tl_c ta_aload ?_
  refine tl_c ta_int ?_
  refine tl_c ta_putI ?_
  refine tl_c ta_aload ?_
  refine tl_c ta_cv ?_
  refine tl_c ta_int ?_
  refine tl_c ta_istore ?_
  refine tl_c ta_int ?_
  refine tl_c ta_istore ?_
  refine tl_c ta_iload ?_
  refine tl_c ta_int ?_
  refine tl_c ta_cmpge ?_
  refine tl_c ta_iload ?_
  refine tl_c ta_ifeq ?_
  refine tl_c ta_aload ?_
  refine tl_c ta_getI ?_
  refine tl_c ta_int ?_
  refine tl_c ta_cmpne ?_
  refine tl_c ta_aload ?_
  refine tl_c ta_getI ?_
  refine tl_c ta_int ?_
  refine tl_c ta_iload ?_
  refine tl_c ta_bin ?_
  refine tl_c ta_cmpne ?_
  refine tl_c ta_int ?_
  refine tl_c ta_goto ?_
  refine tl_c ta_int ?_
  refine tl_c ta_istore ?_
  refine tl_c ta_iload ?_
  refine tl_c ta_ifne ?_
  refine tl_c ta_goto ?_
  refine tl_c ta_aload ?_
  refine tl_c ta_cv ?_
  refine tl_c ta_aload ?_
  refine tl_c ta_int ?_
  refine tl_c ta_aload ?_
  refine tl_c ta_getI ?_
  refine tl_c ta_bin ?_
  refine tl_c ta_iload ?_
  refine tl_c ta_bin ?_
  refine tl_c ta_putI ?_
  refine tl_c ta_aload ?_
  refine tl_c ta_ci ?_
  refine tl_c ta_istore ?_
  refine tl_c ta_iinc ?_
  refine tl_c ta_goto ?_
  refine tl_c ta_iload ?_
  refine tl_c ta_ifeq ?_
  refine tl_c ta_aload ?_
  refine tl_c ta_getI ?_
  refine tl_c ta_int ?_
  refine tl_c ta_cmpne ?_
  refine tl_c ta_int ?_
  refine tl_c ta_goto ?_
  refine tl_c ta_int ?_
  refine tl_c ta_istore ?_
  refine tl_c ta_aload ?_
  refine tl_c ta_getI ?_
  refine tl_c ta_istore ?_
  refine tl_c ta_aload ?_
  refine tl_c ta_int ?_
  refine tl_c ta_putI ?_
  refine tl_c ta_iload ?_
  refine tl_c ta_ifne ?_
  refine tl_c ta_int ?_
  refine tl_c ta_iload ?_
  refine tl_c ta_bin ?_
  refine tl_c ta_iret ?_
  refine tl_c ta_aload ?_
  refine tl_c ta_dup ?_
  refine tl_c ta_getI ?_
  refine tl_c ta_int ?_
  refine tl_c ta_bin ?_
  refine tl_c ta_putI ?_
  refine tl_c ta_aload ?_
  refine tl_c ta_getI ?_
  refine tl_c ta_int ?_
  refine tl_c ta_bin ?_
  refine tl_c ta_iret ?_
  exact trivial
set_option maxRecDepth 20000 in
theorem ok_X12_text (l : Launch) : ce_OkL l cX12_text RX12 3 (some .int) 6 0 0 pc_X12_text 0 tb_X12_text := by
  unfold tb_X12_text
  refine ok_c (j := 1) rfl (ok_aload_n (j := ⟨0, by decide⟩) (pc := 0) rfl rfl (by decide +kernel)) ?_
  refine ok_c (j := 2) rfl (ok_getI (ci := 12) (C := RX12) (T := TX12) (N := 45) (ix := 61) (pc := 1) rfl rfl (by decide +kernel) rfl (fun _ => rfl) rfl cw_X12 (by decide) rfl wd_843) ?_
  refine ok_c (j := 3) rfl (ok_bipush (n := 6) (pc := 4) rfl rfl (by decide +kernel) (by decide)) ?_
  refine ok_c (j := 4) rfl (ok_cmpne (off := 6) (tg := 12) (pc := 6) rfl rfl (by decide +kernel) rfl (by decide)) ?_
  refine ok_c (j := 5) rfl (ok_bipush (n := (-4)) (pc := 9) rfl rfl (by decide +kernel) (by decide)) ?_
  refine ok_c (j := 6) rfl (ok_iret (pc := 11) rfl (by decide +kernel) rfl) ?_
  refine ok_c (j := 7) rfl (ok_aload_n (j := ⟨0, by decide⟩) (pc := 12) rfl rfl (by decide +kernel)) ?_
  refine ok_c (j := 8) rfl (ok_iconst (n := 0) (pc := 13) rfl rfl (by decide +kernel) (by decide)) ?_
  refine ok_c (j := 9) rfl (ok_putI (ci := 12) (C := RX12) (T := TX12) (N := 45) (ty := tyX12) (ix := 99) (pc := 14) rfl rfl (by decide +kernel) rfl (fun _ => rfl) rfl cw_X12 tyX12_ok nmX12 (by decide) rfl rfl rfl wd_844) ?_
  refine ok_c (j := 10) rfl (ok_aload_n (j := ⟨0, by decide⟩) (pc := 17) rfl rfl (by decide +kernel)) ?_
  refine ok_c (j := 11) rfl (ok_virtual (y := yX12_reads) (n := 0) (d' := 3) (t := 20) (T := TX12) (N := 45) (ix := 159) is_cv (pc := 18) rfl rfl (by decide +kernel) (by decide) (ct_X12_reads l) rfl (fun _ => rfl) ce_fV_rec wd_971 wd_973 wd_25 wd_75) ?_
  refine ok_c (j := 12) rfl (ok_iconst (n := 1) (pc := 21) rfl rfl (by decide +kernel) (by decide)) ?_
  refine ok_c (j := 13) rfl (ok_istore_n (j := ⟨1, by decide⟩) (pc := 22) rfl rfl (by decide +kernel) (by decide)) ?_
  refine ok_c (j := 14) rfl (ok_iconst (n := 0) (pc := 23) rfl rfl (by decide +kernel) (by decide)) ?_
  refine ok_c (j := 15) rfl (ok_istore_n (j := ⟨2, by decide⟩) (pc := 24) rfl rfl (by decide +kernel) (by decide)) ?_
  refine ok_c (j := 16) rfl (ok_iload_n (j := ⟨2, by decide⟩) (pc := 25) rfl rfl (by decide +kernel)) ?_
  refine ok_c (j := 17) rfl (ok_iconst (n := 3) (pc := 26) rfl rfl (by decide +kernel) (by decide)) ?_
  refine ok_c (j := 18) rfl (ok_cmpge (off := 67) (tg := 94) (pc := 27) rfl rfl (by decide +kernel) rfl (by decide)) ?_
  refine ok_c (j := 19) rfl (ok_iload_n (j := ⟨1, by decide⟩) (pc := 30) rfl rfl (by decide +kernel)) ?_
  refine ok_c (j := 20) rfl (ok_ifeq (off := 63) (tg := 94) (pc := 31) rfl rfl (by decide +kernel) rfl (by decide)) ?_
  refine ok_c (j := 21) rfl (ok_aload_n (j := ⟨0, by decide⟩) (pc := 34) rfl rfl (by decide +kernel)) ?_
  refine ok_c (j := 22) rfl (ok_getI (ci := 12) (C := RX12) (T := TX12) (N := 45) (ix := 109) (pc := 35) rfl rfl (by decide +kernel) rfl (fun _ => rfl) rfl cw_X12 (by decide) rfl wd_845) ?_
  refine ok_c (j := 23) rfl (ok_bipush (n := 101) (pc := 38) rfl rfl (by decide +kernel) (by decide)) ?_
  refine ok_c (j := 24) rfl (ok_cmpne (off := 18) (tg := 58) (pc := 40) rfl rfl (by decide +kernel) rfl (by decide)) ?_
  refine ok_c (j := 25) rfl (ok_aload_n (j := ⟨0, by decide⟩) (pc := 43) rfl rfl (by decide +kernel)) ?_
  refine ok_c (j := 26) rfl (ok_getI (ci := 12) (C := RX12) (T := TX12) (N := 45) (ix := 112) (pc := 44) rfl rfl (by decide +kernel) rfl (fun _ => rfl) rfl cw_X12 (by decide) rfl wd_847) ?_
  refine ok_c (j := 27) rfl (ok_bipush (n := 6) (pc := 47) rfl rfl (by decide +kernel) (by decide)) ?_
  refine ok_c (j := 28) rfl (ok_iload_n (j := ⟨2, by decide⟩) (pc := 49) rfl rfl (by decide +kernel)) ?_
  refine ok_c (j := 29) rfl (ok_iadd (pc := 50) rfl rfl (by decide +kernel)) ?_
  refine ok_c (j := 30) rfl (ok_cmpne (off := 7) (tg := 58) (pc := 51) rfl rfl (by decide +kernel) rfl (by decide)) ?_
  refine ok_c (j := 31) rfl (ok_iconst (n := 1) (pc := 54) rfl rfl (by decide +kernel) (by decide)) ?_
  refine ok_c (j := 32) rfl (ok_goto (off := 4) (tg := 59) (pc := 55) rfl (by decide +kernel) rfl (by decide)) ?_
  refine ok_c (j := 33) rfl (ok_iconst (n := 0) (pc := 58) rfl rfl (by decide +kernel) (by decide)) ?_
  refine ok_c (j := 34) rfl (ok_istore_n (j := ⟨1, by decide⟩) (pc := 59) rfl rfl (by decide +kernel) (by decide)) ?_
  refine ok_c (j := 35) rfl (ok_iload_n (j := ⟨1, by decide⟩) (pc := 60) rfl rfl (by decide +kernel)) ?_
  refine ok_c (j := 36) rfl (ok_ifne (off := 6) (tg := 67) (pc := 61) rfl rfl (by decide +kernel) rfl (by decide)) ?_
  refine ok_c (j := 37) rfl (ok_goto (off := 24) (tg := 88) (pc := 64) rfl (by decide +kernel) rfl (by decide)) ?_
  refine ok_c (j := 38) rfl (ok_aload_n (j := ⟨0, by decide⟩) (pc := 67) rfl rfl (by decide +kernel)) ?_
  refine ok_c (j := 39) rfl (ok_virtual (y := yX12_reads) (n := 0) (d' := 3) (t := 20) (T := TX12) (N := 45) (ix := 159) is_cv (pc := 68) rfl rfl (by decide +kernel) (by decide) (ct_X12_reads l) rfl (fun _ => rfl) ce_fV_rec wd_971 wd_973 wd_25 wd_75) ?_
  refine ok_c (j := 40) rfl (ok_aload_n (j := ⟨0, by decide⟩) (pc := 71) rfl rfl (by decide +kernel)) ?_
  refine ok_c (j := 41) rfl (ok_iconst (n := 3) (pc := 72) rfl rfl (by decide +kernel) (by decide)) ?_
  refine ok_c (j := 42) rfl (ok_aload_n (j := ⟨0, by decide⟩) (pc := 73) rfl rfl (by decide +kernel)) ?_
  refine ok_c (j := 43) rfl (ok_getI (ci := 12) (C := RX12) (T := TX12) (N := 45) (ix := 61) (pc := 74) rfl rfl (by decide +kernel) rfl (fun _ => rfl) rfl cw_X12 (by decide) rfl wd_843) ?_
  refine ok_c (j := 44) rfl (ok_imul (pc := 77) rfl rfl (by decide +kernel)) ?_
  refine ok_c (j := 45) rfl (ok_iload_n (j := ⟨2, by decide⟩) (pc := 78) rfl rfl (by decide +kernel)) ?_
  refine ok_c (j := 46) rfl (ok_iadd (pc := 79) rfl rfl (by decide +kernel)) ?_
  refine ok_c (j := 47) rfl (ok_putI (ci := 12) (C := RX12) (T := TX12) (N := 45) (ty := tyX12) (ix := 85) (pc := 80) rfl rfl (by decide +kernel) rfl (fun _ => rfl) rfl cw_X12 tyX12_ok nmX12 (by decide) rfl rfl rfl wd_850) ?_
  refine ok_c (j := 48) rfl (ok_aload_n (j := ⟨0, by decide⟩) (pc := 83) rfl rfl (by decide +kernel)) ?_
  refine ok_c (j := 49) rfl (ok_virtual (y := yX12_readsRow) (n := 0) (d' := 5) (t := 20) (T := TX12) (N := 45) (ix := 162) is_ci (pc := 84) rfl rfl (by decide +kernel) (by decide) (ct_X12_readsRow l) rfl (fun _ => rfl) ce_fI_rec wd_986 wd_988 wd_28 wd_75) ?_
  refine ok_c (j := 50) rfl (ok_istore_n (j := ⟨1, by decide⟩) (pc := 87) rfl rfl (by decide +kernel) (by decide)) ?_
  refine ok_c (j := 51) rfl (ok_iinc (n := 1) (pc := 88) rfl rfl (by decide +kernel) (by decide) (by decide)) ?_
  refine ok_c (j := 52) rfl (ok_goto (off := (-66)) (tg := 25) (pc := 91) rfl (by decide +kernel) rfl (by decide)) ?_
  refine ok_c (j := 53) rfl (ok_iload_n (j := ⟨1, by decide⟩) (pc := 94) rfl rfl (by decide +kernel)) ?_
  refine ok_c (j := 54) rfl (ok_ifeq (off := 16) (tg := 111) (pc := 95) rfl rfl (by decide +kernel) rfl (by decide)) ?_
  refine ok_c (j := 55) rfl (ok_aload_n (j := ⟨0, by decide⟩) (pc := 98) rfl rfl (by decide +kernel)) ?_
  refine ok_c (j := 56) rfl (ok_getI (ci := 12) (C := RX12) (T := TX12) (N := 45) (ix := 109) (pc := 99) rfl rfl (by decide +kernel) rfl (fun _ => rfl) rfl cw_X12 (by decide) rfl wd_845) ?_
  refine ok_c (j := 57) rfl (ok_bipush (n := 103) (pc := 102) rfl rfl (by decide +kernel) (by decide)) ?_
  refine ok_c (j := 58) rfl (ok_cmpne (off := 7) (tg := 111) (pc := 104) rfl rfl (by decide +kernel) rfl (by decide)) ?_
  refine ok_c (j := 59) rfl (ok_iconst (n := 1) (pc := 107) rfl rfl (by decide +kernel) (by decide)) ?_
  refine ok_c (j := 60) rfl (ok_goto (off := 4) (tg := 112) (pc := 108) rfl (by decide +kernel) rfl (by decide)) ?_
  refine ok_c (j := 61) rfl (ok_iconst (n := 0) (pc := 111) rfl rfl (by decide +kernel) (by decide)) ?_
  refine ok_c (j := 62) rfl (ok_istore_n (j := ⟨1, by decide⟩) (pc := 112) rfl rfl (by decide +kernel) (by decide)) ?_
  refine ok_c (j := 63) rfl (ok_aload_n (j := ⟨0, by decide⟩) (pc := 113) rfl rfl (by decide +kernel)) ?_
  refine ok_c (j := 64) rfl (ok_getI (ci := 12) (C := RX12) (T := TX12) (N := 45) (ix := 102) (pc := 114) rfl rfl (by decide +kernel) rfl (fun _ => rfl) rfl cw_X12 (by decide) rfl wd_846) ?_
  refine ok_c (j := 65) rfl (ok_istore_n (j := ⟨2, by decide⟩) (pc := 117) rfl rfl (by decide +kernel) (by decide)) ?_
  refine ok_c (j := 66) rfl (ok_aload_n (j := ⟨0, by decide⟩) (pc := 118) rfl rfl (by decide +kernel)) ?_
  refine ok_c (j := 67) rfl (ok_iconst (n := 0) (pc := 119) rfl rfl (by decide +kernel) (by decide)) ?_
  refine ok_c (j := 68) rfl (ok_putI (ci := 12) (C := RX12) (T := TX12) (N := 45) (ty := tyX12) (ix := 96) (pc := 120) rfl rfl (by decide +kernel) rfl (fun _ => rfl) rfl cw_X12 tyX12_ok nmX12 (by decide) rfl rfl rfl wd_842) ?_
  refine ok_c (j := 69) rfl (ok_iload_n (j := ⟨1, by decide⟩) (pc := 123) rfl rfl (by decide +kernel)) ?_
  refine ok_c (j := 70) rfl (ok_ifne (off := 8) (tg := 132) (pc := 124) rfl rfl (by decide +kernel) rfl (by decide)) ?_
  refine ok_c (j := 71) rfl (ok_bipush (n := (-100)) (pc := 127) rfl rfl (by decide +kernel) (by decide)) ?_
  refine ok_c (j := 72) rfl (ok_iload_n (j := ⟨2, by decide⟩) (pc := 129) rfl rfl (by decide +kernel)) ?_
  refine ok_c (j := 73) rfl (ok_isub (pc := 130) rfl rfl (by decide +kernel)) ?_
  refine ok_c (j := 74) rfl (ok_iret (pc := 131) rfl (by decide +kernel) rfl) ?_
  refine ok_c (j := 75) rfl (ok_aload_n (j := ⟨0, by decide⟩) (pc := 132) rfl rfl (by decide +kernel)) ?_
  refine ok_c (j := 76) rfl (ok_dup (pc := 133) rfl rfl (by decide +kernel)) ?_
  refine ok_c (j := 77) rfl (ok_getI (ci := 12) (C := RX12) (T := TX12) (N := 45) (ix := 61) (pc := 134) rfl rfl (by decide +kernel) rfl (fun _ => rfl) rfl cw_X12 (by decide) rfl wd_843) ?_
  refine ok_c (j := 78) rfl (ok_iconst (n := 1) (pc := 137) rfl rfl (by decide +kernel) (by decide)) ?_
  refine ok_c (j := 79) rfl (ok_iadd (pc := 138) rfl rfl (by decide +kernel)) ?_
  refine ok_c (j := 80) rfl (ok_putI (ci := 12) (C := RX12) (T := TX12) (N := 45) (ty := tyX12) (ix := 61) (pc := 139) rfl rfl (by decide +kernel) rfl (fun _ => rfl) rfl cw_X12 tyX12_ok nmX12 (by decide) rfl rfl rfl wd_843) ?_
  refine ok_c (j := 81) rfl (ok_aload_n (j := ⟨0, by decide⟩) (pc := 142) rfl rfl (by decide +kernel)) ?_
  refine ok_c (j := 82) rfl (ok_getI (ci := 12) (C := RX12) (T := TX12) (N := 45) (ix := 61) (pc := 143) rfl rfl (by decide +kernel) rfl (fun _ => rfl) rfl cw_X12 (by decide) rfl wd_843) ?_
  refine ok_c (j := 83) rfl (ok_iconst (n := 1) (pc := 146) rfl rfl (by decide +kernel) (by decide)) ?_
  refine ok_c (j := 84) rfl (ok_isub (pc := 147) rfl rfl (by decide +kernel)) ?_
  refine ok_c (j := 85) rfl (ok_iret (pc := 148) rfl (by decide +kernel) rfl) ?_
  exact trivial
noncomputable def F_X12_text := ce_fI tb_X12_text 3 (some 20)
theorem ct_X12_text (l : Launch) : ce_callee l yX12_text 0 6 0 0 (ce_wI F_X12_text) := ⟨_, _, _, ce_ctr_of (pcs := pc_X12_text) (by decide +kernel) rfl (ok_X12_text l ) ce_fI_run, ce_tw_at wd_970 rfl, by decide, by decide +kernel, by decide +kernel, by decide +kernel⟩
def pc_X12_seller : List Nat := [0, 1, 2, 3, 6]
noncomputable def tb_X12_seller : List ce_Op := [o_aload 0, o_iload 1, o_iload 2, o_ci 3 F_X12_comes 0 0 0 0, o_iret]
theorem tl_X12_seller : ce_TL tb_X12_seller := by
  unfold tb_X12_seller
  refine tl_c ta_aload ?_
  refine tl_c ta_iload ?_
  refine tl_c ta_iload ?_
  refine tl_c ta_ci ?_
  refine tl_c ta_iret ?_
  exact trivial
set_option maxRecDepth 20000 in
theorem ok_X12_seller (l : Launch) : ce_OkL l cX12_seller RX12 3 (some .int) 6 0 0 pc_X12_seller 0 tb_X12_seller := by
  unfold tb_X12_seller
  refine ok_c (j := 1) rfl (ok_aload_n (j := ⟨0, by decide⟩) (pc := 0) rfl rfl (by decide +kernel)) ?_
  refine ok_c (j := 2) rfl (ok_iload_n (j := ⟨1, by decide⟩) (pc := 1) rfl rfl (by decide +kernel)) ?_
  refine ok_c (j := 3) rfl (ok_iload_n (j := ⟨2, by decide⟩) (pc := 2) rfl rfl (by decide +kernel)) ?_
  refine ok_c (j := 4) rfl (ok_virtual (y := yX12_comes) (n := 2) (d' := 5) (t := 20) (T := TX12) (N := 45) (ix := 188) is_ci (pc := 3) rfl rfl (by decide +kernel) (by decide) (ct_X12_comes l) rfl (fun _ => rfl) ce_fI_rec wd_1032 wd_1034 wd_36 wd_75) ?_
  refine ok_c (j := 5) rfl (ok_iret (pc := 6) rfl (by decide +kernel) rfl) ?_
  exact trivial
noncomputable def F_X12_seller := ce_fI tb_X12_seller 3 (some 20)
theorem ct_X12_seller (l : Launch) : ce_callee l yX12_seller 2 6 0 0 (ce_wI F_X12_seller) := ⟨_, _, _, ce_ctr_of (pcs := pc_X12_seller) (by decide +kernel) rfl (ok_X12_seller l ) ce_fI_run, ce_tw_at wd_1031 rfl, by decide, by decide +kernel, by decide +kernel, by decide +kernel⟩
def pc_X12_thinks : List Nat := [0, 1, 2, 5, 7, 10, 11, 12, 15, 16, 17, 18, 19, 20, 23, 26, 27, 28, 31, 32, 33, 36, 37, 38, 41, 42, 43, 46, 47, 48, 51, 52, 53, 56, 57, 58, 59, 62, 65, 66, 69]
noncomputable def tb_X12_thinks : List ce_Op := [o_aload 0, o_int 1, o_cv 2 F_X12_keeps 0 0 0 0, o_iload 4, o_ifeq 8, o_aload 0, o_iload 1, o_cv 2 F_X12_begins 0 0 0 0, o_aload 0, o_iload 1, o_iload 2, o_iload 3, o_aload 0, o_getI 20 10, o_cv 5 F_X12_bids 0 0 0 0, o_aload 0, o_aload 0, o_getS 20 26 (fun _ => 0), o_iload 1, o_ild 26, o_putI 20 35, o_aload 0, o_aload 0, o_getS 20 27 (fun _ => 0), o_iload 1, o_ild 27, o_putI 20 36, o_aload 0, o_aload 0, o_getS 20 25 (fun _ => 0), o_iload 1, o_ild 25, o_putI 20 37, o_aload 0, o_int 1, o_aload 0, o_getI 20 7, o_cv 3 F_X12_putsBack 0 0 0 0, o_aload 0, o_getI 20 36, o_iret]
theorem tl_X12_thinks : ce_TL tb_X12_thinks := by
  unfold tb_X12_thinks
  refine tl_c ta_aload ?_
  refine tl_c ta_int ?_
  refine tl_c ta_cv ?_
  refine tl_c ta_iload ?_
  refine tl_c ta_ifeq ?_
  refine tl_c ta_aload ?_
  refine tl_c ta_iload ?_
  refine tl_c ta_cv ?_
  refine tl_c ta_aload ?_
  refine tl_c ta_iload ?_
  refine tl_c ta_iload ?_
  refine tl_c ta_iload ?_
  refine tl_c ta_aload ?_
  refine tl_c ta_getI ?_
  refine tl_c ta_cv ?_
  refine tl_c ta_aload ?_
  refine tl_c ta_aload ?_
  refine tl_c ta_getS ?_
  refine tl_c ta_iload ?_
  refine tl_c ta_ild ?_
  refine tl_c ta_putI ?_
  refine tl_c ta_aload ?_
  refine tl_c ta_aload ?_
  refine tl_c ta_getS ?_
  refine tl_c ta_iload ?_
  refine tl_c ta_ild ?_
  refine tl_c ta_putI ?_
  refine tl_c ta_aload ?_
  refine tl_c ta_aload ?_
  refine tl_c ta_getS ?_
  refine tl_c ta_iload ?_
  refine tl_c ta_ild ?_
  refine tl_c ta_putI ?_
  refine tl_c ta_aload ?_
  refine tl_c ta_int ?_
  refine tl_c ta_aload ?_
  refine tl_c ta_getI ?_
  refine tl_c ta_cv ?_
  refine tl_c ta_aload ?_
  refine tl_c ta_getI ?_
  refine tl_c ta_iret ?_
  exact trivial
set_option maxRecDepth 20000 in
theorem ok_X12_thinks (l : Launch) : ce_OkL l cX12_thinks RX12 5 (some .int) 6 0 0 pc_X12_thinks 0 tb_X12_thinks := by
  unfold tb_X12_thinks
  refine ok_c (j := 1) rfl (ok_aload_n (j := ⟨0, by decide⟩) (pc := 0) rfl rfl (by decide +kernel)) ?_
  refine ok_c (j := 2) rfl (ok_iconst (n := 1) (pc := 1) rfl rfl (by decide +kernel) (by decide)) ?_
  refine ok_c (j := 3) rfl (ok_virtual (y := yX12_keeps) (n := 1) (d' := 1) (t := 20) (T := TX12) (N := 45) (ix := 221) is_cv (pc := 2) rfl rfl (by decide +kernel) (by decide) (ct_X12_keeps l) rfl (fun _ => rfl) ce_fV_rec wd_1116 wd_1118 wd_47 wd_75) ?_
  refine ok_c (j := 4) rfl (ok_iload (j := 4) (pc := 5) rfl rfl (by decide +kernel)) ?_
  refine ok_c (j := 5) rfl (ok_ifeq (off := 8) (tg := 15) (pc := 7) rfl rfl (by decide +kernel) rfl (by decide)) ?_
  refine ok_c (j := 6) rfl (ok_aload_n (j := ⟨0, by decide⟩) (pc := 10) rfl rfl (by decide +kernel)) ?_
  refine ok_c (j := 7) rfl (ok_iload_n (j := ⟨1, by decide⟩) (pc := 11) rfl rfl (by decide +kernel)) ?_
  refine ok_c (j := 8) rfl (ok_virtual (y := yX12_begins) (n := 1) (d' := 4) (t := 20) (T := TX12) (N := 45) (ix := 185) is_cv (pc := 12) rfl rfl (by decide +kernel) (by decide) (ct_X12_begins l) rfl (fun _ => rfl) ce_fV_rec wd_1036 wd_1038 wd_37 wd_75) ?_
  refine ok_c (j := 9) rfl (ok_aload_n (j := ⟨0, by decide⟩) (pc := 15) rfl rfl (by decide +kernel)) ?_
  refine ok_c (j := 10) rfl (ok_iload_n (j := ⟨1, by decide⟩) (pc := 16) rfl rfl (by decide +kernel)) ?_
  refine ok_c (j := 11) rfl (ok_iload_n (j := ⟨2, by decide⟩) (pc := 17) rfl rfl (by decide +kernel)) ?_
  refine ok_c (j := 12) rfl (ok_iload_n (j := ⟨3, by decide⟩) (pc := 18) rfl rfl (by decide +kernel)) ?_
  refine ok_c (j := 13) rfl (ok_aload_n (j := ⟨0, by decide⟩) (pc := 19) rfl rfl (by decide +kernel)) ?_
  refine ok_c (j := 14) rfl (ok_getI (ci := 12) (C := RX12) (T := TX12) (N := 45) (ix := 38) (pc := 20) rfl rfl (by decide +kernel) rfl (fun _ => rfl) rfl cw_X12 (by decide) rfl wd_834) ?_
  refine ok_c (j := 15) rfl (ok_virtual (y := yX12_bids) (n := 4) (d' := 5) (t := 20) (T := TX12) (N := 45) (ix := 249) is_cv (pc := 23) rfl rfl (by decide +kernel) (by decide) (ct_X12_bids l) rfl (fun _ => rfl) ce_fV_rec wd_1143 wd_1145 wd_51 wd_75) ?_
  refine ok_c (j := 16) rfl (ok_aload_n (j := ⟨0, by decide⟩) (pc := 26) rfl rfl (by decide +kernel)) ?_
  refine ok_c (j := 17) rfl (ok_aload_n (j := ⟨0, by decide⟩) (pc := 27) rfl rfl (by decide +kernel)) ?_
  refine ok_c (j := 18) rfl (ok_getS (f := 5) (ci := 12) (C := RX12) (T := TX12) (N := 45) (ix := 25) (pc := 28) rfl rfl (by decide +kernel) rfl (fun _ => rfl) rfl cw_X12 (by decide) rfl wd_829) ?_
  refine ok_c (j := 19) rfl (ok_iload_n (j := ⟨1, by decide⟩) (pc := 31) rfl rfl (by decide +kernel)) ?_
  refine ok_c (j := 20) rfl (ok_ild (pc := 32) rfl rfl (by decide +kernel) rfl) ?_
  refine ok_c (j := 21) rfl (ok_putI (ci := 12) (C := RX12) (T := TX12) (N := 45) (ty := tyX12) (ix := 253) (pc := 33) rfl rfl (by decide +kernel) rfl (fun _ => rfl) rfl cw_X12 tyX12_ok nmX12 (by decide) rfl rfl rfl wd_859) ?_
  refine ok_c (j := 22) rfl (ok_aload_n (j := ⟨0, by decide⟩) (pc := 36) rfl rfl (by decide +kernel)) ?_
  refine ok_c (j := 23) rfl (ok_aload_n (j := ⟨0, by decide⟩) (pc := 37) rfl rfl (by decide +kernel)) ?_
  refine ok_c (j := 24) rfl (ok_getS (f := 6) (ci := 12) (C := RX12) (T := TX12) (N := 45) (ix := 28) (pc := 38) rfl rfl (by decide +kernel) rfl (fun _ => rfl) rfl cw_X12 (by decide) rfl wd_830) ?_
  refine ok_c (j := 25) rfl (ok_iload_n (j := ⟨1, by decide⟩) (pc := 41) rfl rfl (by decide +kernel)) ?_
  refine ok_c (j := 26) rfl (ok_ild (pc := 42) rfl rfl (by decide +kernel) rfl) ?_
  refine ok_c (j := 27) rfl (ok_putI (ci := 12) (C := RX12) (T := TX12) (N := 45) (ty := tyX12) (ix := 256) (pc := 43) rfl rfl (by decide +kernel) rfl (fun _ => rfl) rfl cw_X12 tyX12_ok nmX12 (by decide) rfl rfl rfl wd_860) ?_
  refine ok_c (j := 28) rfl (ok_aload_n (j := ⟨0, by decide⟩) (pc := 46) rfl rfl (by decide +kernel)) ?_
  refine ok_c (j := 29) rfl (ok_aload_n (j := ⟨0, by decide⟩) (pc := 47) rfl rfl (by decide +kernel)) ?_
  refine ok_c (j := 30) rfl (ok_getS (f := 4) (ci := 12) (C := RX12) (T := TX12) (N := 45) (ix := 22) (pc := 48) rfl rfl (by decide +kernel) rfl (fun _ => rfl) rfl cw_X12 (by decide) rfl wd_828) ?_
  refine ok_c (j := 31) rfl (ok_iload_n (j := ⟨1, by decide⟩) (pc := 51) rfl rfl (by decide +kernel)) ?_
  refine ok_c (j := 32) rfl (ok_ild (pc := 52) rfl rfl (by decide +kernel) rfl) ?_
  refine ok_c (j := 33) rfl (ok_putI (ci := 12) (C := RX12) (T := TX12) (N := 45) (ty := tyX12) (ix := 259) (pc := 53) rfl rfl (by decide +kernel) rfl (fun _ => rfl) rfl cw_X12 tyX12_ok nmX12 (by decide) rfl rfl rfl wd_861) ?_
  refine ok_c (j := 34) rfl (ok_aload_n (j := ⟨0, by decide⟩) (pc := 56) rfl rfl (by decide +kernel)) ?_
  refine ok_c (j := 35) rfl (ok_iconst (n := 1) (pc := 57) rfl rfl (by decide +kernel) (by decide)) ?_
  refine ok_c (j := 36) rfl (ok_aload_n (j := ⟨0, by decide⟩) (pc := 58) rfl rfl (by decide +kernel)) ?_
  refine ok_c (j := 37) rfl (ok_getI (ci := 12) (C := RX12) (T := TX12) (N := 45) (ix := 82) (pc := 59) rfl rfl (by decide +kernel) rfl (fun _ => rfl) rfl cw_X12 (by decide) rfl wd_831) ?_
  refine ok_c (j := 38) rfl (ok_virtual (y := yX12_putsBack) (n := 2) (d' := 1) (t := 20) (T := TX12) (N := 45) (ix := 242) is_cv (pc := 62) rfl rfl (by decide +kernel) (by decide) (ct_X12_putsBack l) rfl (fun _ => rfl) ce_fV_rec wd_1128 wd_1130 wd_49 wd_75) ?_
  refine ok_c (j := 39) rfl (ok_aload_n (j := ⟨0, by decide⟩) (pc := 65) rfl rfl (by decide +kernel)) ?_
  refine ok_c (j := 40) rfl (ok_getI (ci := 12) (C := RX12) (T := TX12) (N := 45) (ix := 256) (pc := 66) rfl rfl (by decide +kernel) rfl (fun _ => rfl) rfl cw_X12 (by decide) rfl wd_860) ?_
  refine ok_c (j := 41) rfl (ok_iret (pc := 69) rfl (by decide +kernel) rfl) ?_
  exact trivial
noncomputable def F_X12_thinks := ce_fI tb_X12_thinks 5 (some 20)
theorem ct_X12_thinks (l : Launch) : ce_callee l yX12_thinks 4 6 0 0 (ce_wI F_X12_thinks) := ⟨_, _, _, ce_ctr_of (pcs := pc_X12_thinks) (by decide +kernel) rfl (ok_X12_thinks l ) ce_fI_run, ce_tw_at wd_1142 rfl, by decide, by decide +kernel, by decide +kernel, by decide +kernel⟩
def pc_X12_hisCost : List Nat := [0, 1, 2, 5, 8, 9, 12, 15, 16, 17, 18, 21, 24, 26, 27, 28, 31, 32, 33, 36, 38, 39, 40, 43, 44, 45, 46, 47, 48, 51, 53, 54, 55, 56, 59, 60, 63, 64, 65, 67, 68, 70, 71, 73, 74, 76, 77, 79, 81, 84, 87, 88, 91, 92, 94, 95, 96, 97, 98, 101, 104, 107, 110, 112, 115, 117, 120, 122, 124, 126, 128, 131, 134, 135, 138, 139, 141, 142, 143, 144, 145, 148, 151, 152, 155, 157, 160, 161, 162, 165, 167, 170, 172]
noncomputable def tb_X12_hisCost : List ce_Op := [o_aload 0, o_iload 1, o_ci 2 F_X12_isSeller 0 0 0 0, o_ifeq 12, o_iload 2, o_ci 1 F_X12_isSheet 0 0 0 0, o_ifeq 12, o_iload 3, o_int 0, o_int 2, o_ci 3 F_X12_isIn 0 0 0 0, o_ifne 14, o_int (-2), o_iret, o_aload 0, o_getS 20 34 (fun _ => 0), o_iload 2, o_ild 34, o_ifge 21, o_int (-11), o_iret, o_aload 0, o_getS 20 35 (fun _ => 0), o_iload 2, o_ild 35, o_int 2, o_rem, o_int 1, o_cmpne 31, o_int (-2), o_iret, o_aload 0, o_int 1, o_cv 2 F_X12_keeps 0 0 0 0, o_aload 0, o_getS 20 22 (fun _ => 0), o_iload 1, o_ild 22, o_istore 4, o_int 0, o_istore 5, o_int (-1), o_istore 6, o_int (-1), o_istore 7, o_int 0, o_istore 8, o_iload 8, o_int 999, o_cmpgt 72, o_aload 0, o_getS 20 22 (fun _ => 0), o_iload 1, o_iload 8, o_ist 22, o_aload 0, o_iload 1, o_iload 2, o_ci 3 F_X12_isJustSo 0 0 0 0, o_ifne 61, o_goto 70, o_iinc 5 1, o_iload 6, o_ifge 66, o_iload 8, o_goto 67, o_iload 6, o_istore 6, o_iload 8, o_istore 7, o_iinc 8 1, o_goto 47, o_aload 0, o_getS 20 22 (fun _ => 0), o_iload 1, o_iload 4, o_ist 22, o_aload 0, o_int 1, o_aload 0, o_getI 20 7, o_cv 3 F_X12_putsBack 0 0 0 0, o_iload 3, o_ifne 86, o_iload 5, o_goto 92, o_iload 3, o_int 1, o_cmpne 91, o_iload 6, o_goto 92, o_iload 7, o_iret]
theorem tl_X12_hisCost : ce_TL tb_X12_hisCost := by
  unfold tb_X12_hisCost
  refine tl_c ta_aload ?_
  refine tl_c ta_iload ?_
  refine tl_c ta_ci ?_
  refine tl_c ta_ifeq ?_
  refine tl_c ta_iload ?_
  refine tl_c ta_ci ?_
  refine tl_c ta_ifeq ?_
  refine tl_c ta_iload ?_
  refine tl_c ta_int ?_
  refine tl_c ta_int ?_
  refine tl_c ta_ci ?_
  refine tl_c ta_ifne ?_
  refine tl_c ta_int ?_
  refine tl_c ta_iret ?_
  refine tl_c ta_aload ?_
  refine tl_c ta_getS ?_
  refine tl_c ta_iload ?_
  refine tl_c ta_ild ?_
  refine tl_c ta_ifge ?_
  refine tl_c ta_int ?_
  refine tl_c ta_iret ?_
  refine tl_c ta_aload ?_
  refine tl_c ta_getS ?_
  refine tl_c ta_iload ?_
  refine tl_c ta_ild ?_
  refine tl_c ta_int ?_
  refine tl_c ta_rem ?_
  refine tl_c ta_int ?_
  refine tl_c ta_cmpne ?_
  refine tl_c ta_int ?_
  refine tl_c ta_iret ?_
  refine tl_c ta_aload ?_
  refine tl_c ta_int ?_
  refine tl_c ta_cv ?_
  refine tl_c ta_aload ?_
  refine tl_c ta_getS ?_
  refine tl_c ta_iload ?_
  refine tl_c ta_ild ?_
  refine tl_c ta_istore ?_
  refine tl_c ta_int ?_
  refine tl_c ta_istore ?_
  refine tl_c ta_int ?_
  refine tl_c ta_istore ?_
  refine tl_c ta_int ?_
  refine tl_c ta_istore ?_
  refine tl_c ta_int ?_
  refine tl_c ta_istore ?_
  refine tl_c ta_iload ?_
  refine tl_c ta_int ?_
  refine tl_c ta_cmpgt ?_
  refine tl_c ta_aload ?_
  refine tl_c ta_getS ?_
  refine tl_c ta_iload ?_
  refine tl_c ta_iload ?_
  refine tl_c ta_ist ?_
  refine tl_c ta_aload ?_
  refine tl_c ta_iload ?_
  refine tl_c ta_iload ?_
  refine tl_c ta_ci ?_
  refine tl_c ta_ifne ?_
  refine tl_c ta_goto ?_
  refine tl_c ta_iinc ?_
  refine tl_c ta_iload ?_
  refine tl_c ta_ifge ?_
  refine tl_c ta_iload ?_
  refine tl_c ta_goto ?_
  refine tl_c ta_iload ?_
  refine tl_c ta_istore ?_
  refine tl_c ta_iload ?_
  refine tl_c ta_istore ?_
  refine tl_c ta_iinc ?_
  refine tl_c ta_goto ?_
  refine tl_c ta_aload ?_
  refine tl_c ta_getS ?_
  refine tl_c ta_iload ?_
  refine tl_c ta_iload ?_
  refine tl_c ta_ist ?_
  refine tl_c ta_aload ?_
  refine tl_c ta_int ?_
  refine tl_c ta_aload ?_
  refine tl_c ta_getI ?_
  refine tl_c ta_cv ?_
  refine tl_c ta_iload ?_
  refine tl_c ta_ifne ?_
  refine tl_c ta_iload ?_
  refine tl_c ta_goto ?_
  refine tl_c ta_iload ?_
  refine tl_c ta_int ?_
  refine tl_c ta_cmpne ?_
  refine tl_c ta_iload ?_
  refine tl_c ta_goto ?_
  refine tl_c ta_iload ?_
  refine tl_c ta_iret ?_
  exact trivial
set_option maxRecDepth 20000 in
theorem ok_X12_hisCost (l : Launch) : ce_OkL l cX12_hisCost RX12 9 (some .int) 6 0 0 pc_X12_hisCost 0 tb_X12_hisCost := by
  unfold tb_X12_hisCost
  refine ok_c (j := 1) rfl (ok_aload_n (j := ⟨0, by decide⟩) (pc := 0) rfl rfl (by decide +kernel)) ?_
  refine ok_c (j := 2) rfl (ok_iload_n (j := ⟨1, by decide⟩) (pc := 1) rfl rfl (by decide +kernel)) ?_
  refine ok_c (j := 3) rfl (ok_virtual (y := yX12_isSeller) (n := 1) (d' := 1) (t := 20) (T := TX12) (N := 45) (ix := 192) is_ci (pc := 2) rfl rfl (by decide +kernel) (by decide) (ct_X12_isSeller l) rfl (fun _ => rfl) ce_fI_rec wd_1062 wd_1064 wd_41 wd_75) ?_
  refine ok_c (j := 4) rfl (ok_ifeq (off := 19) (tg := 24) (pc := 5) rfl rfl (by decide +kernel) rfl (by decide)) ?_
  refine ok_c (j := 5) rfl (ok_iload_n (j := ⟨2, by decide⟩) (pc := 8) rfl rfl (by decide +kernel)) ?_
  refine ok_c (j := 6) rfl (ok_static (y := yX12_isSheet) (n := 1) (d' := 1) (ix := 269) is_ci (pc := 9) rfl rfl (by decide +kernel) (by decide) rfl (ct_X12_isSheet l) wd_1167 wd_1168 wd_75) ?_
  refine ok_c (j := 7) rfl (ok_ifeq (off := 12) (tg := 24) (pc := 12) rfl rfl (by decide +kernel) rfl (by decide)) ?_
  refine ok_c (j := 8) rfl (ok_iload_n (j := ⟨3, by decide⟩) (pc := 15) rfl rfl (by decide +kernel)) ?_
  refine ok_c (j := 9) rfl (ok_iconst (n := 0) (pc := 16) rfl rfl (by decide +kernel) (by decide)) ?_
  refine ok_c (j := 10) rfl (ok_iconst (n := 2) (pc := 17) rfl rfl (by decide +kernel) (by decide)) ?_
  refine ok_c (j := 11) rfl (ok_static (y := yX12_isIn) (n := 3) (d' := 1) (ix := 92) is_ci (pc := 18) rfl rfl (by decide +kernel) (by decide) rfl (ct_X12_isIn l) wd_964 wd_965 wd_75) ?_
  refine ok_c (j := 12) rfl (ok_ifne (off := 6) (tg := 27) (pc := 21) rfl rfl (by decide +kernel) rfl (by decide)) ?_
  refine ok_c (j := 13) rfl (ok_bipush (n := (-2)) (pc := 24) rfl rfl (by decide +kernel) (by decide)) ?_
  refine ok_c (j := 14) rfl (ok_iret (pc := 26) rfl (by decide +kernel) rfl) ?_
  refine ok_c (j := 15) rfl (ok_aload_n (j := ⟨0, by decide⟩) (pc := 27) rfl rfl (by decide +kernel)) ?_
  refine ok_c (j := 16) rfl (ok_getS (f := 41) (ci := 12) (C := RX12) (T := TX12) (N := 45) (ix := 67) (pc := 28) rfl rfl (by decide +kernel) rfl (fun _ => rfl) rfl cw_X12 (by decide) rfl wd_865) ?_
  refine ok_c (j := 17) rfl (ok_iload_n (j := ⟨2, by decide⟩) (pc := 31) rfl rfl (by decide +kernel)) ?_
  refine ok_c (j := 18) rfl (ok_ild (pc := 32) rfl rfl (by decide +kernel) rfl) ?_
  refine ok_c (j := 19) rfl (ok_ifge (off := 6) (tg := 39) (pc := 33) rfl rfl (by decide +kernel) rfl (by decide)) ?_
  refine ok_c (j := 20) rfl (ok_bipush (n := (-11)) (pc := 36) rfl rfl (by decide +kernel) (by decide)) ?_
  refine ok_c (j := 21) rfl (ok_iret (pc := 38) rfl (by decide +kernel) rfl) ?_
  refine ok_c (j := 22) rfl (ok_aload_n (j := ⟨0, by decide⟩) (pc := 39) rfl rfl (by decide +kernel)) ?_
  refine ok_c (j := 23) rfl (ok_getS (f := 42) (ci := 12) (C := RX12) (T := TX12) (N := 45) (ix := 70) (pc := 40) rfl rfl (by decide +kernel) rfl (fun _ => rfl) rfl cw_X12 (by decide) rfl wd_866) ?_
  refine ok_c (j := 24) rfl (ok_iload_n (j := ⟨2, by decide⟩) (pc := 43) rfl rfl (by decide +kernel)) ?_
  refine ok_c (j := 25) rfl (ok_ild (pc := 44) rfl rfl (by decide +kernel) rfl) ?_
  refine ok_c (j := 26) rfl (ok_iconst (n := 2) (pc := 45) rfl rfl (by decide +kernel) (by decide)) ?_
  refine ok_c (j := 27) rfl (ok_irem (pc := 46) rfl rfl (by decide +kernel)) ?_
  refine ok_c (j := 28) rfl (ok_iconst (n := 1) (pc := 47) rfl rfl (by decide +kernel) (by decide)) ?_
  refine ok_c (j := 29) rfl (ok_cmpne (off := 6) (tg := 54) (pc := 48) rfl rfl (by decide +kernel) rfl (by decide)) ?_
  refine ok_c (j := 30) rfl (ok_bipush (n := (-2)) (pc := 51) rfl rfl (by decide +kernel) (by decide)) ?_
  refine ok_c (j := 31) rfl (ok_iret (pc := 53) rfl (by decide +kernel) rfl) ?_
  refine ok_c (j := 32) rfl (ok_aload_n (j := ⟨0, by decide⟩) (pc := 54) rfl rfl (by decide +kernel)) ?_
  refine ok_c (j := 33) rfl (ok_iconst (n := 1) (pc := 55) rfl rfl (by decide +kernel) (by decide)) ?_
  refine ok_c (j := 34) rfl (ok_virtual (y := yX12_keeps) (n := 1) (d' := 1) (t := 20) (T := TX12) (N := 45) (ix := 221) is_cv (pc := 56) rfl rfl (by decide +kernel) (by decide) (ct_X12_keeps l) rfl (fun _ => rfl) ce_fV_rec wd_1116 wd_1118 wd_47 wd_75) ?_
  refine ok_c (j := 35) rfl (ok_aload_n (j := ⟨0, by decide⟩) (pc := 59) rfl rfl (by decide +kernel)) ?_
  refine ok_c (j := 36) rfl (ok_getS (f := 1) (ci := 12) (C := RX12) (T := TX12) (N := 45) (ix := 13) (pc := 60) rfl rfl (by decide +kernel) rfl (fun _ => rfl) rfl cw_X12 (by decide) rfl wd_825) ?_
  refine ok_c (j := 37) rfl (ok_iload_n (j := ⟨1, by decide⟩) (pc := 63) rfl rfl (by decide +kernel)) ?_
  refine ok_c (j := 38) rfl (ok_ild (pc := 64) rfl rfl (by decide +kernel) rfl) ?_
  refine ok_c (j := 39) rfl (ok_istore (j := 4) (pc := 65) rfl rfl (by decide +kernel) (by decide)) ?_
  refine ok_c (j := 40) rfl (ok_iconst (n := 0) (pc := 67) rfl rfl (by decide +kernel) (by decide)) ?_
  refine ok_c (j := 41) rfl (ok_istore (j := 5) (pc := 68) rfl rfl (by decide +kernel) (by decide)) ?_
  refine ok_c (j := 42) rfl (ok_iconst (n := (-1)) (pc := 70) rfl rfl (by decide +kernel) (by decide)) ?_
  refine ok_c (j := 43) rfl (ok_istore (j := 6) (pc := 71) rfl rfl (by decide +kernel) (by decide)) ?_
  refine ok_c (j := 44) rfl (ok_iconst (n := (-1)) (pc := 73) rfl rfl (by decide +kernel) (by decide)) ?_
  refine ok_c (j := 45) rfl (ok_istore (j := 7) (pc := 74) rfl rfl (by decide +kernel) (by decide)) ?_
  refine ok_c (j := 46) rfl (ok_iconst (n := 0) (pc := 76) rfl rfl (by decide +kernel) (by decide)) ?_
  refine ok_c (j := 47) rfl (ok_istore (j := 8) (pc := 77) rfl rfl (by decide +kernel) (by decide)) ?_
  refine ok_c (j := 48) rfl (ok_iload (j := 8) (pc := 79) rfl rfl (by decide +kernel)) ?_
  refine ok_c (j := 49) rfl (ok_sipush (n := 999) (pc := 81) rfl rfl (by decide +kernel) (by decide)) ?_
  refine ok_c (j := 50) rfl (ok_cmpgt (off := 50) (tg := 134) (pc := 84) rfl rfl (by decide +kernel) rfl (by decide)) ?_
  refine ok_c (j := 51) rfl (ok_aload_n (j := ⟨0, by decide⟩) (pc := 87) rfl rfl (by decide +kernel)) ?_
  refine ok_c (j := 52) rfl (ok_getS (f := 1) (ci := 12) (C := RX12) (T := TX12) (N := 45) (ix := 13) (pc := 88) rfl rfl (by decide +kernel) rfl (fun _ => rfl) rfl cw_X12 (by decide) rfl wd_825) ?_
  refine ok_c (j := 53) rfl (ok_iload_n (j := ⟨1, by decide⟩) (pc := 91) rfl rfl (by decide +kernel)) ?_
  refine ok_c (j := 54) rfl (ok_iload (j := 8) (pc := 92) rfl rfl (by decide +kernel)) ?_
  refine ok_c (j := 55) rfl (ok_ist (pc := 94) rfl rfl (by decide +kernel) rfl) ?_
  refine ok_c (j := 56) rfl (ok_aload_n (j := ⟨0, by decide⟩) (pc := 95) rfl rfl (by decide +kernel)) ?_
  refine ok_c (j := 57) rfl (ok_iload_n (j := ⟨1, by decide⟩) (pc := 96) rfl rfl (by decide +kernel)) ?_
  refine ok_c (j := 58) rfl (ok_iload_n (j := ⟨2, by decide⟩) (pc := 97) rfl rfl (by decide +kernel)) ?_
  refine ok_c (j := 59) rfl (ok_virtual (y := yX12_isJustSo) (n := 2) (d' := 5) (t := 20) (T := TX12) (N := 45) (ix := 272) is_ci (pc := 98) rfl rfl (by decide +kernel) (by decide) (ct_X12_isJustSo l) rfl (fun _ => rfl) ce_fI_rec wd_1170 wd_1172 wd_52 wd_75) ?_
  refine ok_c (j := 60) rfl (ok_ifne (off := 6) (tg := 107) (pc := 101) rfl rfl (by decide +kernel) rfl (by decide)) ?_
  refine ok_c (j := 61) rfl (ok_goto (off := 24) (tg := 128) (pc := 104) rfl (by decide +kernel) rfl (by decide)) ?_
  refine ok_c (j := 62) rfl (ok_iinc (n := 1) (pc := 107) rfl rfl (by decide +kernel) (by decide) (by decide)) ?_
  refine ok_c (j := 63) rfl (ok_iload (j := 6) (pc := 110) rfl rfl (by decide +kernel)) ?_
  refine ok_c (j := 64) rfl (ok_ifge (off := 8) (tg := 120) (pc := 112) rfl rfl (by decide +kernel) rfl (by decide)) ?_
  refine ok_c (j := 65) rfl (ok_iload (j := 8) (pc := 115) rfl rfl (by decide +kernel)) ?_
  refine ok_c (j := 66) rfl (ok_goto (off := 5) (tg := 122) (pc := 117) rfl (by decide +kernel) rfl (by decide)) ?_
  refine ok_c (j := 67) rfl (ok_iload (j := 6) (pc := 120) rfl rfl (by decide +kernel)) ?_
  refine ok_c (j := 68) rfl (ok_istore (j := 6) (pc := 122) rfl rfl (by decide +kernel) (by decide)) ?_
  refine ok_c (j := 69) rfl (ok_iload (j := 8) (pc := 124) rfl rfl (by decide +kernel)) ?_
  refine ok_c (j := 70) rfl (ok_istore (j := 7) (pc := 126) rfl rfl (by decide +kernel) (by decide)) ?_
  refine ok_c (j := 71) rfl (ok_iinc (n := 1) (pc := 128) rfl rfl (by decide +kernel) (by decide) (by decide)) ?_
  refine ok_c (j := 72) rfl (ok_goto (off := (-52)) (tg := 79) (pc := 131) rfl (by decide +kernel) rfl (by decide)) ?_
  refine ok_c (j := 73) rfl (ok_aload_n (j := ⟨0, by decide⟩) (pc := 134) rfl rfl (by decide +kernel)) ?_
  refine ok_c (j := 74) rfl (ok_getS (f := 1) (ci := 12) (C := RX12) (T := TX12) (N := 45) (ix := 13) (pc := 135) rfl rfl (by decide +kernel) rfl (fun _ => rfl) rfl cw_X12 (by decide) rfl wd_825) ?_
  refine ok_c (j := 75) rfl (ok_iload_n (j := ⟨1, by decide⟩) (pc := 138) rfl rfl (by decide +kernel)) ?_
  refine ok_c (j := 76) rfl (ok_iload (j := 4) (pc := 139) rfl rfl (by decide +kernel)) ?_
  refine ok_c (j := 77) rfl (ok_ist (pc := 141) rfl rfl (by decide +kernel) rfl) ?_
  refine ok_c (j := 78) rfl (ok_aload_n (j := ⟨0, by decide⟩) (pc := 142) rfl rfl (by decide +kernel)) ?_
  refine ok_c (j := 79) rfl (ok_iconst (n := 1) (pc := 143) rfl rfl (by decide +kernel) (by decide)) ?_
  refine ok_c (j := 80) rfl (ok_aload_n (j := ⟨0, by decide⟩) (pc := 144) rfl rfl (by decide +kernel)) ?_
  refine ok_c (j := 81) rfl (ok_getI (ci := 12) (C := RX12) (T := TX12) (N := 45) (ix := 82) (pc := 145) rfl rfl (by decide +kernel) rfl (fun _ => rfl) rfl cw_X12 (by decide) rfl wd_831) ?_
  refine ok_c (j := 82) rfl (ok_virtual (y := yX12_putsBack) (n := 2) (d' := 1) (t := 20) (T := TX12) (N := 45) (ix := 242) is_cv (pc := 148) rfl rfl (by decide +kernel) (by decide) (ct_X12_putsBack l) rfl (fun _ => rfl) ce_fV_rec wd_1128 wd_1130 wd_49 wd_75) ?_
  refine ok_c (j := 83) rfl (ok_iload_n (j := ⟨3, by decide⟩) (pc := 151) rfl rfl (by decide +kernel)) ?_
  refine ok_c (j := 84) rfl (ok_ifne (off := 8) (tg := 160) (pc := 152) rfl rfl (by decide +kernel) rfl (by decide)) ?_
  refine ok_c (j := 85) rfl (ok_iload (j := 5) (pc := 155) rfl rfl (by decide +kernel)) ?_
  refine ok_c (j := 86) rfl (ok_goto (off := 15) (tg := 172) (pc := 157) rfl (by decide +kernel) rfl (by decide)) ?_
  refine ok_c (j := 87) rfl (ok_iload_n (j := ⟨3, by decide⟩) (pc := 160) rfl rfl (by decide +kernel)) ?_
  refine ok_c (j := 88) rfl (ok_iconst (n := 1) (pc := 161) rfl rfl (by decide +kernel) (by decide)) ?_
  refine ok_c (j := 89) rfl (ok_cmpne (off := 8) (tg := 170) (pc := 162) rfl rfl (by decide +kernel) rfl (by decide)) ?_
  refine ok_c (j := 90) rfl (ok_iload (j := 6) (pc := 165) rfl rfl (by decide +kernel)) ?_
  refine ok_c (j := 91) rfl (ok_goto (off := 5) (tg := 172) (pc := 167) rfl (by decide +kernel) rfl (by decide)) ?_
  refine ok_c (j := 92) rfl (ok_iload (j := 7) (pc := 170) rfl rfl (by decide +kernel)) ?_
  refine ok_c (j := 93) rfl (ok_iret (pc := 172) rfl (by decide +kernel) rfl) ?_
  exact trivial
noncomputable def F_X12_hisCost := ce_fI tb_X12_hisCost 9 (some 20)
theorem ct_X12_hisCost (l : Launch) : ce_callee l yX12_hisCost 3 6 0 0 (ce_wI F_X12_hisCost) := ⟨_, _, _, ce_ctr_of (pcs := pc_X12_hisCost) (by decide +kernel) rfl (ok_X12_hisCost l ) ce_fI_run, ce_tw_at wd_1166 rfl, by decide, by decide +kernel, by decide +kernel, by decide +kernel⟩
def pc_X12_goesBuyer : List Nat := [0, 1, 3, 4, 6, 8, 9, 12, 15, 17, 20, 21, 24, 26, 27, 30, 31, 33, 34, 35, 38, 40, 41, 44, 45, 48, 49, 52, 53, 55, 58, 61, 62, 64, 66, 67, 70, 73, 74, 77, 79, 80, 83, 86, 87, 89, 90, 91, 92, 95, 96, 99, 101, 102, 103, 106, 109, 110, 111, 114, 115, 116, 119, 120, 121, 124, 125, 128, 130, 131, 132, 135, 136, 139, 142, 143, 144, 147, 149, 152, 153, 156, 157, 158, 161]
noncomputable def tb_X12_goesBuyer : List ce_Op := [o_int 0, o_istore 4, o_int 0, o_istore 5, o_iload 5, o_aload 0, o_getI 20 7, o_cmpge 31, o_iload 4, o_ifne 25, o_aload 0, o_getS 20 26 (fun _ => 0), o_iload 5, o_ild 26, o_ifne 27, o_aload 0, o_iload 5, o_int 0, o_aload 0, o_getS 20 24 (fun _ => 0), o_iload 5, o_ild 24, o_ci 4 F_X12_leastOf 0 0 0 0, o_iload 3, o_cmpgt 27, o_int 1, o_goto 28, o_int 0, o_istore 4, o_iinc 5 1, o_goto 4, o_int 0, o_istore 5, o_iload 5, o_aload 0, o_getI 20 7, o_cmpge 74, o_aload 0, o_getS 20 26 (fun _ => 0), o_iload 5, o_ild 26, o_ifeq 43, o_goto 72, o_aload 0, o_iload 5, o_iload 1, o_iload 2, o_iload 3, o_cv 5 F_X12_bids 0 0 0 0, o_aload 0, o_getS 20 26 (fun _ => 0), o_iload 5, o_ild 26, o_int 1, o_cmpeq 56, o_goto 72, o_aload 0, o_dup, o_getI 20 38, o_int 1, o_bin q_add, o_putI 20 38, o_aload 0, o_dup, o_getI 20 39, o_aload 0, o_getS 20 27 (fun _ => 0), o_iload 5, o_ild 27, o_bin q_add, o_putI 20 39, o_vret, o_iinc 5 1, o_goto 33, o_aload 0, o_dup, o_getI 20 40, o_iload 4, o_ifeq 81, o_int 1, o_goto 82, o_int 0, o_bin q_add, o_putI 20 40, o_vret]
theorem tl_X12_goesBuyer : ce_TL tb_X12_goesBuyer := by
  unfold tb_X12_goesBuyer
  refine tl_c ta_int ?_
  refine tl_c ta_istore ?_
  refine tl_c ta_int ?_
  refine tl_c ta_istore ?_
  refine tl_c ta_iload ?_
  refine tl_c ta_aload ?_
  refine tl_c ta_getI ?_
  refine tl_c ta_cmpge ?_
  refine tl_c ta_iload ?_
  refine tl_c ta_ifne ?_
  refine tl_c ta_aload ?_
  refine tl_c ta_getS ?_
  refine tl_c ta_iload ?_
  refine tl_c ta_ild ?_
  refine tl_c ta_ifne ?_
  refine tl_c ta_aload ?_
  refine tl_c ta_iload ?_
  refine tl_c ta_int ?_
  refine tl_c ta_aload ?_
  refine tl_c ta_getS ?_
  refine tl_c ta_iload ?_
  refine tl_c ta_ild ?_
  refine tl_c ta_ci ?_
  refine tl_c ta_iload ?_
  refine tl_c ta_cmpgt ?_
  refine tl_c ta_int ?_
  refine tl_c ta_goto ?_
  refine tl_c ta_int ?_
  refine tl_c ta_istore ?_
  refine tl_c ta_iinc ?_
  refine tl_c ta_goto ?_
  refine tl_c ta_int ?_
  refine tl_c ta_istore ?_
  refine tl_c ta_iload ?_
  refine tl_c ta_aload ?_
  refine tl_c ta_getI ?_
  refine tl_c ta_cmpge ?_
  refine tl_c ta_aload ?_
  refine tl_c ta_getS ?_
  refine tl_c ta_iload ?_
  refine tl_c ta_ild ?_
  refine tl_c ta_ifeq ?_
  refine tl_c ta_goto ?_
  refine tl_c ta_aload ?_
  refine tl_c ta_iload ?_
  refine tl_c ta_iload ?_
  refine tl_c ta_iload ?_
  refine tl_c ta_iload ?_
  refine tl_c ta_cv ?_
  refine tl_c ta_aload ?_
  refine tl_c ta_getS ?_
  refine tl_c ta_iload ?_
  refine tl_c ta_ild ?_
  refine tl_c ta_int ?_
  refine tl_c ta_cmpeq ?_
  refine tl_c ta_goto ?_
  refine tl_c ta_aload ?_
  refine tl_c ta_dup ?_
  refine tl_c ta_getI ?_
  refine tl_c ta_int ?_
  refine tl_c ta_bin ?_
  refine tl_c ta_putI ?_
  refine tl_c ta_aload ?_
  refine tl_c ta_dup ?_
  refine tl_c ta_getI ?_
  refine tl_c ta_aload ?_
  refine tl_c ta_getS ?_
  refine tl_c ta_iload ?_
  refine tl_c ta_ild ?_
  refine tl_c ta_bin ?_
  refine tl_c ta_putI ?_
  refine tl_c ta_vret ?_
  refine tl_c ta_iinc ?_
  refine tl_c ta_goto ?_
  refine tl_c ta_aload ?_
  refine tl_c ta_dup ?_
  refine tl_c ta_getI ?_
  refine tl_c ta_iload ?_
  refine tl_c ta_ifeq ?_
  refine tl_c ta_int ?_
  refine tl_c ta_goto ?_
  refine tl_c ta_int ?_
  refine tl_c ta_bin ?_
  refine tl_c ta_putI ?_
  refine tl_c ta_vret ?_
  exact trivial
set_option maxRecDepth 20000 in
theorem ok_X12_goesBuyer (l : Launch) : ce_OkL l cX12_goesBuyer RX12 6 none 6 0 0 pc_X12_goesBuyer 0 tb_X12_goesBuyer := by
  unfold tb_X12_goesBuyer
  refine ok_c (j := 1) rfl (ok_iconst (n := 0) (pc := 0) rfl rfl (by decide +kernel) (by decide)) ?_
  refine ok_c (j := 2) rfl (ok_istore (j := 4) (pc := 1) rfl rfl (by decide +kernel) (by decide)) ?_
  refine ok_c (j := 3) rfl (ok_iconst (n := 0) (pc := 3) rfl rfl (by decide +kernel) (by decide)) ?_
  refine ok_c (j := 4) rfl (ok_istore (j := 5) (pc := 4) rfl rfl (by decide +kernel) (by decide)) ?_
  refine ok_c (j := 5) rfl (ok_iload (j := 5) (pc := 6) rfl rfl (by decide +kernel)) ?_
  refine ok_c (j := 6) rfl (ok_aload_n (j := ⟨0, by decide⟩) (pc := 8) rfl rfl (by decide +kernel)) ?_
  refine ok_c (j := 7) rfl (ok_getI (ci := 12) (C := RX12) (T := TX12) (N := 45) (ix := 82) (pc := 9) rfl rfl (by decide +kernel) rfl (fun _ => rfl) rfl cw_X12 (by decide) rfl wd_831) ?_
  refine ok_c (j := 8) rfl (ok_cmpge (off := 49) (tg := 61) (pc := 12) rfl rfl (by decide +kernel) rfl (by decide)) ?_
  refine ok_c (j := 9) rfl (ok_iload (j := 4) (pc := 15) rfl rfl (by decide +kernel)) ?_
  refine ok_c (j := 10) rfl (ok_ifne (off := 31) (tg := 48) (pc := 17) rfl rfl (by decide +kernel) rfl (by decide)) ?_
  refine ok_c (j := 11) rfl (ok_aload_n (j := ⟨0, by decide⟩) (pc := 20) rfl rfl (by decide +kernel)) ?_
  refine ok_c (j := 12) rfl (ok_getS (f := 5) (ci := 12) (C := RX12) (T := TX12) (N := 45) (ix := 25) (pc := 21) rfl rfl (by decide +kernel) rfl (fun _ => rfl) rfl cw_X12 (by decide) rfl wd_829) ?_
  refine ok_c (j := 13) rfl (ok_iload (j := 5) (pc := 24) rfl rfl (by decide +kernel)) ?_
  refine ok_c (j := 14) rfl (ok_ild (pc := 26) rfl rfl (by decide +kernel) rfl) ?_
  refine ok_c (j := 15) rfl (ok_ifne (off := 25) (tg := 52) (pc := 27) rfl rfl (by decide +kernel) rfl (by decide)) ?_
  refine ok_c (j := 16) rfl (ok_aload_n (j := ⟨0, by decide⟩) (pc := 30) rfl rfl (by decide +kernel)) ?_
  refine ok_c (j := 17) rfl (ok_iload (j := 5) (pc := 31) rfl rfl (by decide +kernel)) ?_
  refine ok_c (j := 18) rfl (ok_iconst (n := 0) (pc := 33) rfl rfl (by decide +kernel) (by decide)) ?_
  refine ok_c (j := 19) rfl (ok_aload_n (j := ⟨0, by decide⟩) (pc := 34) rfl rfl (by decide +kernel)) ?_
  refine ok_c (j := 20) rfl (ok_getS (f := 3) (ci := 12) (C := RX12) (T := TX12) (N := 45) (ix := 19) (pc := 35) rfl rfl (by decide +kernel) rfl (fun _ => rfl) rfl cw_X12 (by decide) rfl wd_827) ?_
  refine ok_c (j := 21) rfl (ok_iload (j := 5) (pc := 38) rfl rfl (by decide +kernel)) ?_
  refine ok_c (j := 22) rfl (ok_ild (pc := 40) rfl rfl (by decide +kernel) rfl) ?_
  refine ok_c (j := 23) rfl (ok_virtual (y := yX12_leastOf) (n := 3) (d' := 3) (t := 20) (T := TX12) (N := 45) (ix := 182) is_ci (pc := 41) rfl rfl (by decide +kernel) (by decide) (ct_X12_leastOf l) rfl (fun _ => rfl) ce_fI_rec wd_1051 wd_1053 wd_40 wd_75) ?_
  refine ok_c (j := 24) rfl (ok_iload_n (j := ⟨3, by decide⟩) (pc := 44) rfl rfl (by decide +kernel)) ?_
  refine ok_c (j := 25) rfl (ok_cmpgt (off := 7) (tg := 52) (pc := 45) rfl rfl (by decide +kernel) rfl (by decide)) ?_
  refine ok_c (j := 26) rfl (ok_iconst (n := 1) (pc := 48) rfl rfl (by decide +kernel) (by decide)) ?_
  refine ok_c (j := 27) rfl (ok_goto (off := 4) (tg := 53) (pc := 49) rfl (by decide +kernel) rfl (by decide)) ?_
  refine ok_c (j := 28) rfl (ok_iconst (n := 0) (pc := 52) rfl rfl (by decide +kernel) (by decide)) ?_
  refine ok_c (j := 29) rfl (ok_istore (j := 4) (pc := 53) rfl rfl (by decide +kernel) (by decide)) ?_
  refine ok_c (j := 30) rfl (ok_iinc (n := 1) (pc := 55) rfl rfl (by decide +kernel) (by decide) (by decide)) ?_
  refine ok_c (j := 31) rfl (ok_goto (off := (-52)) (tg := 6) (pc := 58) rfl (by decide +kernel) rfl (by decide)) ?_
  refine ok_c (j := 32) rfl (ok_iconst (n := 0) (pc := 61) rfl rfl (by decide +kernel) (by decide)) ?_
  refine ok_c (j := 33) rfl (ok_istore (j := 5) (pc := 62) rfl rfl (by decide +kernel) (by decide)) ?_
  refine ok_c (j := 34) rfl (ok_iload (j := 5) (pc := 64) rfl rfl (by decide +kernel)) ?_
  refine ok_c (j := 35) rfl (ok_aload_n (j := ⟨0, by decide⟩) (pc := 66) rfl rfl (by decide +kernel)) ?_
  refine ok_c (j := 36) rfl (ok_getI (ci := 12) (C := RX12) (T := TX12) (N := 45) (ix := 82) (pc := 67) rfl rfl (by decide +kernel) rfl (fun _ => rfl) rfl cw_X12 (by decide) rfl wd_831) ?_
  refine ok_c (j := 37) rfl (ok_cmpge (off := 72) (tg := 142) (pc := 70) rfl rfl (by decide +kernel) rfl (by decide)) ?_
  refine ok_c (j := 38) rfl (ok_aload_n (j := ⟨0, by decide⟩) (pc := 73) rfl rfl (by decide +kernel)) ?_
  refine ok_c (j := 39) rfl (ok_getS (f := 5) (ci := 12) (C := RX12) (T := TX12) (N := 45) (ix := 25) (pc := 74) rfl rfl (by decide +kernel) rfl (fun _ => rfl) rfl cw_X12 (by decide) rfl wd_829) ?_
  refine ok_c (j := 40) rfl (ok_iload (j := 5) (pc := 77) rfl rfl (by decide +kernel)) ?_
  refine ok_c (j := 41) rfl (ok_ild (pc := 79) rfl rfl (by decide +kernel) rfl) ?_
  refine ok_c (j := 42) rfl (ok_ifeq (off := 6) (tg := 86) (pc := 80) rfl rfl (by decide +kernel) rfl (by decide)) ?_
  refine ok_c (j := 43) rfl (ok_goto (off := 53) (tg := 136) (pc := 83) rfl (by decide +kernel) rfl (by decide)) ?_
  refine ok_c (j := 44) rfl (ok_aload_n (j := ⟨0, by decide⟩) (pc := 86) rfl rfl (by decide +kernel)) ?_
  refine ok_c (j := 45) rfl (ok_iload (j := 5) (pc := 87) rfl rfl (by decide +kernel)) ?_
  refine ok_c (j := 46) rfl (ok_iload_n (j := ⟨1, by decide⟩) (pc := 89) rfl rfl (by decide +kernel)) ?_
  refine ok_c (j := 47) rfl (ok_iload_n (j := ⟨2, by decide⟩) (pc := 90) rfl rfl (by decide +kernel)) ?_
  refine ok_c (j := 48) rfl (ok_iload_n (j := ⟨3, by decide⟩) (pc := 91) rfl rfl (by decide +kernel)) ?_
  refine ok_c (j := 49) rfl (ok_virtual (y := yX12_bids) (n := 4) (d' := 5) (t := 20) (T := TX12) (N := 45) (ix := 249) is_cv (pc := 92) rfl rfl (by decide +kernel) (by decide) (ct_X12_bids l) rfl (fun _ => rfl) ce_fV_rec wd_1143 wd_1145 wd_51 wd_75) ?_
  refine ok_c (j := 50) rfl (ok_aload_n (j := ⟨0, by decide⟩) (pc := 95) rfl rfl (by decide +kernel)) ?_
  refine ok_c (j := 51) rfl (ok_getS (f := 5) (ci := 12) (C := RX12) (T := TX12) (N := 45) (ix := 25) (pc := 96) rfl rfl (by decide +kernel) rfl (fun _ => rfl) rfl cw_X12 (by decide) rfl wd_829) ?_
  refine ok_c (j := 52) rfl (ok_iload (j := 5) (pc := 99) rfl rfl (by decide +kernel)) ?_
  refine ok_c (j := 53) rfl (ok_ild (pc := 101) rfl rfl (by decide +kernel) rfl) ?_
  refine ok_c (j := 54) rfl (ok_iconst (n := 1) (pc := 102) rfl rfl (by decide +kernel) (by decide)) ?_
  refine ok_c (j := 55) rfl (ok_cmpeq (off := 6) (tg := 109) (pc := 103) rfl rfl (by decide +kernel) rfl (by decide)) ?_
  refine ok_c (j := 56) rfl (ok_goto (off := 30) (tg := 136) (pc := 106) rfl (by decide +kernel) rfl (by decide)) ?_
  refine ok_c (j := 57) rfl (ok_aload_n (j := ⟨0, by decide⟩) (pc := 109) rfl rfl (by decide +kernel)) ?_
  refine ok_c (j := 58) rfl (ok_dup (pc := 110) rfl rfl (by decide +kernel)) ?_
  refine ok_c (j := 59) rfl (ok_getI (ci := 12) (C := RX12) (T := TX12) (N := 45) (ix := 275) (pc := 111) rfl rfl (by decide +kernel) rfl (fun _ => rfl) rfl cw_X12 (by decide) rfl wd_862) ?_
  refine ok_c (j := 60) rfl (ok_iconst (n := 1) (pc := 114) rfl rfl (by decide +kernel) (by decide)) ?_
  refine ok_c (j := 61) rfl (ok_iadd (pc := 115) rfl rfl (by decide +kernel)) ?_
  refine ok_c (j := 62) rfl (ok_putI (ci := 12) (C := RX12) (T := TX12) (N := 45) (ty := tyX12) (ix := 275) (pc := 116) rfl rfl (by decide +kernel) rfl (fun _ => rfl) rfl cw_X12 tyX12_ok nmX12 (by decide) rfl rfl rfl wd_862) ?_
  refine ok_c (j := 63) rfl (ok_aload_n (j := ⟨0, by decide⟩) (pc := 119) rfl rfl (by decide +kernel)) ?_
  refine ok_c (j := 64) rfl (ok_dup (pc := 120) rfl rfl (by decide +kernel)) ?_
  refine ok_c (j := 65) rfl (ok_getI (ci := 12) (C := RX12) (T := TX12) (N := 45) (ix := 278) (pc := 121) rfl rfl (by decide +kernel) rfl (fun _ => rfl) rfl cw_X12 (by decide) rfl wd_863) ?_
  refine ok_c (j := 66) rfl (ok_aload_n (j := ⟨0, by decide⟩) (pc := 124) rfl rfl (by decide +kernel)) ?_
  refine ok_c (j := 67) rfl (ok_getS (f := 6) (ci := 12) (C := RX12) (T := TX12) (N := 45) (ix := 28) (pc := 125) rfl rfl (by decide +kernel) rfl (fun _ => rfl) rfl cw_X12 (by decide) rfl wd_830) ?_
  refine ok_c (j := 68) rfl (ok_iload (j := 5) (pc := 128) rfl rfl (by decide +kernel)) ?_
  refine ok_c (j := 69) rfl (ok_ild (pc := 130) rfl rfl (by decide +kernel) rfl) ?_
  refine ok_c (j := 70) rfl (ok_iadd (pc := 131) rfl rfl (by decide +kernel)) ?_
  refine ok_c (j := 71) rfl (ok_putI (ci := 12) (C := RX12) (T := TX12) (N := 45) (ty := tyX12) (ix := 278) (pc := 132) rfl rfl (by decide +kernel) rfl (fun _ => rfl) rfl cw_X12 tyX12_ok nmX12 (by decide) rfl rfl rfl wd_863) ?_
  refine ok_c (j := 72) rfl (ok_vret (pc := 135) rfl (by decide +kernel) rfl) ?_
  refine ok_c (j := 73) rfl (ok_iinc (n := 1) (pc := 136) rfl rfl (by decide +kernel) (by decide) (by decide)) ?_
  refine ok_c (j := 74) rfl (ok_goto (off := (-75)) (tg := 64) (pc := 139) rfl (by decide +kernel) rfl (by decide)) ?_
  refine ok_c (j := 75) rfl (ok_aload_n (j := ⟨0, by decide⟩) (pc := 142) rfl rfl (by decide +kernel)) ?_
  refine ok_c (j := 76) rfl (ok_dup (pc := 143) rfl rfl (by decide +kernel)) ?_
  refine ok_c (j := 77) rfl (ok_getI (ci := 12) (C := RX12) (T := TX12) (N := 45) (ix := 281) (pc := 144) rfl rfl (by decide +kernel) rfl (fun _ => rfl) rfl cw_X12 (by decide) rfl wd_864) ?_
  refine ok_c (j := 78) rfl (ok_iload (j := 4) (pc := 147) rfl rfl (by decide +kernel)) ?_
  refine ok_c (j := 79) rfl (ok_ifeq (off := 7) (tg := 156) (pc := 149) rfl rfl (by decide +kernel) rfl (by decide)) ?_
  refine ok_c (j := 80) rfl (ok_iconst (n := 1) (pc := 152) rfl rfl (by decide +kernel) (by decide)) ?_
  refine ok_c (j := 81) rfl (ok_goto (off := 4) (tg := 157) (pc := 153) rfl (by decide +kernel) rfl (by decide)) ?_
  refine ok_c (j := 82) rfl (ok_iconst (n := 0) (pc := 156) rfl rfl (by decide +kernel) (by decide)) ?_
  refine ok_c (j := 83) rfl (ok_iadd (pc := 157) rfl rfl (by decide +kernel)) ?_
  refine ok_c (j := 84) rfl (ok_putI (ci := 12) (C := RX12) (T := TX12) (N := 45) (ty := tyX12) (ix := 281) (pc := 158) rfl rfl (by decide +kernel) rfl (fun _ => rfl) rfl cw_X12 tyX12_ok nmX12 (by decide) rfl rfl rfl wd_864) ?_
  refine ok_c (j := 85) rfl (ok_vret (pc := 161) rfl (by decide +kernel) rfl) ?_
  exact trivial
noncomputable def F_X12_goesBuyer := ce_fV tb_X12_goesBuyer 6 (some 20)
theorem ct_X12_goesBuyer (l : Launch) : ce_callee l yX12_goesBuyer 3 6 0 0 (ce_wV F_X12_goesBuyer) := ⟨_, _, _, ce_ctr_of (pcs := pc_X12_goesBuyer) (by decide +kernel) rfl (ok_X12_goesBuyer l ) ce_fV_run, ce_tw_at wd_1185 rfl, by decide, by decide +kernel, by decide +kernel, by decide +kernel⟩
def pc_X12_drawn : List Nat := [0, 1, 2, 5, 8, 9, 10, 11, 14, 17, 19]
noncomputable def tb_X12_drawn : List ce_Op := [o_aload 0, o_iload 1, o_ci 2 F_X12_isSeller 0 0 0 0, o_ifeq 9, o_aload 0, o_iload 1, o_iload 2, o_ci 3 F_X12_drawnBy 0 0 0 0, o_goto 10, o_int (-2), o_iret]
theorem tl_X12_drawn : ce_TL tb_X12_drawn := by
  unfold tb_X12_drawn
  refine tl_c ta_aload ?_
  refine tl_c ta_iload ?_
  refine tl_c ta_ci ?_
  refine tl_c ta_ifeq ?_
  refine tl_c ta_aload ?_
  refine tl_c ta_iload ?_
  refine tl_c ta_iload ?_
  refine tl_c ta_ci ?_
  refine tl_c ta_goto ?_
  refine tl_c ta_int ?_
  refine tl_c ta_iret ?_
  exact trivial
set_option maxRecDepth 20000 in
theorem ok_X12_drawn (l : Launch) : ce_OkL l cX12_drawn RX12 3 (some .int) 6 0 0 pc_X12_drawn 0 tb_X12_drawn := by
  unfold tb_X12_drawn
  refine ok_c (j := 1) rfl (ok_aload_n (j := ⟨0, by decide⟩) (pc := 0) rfl rfl (by decide +kernel)) ?_
  refine ok_c (j := 2) rfl (ok_iload_n (j := ⟨1, by decide⟩) (pc := 1) rfl rfl (by decide +kernel)) ?_
  refine ok_c (j := 3) rfl (ok_virtual (y := yX12_isSeller) (n := 1) (d' := 1) (t := 20) (T := TX12) (N := 45) (ix := 192) is_ci (pc := 2) rfl rfl (by decide +kernel) (by decide) (ct_X12_isSeller l) rfl (fun _ => rfl) ce_fI_rec wd_1062 wd_1064 wd_41 wd_75) ?_
  refine ok_c (j := 4) rfl (ok_ifeq (off := 12) (tg := 17) (pc := 5) rfl rfl (by decide +kernel) rfl (by decide)) ?_
  refine ok_c (j := 5) rfl (ok_aload_n (j := ⟨0, by decide⟩) (pc := 8) rfl rfl (by decide +kernel)) ?_
  refine ok_c (j := 6) rfl (ok_iload_n (j := ⟨1, by decide⟩) (pc := 9) rfl rfl (by decide +kernel)) ?_
  refine ok_c (j := 7) rfl (ok_iload_n (j := ⟨2, by decide⟩) (pc := 10) rfl rfl (by decide +kernel)) ?_
  refine ok_c (j := 8) rfl (ok_virtual (y := yX12_drawnBy) (n := 2) (d' := 5) (t := 20) (T := TX12) (N := 45) (ix := 289) is_ci (pc := 11) rfl rfl (by decide +kernel) (by decide) (ct_X12_drawnBy l) rfl (fun _ => rfl) ce_fI_rec wd_1194 wd_1196 wd_54 wd_75) ?_
  refine ok_c (j := 9) rfl (ok_goto (off := 5) (tg := 19) (pc := 14) rfl (by decide +kernel) rfl (by decide)) ?_
  refine ok_c (j := 10) rfl (ok_bipush (n := (-2)) (pc := 17) rfl rfl (by decide +kernel) (by decide)) ?_
  refine ok_c (j := 11) rfl (ok_iret (pc := 19) rfl (by decide +kernel) rfl) ?_
  exact trivial
noncomputable def F_X12_drawn := ce_fI tb_X12_drawn 3 (some 20)
theorem ct_X12_drawn (l : Launch) : ce_callee l yX12_drawn 2 6 0 0 (ce_wI F_X12_drawn) := ⟨_, _, _, ce_ctr_of (pcs := pc_X12_drawn) (by decide +kernel) rfl (ok_X12_drawn l ) ce_fI_run, ce_tw_at wd_1193 rfl, by decide, by decide +kernel, by decide +kernel, by decide +kernel⟩
def pc_X12_odds : List Nat := [0, 1, 2, 5, 8, 9, 10, 12, 15, 18, 20, 21, 22, 25, 28, 31, 32, 33, 35, 36, 38, 40, 41, 44, 46, 47, 48, 49, 51, 52, 55, 56, 59, 60, 63, 64, 65, 67, 70, 73, 75, 78, 80, 83, 84, 86, 87, 90, 91, 92]
noncomputable def tb_X12_odds : List ce_Op := [o_aload 0, o_iload 1, o_ci 2 F_X12_isSeller 0 0 0 0, o_ifeq 14, o_iload 3, o_int 1, o_int 30, o_ci 3 F_X12_isIn 0 0 0 0, o_ifeq 14, o_iload 4, o_int 0, o_int 1, o_ci 3 F_X12_isIn 0 0 0 0, o_ifne 16, o_long (-4611686018427387904), o_lret, o_int 0, o_istore 5, o_int 0, o_istore 6, o_iload 6, o_iload 3, o_cmpge 39, o_iload 5, o_aload 0, o_iload 1, o_iload 2, o_iload 6, o_bin q_add, o_ci 3 F_X12_drawnBy 0 0 0 0, o_int 1, o_cmpne 34, o_int 1, o_goto 35, o_int 0, o_bin q_add, o_istore 5, o_iinc 6 1, o_goto 20, o_iload 4, o_ifne 43, o_iload 5, o_goto 44, o_iload 3, o_iload 5, o_iload 3, o_ci 2 F_X12_divisor 0 0 0 0, o_div, o_i2l, o_lret]
theorem tl_X12_odds : ce_TL tb_X12_odds := by
  unfold tb_X12_odds
  refine tl_c ta_aload ?_
  refine tl_c ta_iload ?_
  refine tl_c ta_ci ?_
  refine tl_c ta_ifeq ?_
  refine tl_c ta_iload ?_
  refine tl_c ta_int ?_
  refine tl_c ta_int ?_
  refine tl_c ta_ci ?_
  refine tl_c ta_ifeq ?_
  refine tl_c ta_iload ?_
  refine tl_c ta_int ?_
  refine tl_c ta_int ?_
  refine tl_c ta_ci ?_
  refine tl_c ta_ifne ?_
  refine tl_c ta_long ?_
  refine tl_c ta_lret ?_
  refine tl_c ta_int ?_
  refine tl_c ta_istore ?_
  refine tl_c ta_int ?_
  refine tl_c ta_istore ?_
  refine tl_c ta_iload ?_
  refine tl_c ta_iload ?_
  refine tl_c ta_cmpge ?_
  refine tl_c ta_iload ?_
  refine tl_c ta_aload ?_
  refine tl_c ta_iload ?_
  refine tl_c ta_iload ?_
  refine tl_c ta_iload ?_
  refine tl_c ta_bin ?_
  refine tl_c ta_ci ?_
  refine tl_c ta_int ?_
  refine tl_c ta_cmpne ?_
  refine tl_c ta_int ?_
  refine tl_c ta_goto ?_
  refine tl_c ta_int ?_
  refine tl_c ta_bin ?_
  refine tl_c ta_istore ?_
  refine tl_c ta_iinc ?_
  refine tl_c ta_goto ?_
  refine tl_c ta_iload ?_
  refine tl_c ta_ifne ?_
  refine tl_c ta_iload ?_
  refine tl_c ta_goto ?_
  refine tl_c ta_iload ?_
  refine tl_c ta_iload ?_
  refine tl_c ta_iload ?_
  refine tl_c ta_ci ?_
  refine tl_c ta_div ?_
  refine tl_c ta_i2l ?_
  refine tl_c ta_lret ?_
  exact trivial
set_option maxRecDepth 20000 in
theorem ok_X12_odds (l : Launch) : ce_OkL l cX12_odds RX12 7 (some .long) 6 0 0 pc_X12_odds 0 tb_X12_odds := by
  unfold tb_X12_odds
  refine ok_c (j := 1) rfl (ok_aload_n (j := ⟨0, by decide⟩) (pc := 0) rfl rfl (by decide +kernel)) ?_
  refine ok_c (j := 2) rfl (ok_iload_n (j := ⟨1, by decide⟩) (pc := 1) rfl rfl (by decide +kernel)) ?_
  refine ok_c (j := 3) rfl (ok_virtual (y := yX12_isSeller) (n := 1) (d' := 1) (t := 20) (T := TX12) (N := 45) (ix := 192) is_ci (pc := 2) rfl rfl (by decide +kernel) (by decide) (ct_X12_isSeller l) rfl (fun _ => rfl) ce_fI_rec wd_1062 wd_1064 wd_41 wd_75) ?_
  refine ok_c (j := 4) rfl (ok_ifeq (off := 23) (tg := 28) (pc := 5) rfl rfl (by decide +kernel) rfl (by decide)) ?_
  refine ok_c (j := 5) rfl (ok_iload_n (j := ⟨3, by decide⟩) (pc := 8) rfl rfl (by decide +kernel)) ?_
  refine ok_c (j := 6) rfl (ok_iconst (n := 1) (pc := 9) rfl rfl (by decide +kernel) (by decide)) ?_
  refine ok_c (j := 7) rfl (ok_bipush (n := 30) (pc := 10) rfl rfl (by decide +kernel) (by decide)) ?_
  refine ok_c (j := 8) rfl (ok_static (y := yX12_isIn) (n := 3) (d' := 1) (ix := 92) is_ci (pc := 12) rfl rfl (by decide +kernel) (by decide) rfl (ct_X12_isIn l) wd_964 wd_965 wd_75) ?_
  refine ok_c (j := 9) rfl (ok_ifeq (off := 13) (tg := 28) (pc := 15) rfl rfl (by decide +kernel) rfl (by decide)) ?_
  refine ok_c (j := 10) rfl (ok_iload (j := 4) (pc := 18) rfl rfl (by decide +kernel)) ?_
  refine ok_c (j := 11) rfl (ok_iconst (n := 0) (pc := 20) rfl rfl (by decide +kernel) (by decide)) ?_
  refine ok_c (j := 12) rfl (ok_iconst (n := 1) (pc := 21) rfl rfl (by decide +kernel) (by decide)) ?_
  refine ok_c (j := 13) rfl (ok_static (y := yX12_isIn) (n := 3) (d' := 1) (ix := 92) is_ci (pc := 22) rfl rfl (by decide +kernel) (by decide) rfl (ct_X12_isIn l) wd_964 wd_965 wd_75) ?_
  refine ok_c (j := 14) rfl (ok_ifne (off := 7) (tg := 32) (pc := 25) rfl rfl (by decide +kernel) rfl (by decide)) ?_
  refine ok_c (j := 15) rfl (ok_ldc2 (ix := 292) (pc := 28) rfl rfl (by decide +kernel) wd_1203 (by decide +kernel)) ?_
  refine ok_c (j := 16) rfl (ok_lret (pc := 31) rfl (by decide +kernel) rfl) ?_
  refine ok_c (j := 17) rfl (ok_iconst (n := 0) (pc := 32) rfl rfl (by decide +kernel) (by decide)) ?_
  refine ok_c (j := 18) rfl (ok_istore (j := 5) (pc := 33) rfl rfl (by decide +kernel) (by decide)) ?_
  refine ok_c (j := 19) rfl (ok_iconst (n := 0) (pc := 35) rfl rfl (by decide +kernel) (by decide)) ?_
  refine ok_c (j := 20) rfl (ok_istore (j := 6) (pc := 36) rfl rfl (by decide +kernel) (by decide)) ?_
  refine ok_c (j := 21) rfl (ok_iload (j := 6) (pc := 38) rfl rfl (by decide +kernel)) ?_
  refine ok_c (j := 22) rfl (ok_iload_n (j := ⟨3, by decide⟩) (pc := 40) rfl rfl (by decide +kernel)) ?_
  refine ok_c (j := 23) rfl (ok_cmpge (off := 32) (tg := 73) (pc := 41) rfl rfl (by decide +kernel) rfl (by decide)) ?_
  refine ok_c (j := 24) rfl (ok_iload (j := 5) (pc := 44) rfl rfl (by decide +kernel)) ?_
  refine ok_c (j := 25) rfl (ok_aload_n (j := ⟨0, by decide⟩) (pc := 46) rfl rfl (by decide +kernel)) ?_
  refine ok_c (j := 26) rfl (ok_iload_n (j := ⟨1, by decide⟩) (pc := 47) rfl rfl (by decide +kernel)) ?_
  refine ok_c (j := 27) rfl (ok_iload_n (j := ⟨2, by decide⟩) (pc := 48) rfl rfl (by decide +kernel)) ?_
  refine ok_c (j := 28) rfl (ok_iload (j := 6) (pc := 49) rfl rfl (by decide +kernel)) ?_
  refine ok_c (j := 29) rfl (ok_iadd (pc := 51) rfl rfl (by decide +kernel)) ?_
  refine ok_c (j := 30) rfl (ok_virtual (y := yX12_drawnBy) (n := 2) (d' := 5) (t := 20) (T := TX12) (N := 45) (ix := 289) is_ci (pc := 52) rfl rfl (by decide +kernel) (by decide) (ct_X12_drawnBy l) rfl (fun _ => rfl) ce_fI_rec wd_1194 wd_1196 wd_54 wd_75) ?_
  refine ok_c (j := 31) rfl (ok_iconst (n := 1) (pc := 55) rfl rfl (by decide +kernel) (by decide)) ?_
  refine ok_c (j := 32) rfl (ok_cmpne (off := 7) (tg := 63) (pc := 56) rfl rfl (by decide +kernel) rfl (by decide)) ?_
  refine ok_c (j := 33) rfl (ok_iconst (n := 1) (pc := 59) rfl rfl (by decide +kernel) (by decide)) ?_
  refine ok_c (j := 34) rfl (ok_goto (off := 4) (tg := 64) (pc := 60) rfl (by decide +kernel) rfl (by decide)) ?_
  refine ok_c (j := 35) rfl (ok_iconst (n := 0) (pc := 63) rfl rfl (by decide +kernel) (by decide)) ?_
  refine ok_c (j := 36) rfl (ok_iadd (pc := 64) rfl rfl (by decide +kernel)) ?_
  refine ok_c (j := 37) rfl (ok_istore (j := 5) (pc := 65) rfl rfl (by decide +kernel) (by decide)) ?_
  refine ok_c (j := 38) rfl (ok_iinc (n := 1) (pc := 67) rfl rfl (by decide +kernel) (by decide) (by decide)) ?_
  refine ok_c (j := 39) rfl (ok_goto (off := (-32)) (tg := 38) (pc := 70) rfl (by decide +kernel) rfl (by decide)) ?_
  refine ok_c (j := 40) rfl (ok_iload (j := 4) (pc := 73) rfl rfl (by decide +kernel)) ?_
  refine ok_c (j := 41) rfl (ok_ifne (off := 8) (tg := 83) (pc := 75) rfl rfl (by decide +kernel) rfl (by decide)) ?_
  refine ok_c (j := 42) rfl (ok_iload (j := 5) (pc := 78) rfl rfl (by decide +kernel)) ?_
  refine ok_c (j := 43) rfl (ok_goto (off := 4) (tg := 84) (pc := 80) rfl (by decide +kernel) rfl (by decide)) ?_
  refine ok_c (j := 44) rfl (ok_iload_n (j := ⟨3, by decide⟩) (pc := 83) rfl rfl (by decide +kernel)) ?_
  refine ok_c (j := 45) rfl (ok_iload (j := 5) (pc := 84) rfl rfl (by decide +kernel)) ?_
  refine ok_c (j := 46) rfl (ok_iload_n (j := ⟨3, by decide⟩) (pc := 86) rfl rfl (by decide +kernel)) ?_
  refine ok_c (j := 47) rfl (ok_static (y := yX12_divisor) (n := 2) (d' := 1) (ix := 294) is_ci (pc := 87) rfl rfl (by decide +kernel) (by decide) rfl (ct_X12_divisor l) wd_1204 wd_1205 wd_75) ?_
  refine ok_c (j := 48) rfl (ok_idiv (pc := 90) rfl rfl (by decide +kernel)) ?_
  refine ok_c (j := 49) rfl (ok_i2l (pc := 91) rfl rfl (by decide +kernel)) ?_
  refine ok_c (j := 50) rfl (ok_lret (pc := 92) rfl (by decide +kernel) rfl) ?_
  exact trivial
noncomputable def F_X12_odds := ce_fL tb_X12_odds 7 (some 20)
theorem ct_X12_odds (l : Launch) : ce_callee l yX12_odds 4 6 0 0 (ce_wL F_X12_odds) := ⟨_, _, _, ce_ctr_of (pcs := pc_X12_odds) (by decide +kernel) rfl (ok_X12_odds l ) ce_fL_run, ce_tw_at wd_1202 rfl, by decide, by decide +kernel, by decide +kernel, by decide +kernel⟩
def pc_X12_sellers : List Nat := [0, 1, 4, 7, 8, 9, 10, 13, 16, 18, 19, 21, 24, 27, 29, 30, 31, 34, 35, 36, 39, 41, 42, 43, 46, 47, 48, 49, 52, 54, 55, 56, 58, 59, 61, 63, 65, 68, 69, 70, 72, 73, 74, 76, 77, 80, 81, 82, 85, 86, 87, 88, 89, 90, 92, 93, 94, 97, 99, 100, 101, 102, 105, 107, 108, 109, 111, 112, 113, 114, 117, 119, 120, 121, 123, 124, 125, 126, 127, 130, 133, 136, 139, 142, 144]
noncomputable def tb_X12_sellers : List ce_Op := [o_iload 1, o_ci 1 F_X12_isSheet 0 0 0 0, o_ifeq 13, o_iload 2, o_int 0, o_int 2, o_ci 3 F_X12_isIn 0 0 0 0, o_ifeq 13, o_iload 4, o_int 0, o_int 6, o_ci 3 F_X12_isIn 0 0 0 0, o_ifne 15, o_int (-2), o_iret, o_aload 0, o_getS 20 34 (fun _ => 0), o_iload 1, o_ild 34, o_ifge 22, o_int (-11), o_iret, o_aload 0, o_getS 20 34 (fun _ => 0), o_iload 1, o_ild 34, o_iload 2, o_cmpeq 30, o_int (-13), o_iret, o_int 0, o_istore 5, o_int 0, o_istore 6, o_iload 6, o_iload 4, o_cmpge 83, o_iload 3, o_int 2, o_iload 6, o_bin q_mul, o_bin q_add, o_istore 7, o_iload 3, o_iflt 57, o_iload 3, o_aload 0, o_getS 20 35 (fun _ => 0), o_iload 1, o_ild 35, o_int 1, o_bin q_sub, o_int 2, o_iload 6, o_bin q_mul, o_bin q_sub, o_cmplt 59, o_int (-12), o_iret, o_aload 0, o_aload 0, o_getS 20 36 (fun _ => 0), o_int 40, o_iload 1, o_bin q_mul, o_iload 7, o_bin q_add, o_ild 36, o_aload 0, o_getS 20 36 (fun _ => 0), o_int 40, o_iload 1, o_bin q_mul, o_iload 7, o_bin q_add, o_int 1, o_bin q_add, o_ild 36, o_ci 3 F_X12_comes 0 0 0 0, o_iflt 81, o_iinc 5 1, o_iinc 6 1, o_goto 34, o_iload 5, o_iret]
theorem tl_X12_sellers : ce_TL tb_X12_sellers := by
  unfold tb_X12_sellers
  refine tl_c ta_iload ?_
  refine tl_c ta_ci ?_
  refine tl_c ta_ifeq ?_
  refine tl_c ta_iload ?_
  refine tl_c ta_int ?_
  refine tl_c ta_int ?_
  refine tl_c ta_ci ?_
  refine tl_c ta_ifeq ?_
  refine tl_c ta_iload ?_
  refine tl_c ta_int ?_
  refine tl_c ta_int ?_
  refine tl_c ta_ci ?_
  refine tl_c ta_ifne ?_
  refine tl_c ta_int ?_
  refine tl_c ta_iret ?_
  refine tl_c ta_aload ?_
  refine tl_c ta_getS ?_
  refine tl_c ta_iload ?_
  refine tl_c ta_ild ?_
  refine tl_c ta_ifge ?_
  refine tl_c ta_int ?_
  refine tl_c ta_iret ?_
  refine tl_c ta_aload ?_
  refine tl_c ta_getS ?_
  refine tl_c ta_iload ?_
  refine tl_c ta_ild ?_
  refine tl_c ta_iload ?_
  refine tl_c ta_cmpeq ?_
  refine tl_c ta_int ?_
  refine tl_c ta_iret ?_
  refine tl_c ta_int ?_
  refine tl_c ta_istore ?_
  refine tl_c ta_int ?_
  refine tl_c ta_istore ?_
  refine tl_c ta_iload ?_
  refine tl_c ta_iload ?_
  refine tl_c ta_cmpge ?_
  refine tl_c ta_iload ?_
  refine tl_c ta_int ?_
  refine tl_c ta_iload ?_
  refine tl_c ta_bin ?_
  refine tl_c ta_bin ?_
  refine tl_c ta_istore ?_
  refine tl_c ta_iload ?_
  refine tl_c ta_iflt ?_
  refine tl_c ta_iload ?_
  refine tl_c ta_aload ?_
  refine tl_c ta_getS ?_
  refine tl_c ta_iload ?_
  refine tl_c ta_ild ?_
  refine tl_c ta_int ?_
  refine tl_c ta_bin ?_
  refine tl_c ta_int ?_
  refine tl_c ta_iload ?_
  refine tl_c ta_bin ?_
  refine tl_c ta_bin ?_
  refine tl_c ta_cmplt ?_
  refine tl_c ta_int ?_
  refine tl_c ta_iret ?_
  refine tl_c ta_aload ?_
  refine tl_c ta_aload ?_
  refine tl_c ta_getS ?_
  refine tl_c ta_int ?_
  refine tl_c ta_iload ?_
  refine tl_c ta_bin ?_
  refine tl_c ta_iload ?_
  refine tl_c ta_bin ?_
  refine tl_c ta_ild ?_
  refine tl_c ta_aload ?_
  refine tl_c ta_getS ?_
  refine tl_c ta_int ?_
  refine tl_c ta_iload ?_
  refine tl_c ta_bin ?_
  refine tl_c ta_iload ?_
  refine tl_c ta_bin ?_
  refine tl_c ta_int ?_
  refine tl_c ta_bin ?_
  refine tl_c ta_ild ?_
  refine tl_c ta_ci ?_
  refine tl_c ta_iflt ?_
  refine tl_c ta_iinc ?_
  refine tl_c ta_iinc ?_
  refine tl_c ta_goto ?_
  refine tl_c ta_iload ?_
  refine tl_c ta_iret ?_
  exact trivial
set_option maxRecDepth 20000 in
theorem ok_X12_sellers (l : Launch) : ce_OkL l cX12_sellers RX12 8 (some .int) 6 0 0 pc_X12_sellers 0 tb_X12_sellers := by
  unfold tb_X12_sellers
  refine ok_c (j := 1) rfl (ok_iload_n (j := ⟨1, by decide⟩) (pc := 0) rfl rfl (by decide +kernel)) ?_
  refine ok_c (j := 2) rfl (ok_static (y := yX12_isSheet) (n := 1) (d' := 1) (ix := 269) is_ci (pc := 1) rfl rfl (by decide +kernel) (by decide) rfl (ct_X12_isSheet l) wd_1167 wd_1168 wd_75) ?_
  refine ok_c (j := 3) rfl (ok_ifeq (off := 23) (tg := 27) (pc := 4) rfl rfl (by decide +kernel) rfl (by decide)) ?_
  refine ok_c (j := 4) rfl (ok_iload_n (j := ⟨2, by decide⟩) (pc := 7) rfl rfl (by decide +kernel)) ?_
  refine ok_c (j := 5) rfl (ok_iconst (n := 0) (pc := 8) rfl rfl (by decide +kernel) (by decide)) ?_
  refine ok_c (j := 6) rfl (ok_iconst (n := 2) (pc := 9) rfl rfl (by decide +kernel) (by decide)) ?_
  refine ok_c (j := 7) rfl (ok_static (y := yX12_isIn) (n := 3) (d' := 1) (ix := 92) is_ci (pc := 10) rfl rfl (by decide +kernel) (by decide) rfl (ct_X12_isIn l) wd_964 wd_965 wd_75) ?_
  refine ok_c (j := 8) rfl (ok_ifeq (off := 14) (tg := 27) (pc := 13) rfl rfl (by decide +kernel) rfl (by decide)) ?_
  refine ok_c (j := 9) rfl (ok_iload (j := 4) (pc := 16) rfl rfl (by decide +kernel)) ?_
  refine ok_c (j := 10) rfl (ok_iconst (n := 0) (pc := 18) rfl rfl (by decide +kernel) (by decide)) ?_
  refine ok_c (j := 11) rfl (ok_bipush (n := 6) (pc := 19) rfl rfl (by decide +kernel) (by decide)) ?_
  refine ok_c (j := 12) rfl (ok_static (y := yX12_isIn) (n := 3) (d' := 1) (ix := 92) is_ci (pc := 21) rfl rfl (by decide +kernel) (by decide) rfl (ct_X12_isIn l) wd_964 wd_965 wd_75) ?_
  refine ok_c (j := 13) rfl (ok_ifne (off := 6) (tg := 30) (pc := 24) rfl rfl (by decide +kernel) rfl (by decide)) ?_
  refine ok_c (j := 14) rfl (ok_bipush (n := (-2)) (pc := 27) rfl rfl (by decide +kernel) (by decide)) ?_
  refine ok_c (j := 15) rfl (ok_iret (pc := 29) rfl (by decide +kernel) rfl) ?_
  refine ok_c (j := 16) rfl (ok_aload_n (j := ⟨0, by decide⟩) (pc := 30) rfl rfl (by decide +kernel)) ?_
  refine ok_c (j := 17) rfl (ok_getS (f := 41) (ci := 12) (C := RX12) (T := TX12) (N := 45) (ix := 67) (pc := 31) rfl rfl (by decide +kernel) rfl (fun _ => rfl) rfl cw_X12 (by decide) rfl wd_865) ?_
  refine ok_c (j := 18) rfl (ok_iload_n (j := ⟨1, by decide⟩) (pc := 34) rfl rfl (by decide +kernel)) ?_
  refine ok_c (j := 19) rfl (ok_ild (pc := 35) rfl rfl (by decide +kernel) rfl) ?_
  refine ok_c (j := 20) rfl (ok_ifge (off := 6) (tg := 42) (pc := 36) rfl rfl (by decide +kernel) rfl (by decide)) ?_
  refine ok_c (j := 21) rfl (ok_bipush (n := (-11)) (pc := 39) rfl rfl (by decide +kernel) (by decide)) ?_
  refine ok_c (j := 22) rfl (ok_iret (pc := 41) rfl (by decide +kernel) rfl) ?_
  refine ok_c (j := 23) rfl (ok_aload_n (j := ⟨0, by decide⟩) (pc := 42) rfl rfl (by decide +kernel)) ?_
  refine ok_c (j := 24) rfl (ok_getS (f := 41) (ci := 12) (C := RX12) (T := TX12) (N := 45) (ix := 67) (pc := 43) rfl rfl (by decide +kernel) rfl (fun _ => rfl) rfl cw_X12 (by decide) rfl wd_865) ?_
  refine ok_c (j := 25) rfl (ok_iload_n (j := ⟨1, by decide⟩) (pc := 46) rfl rfl (by decide +kernel)) ?_
  refine ok_c (j := 26) rfl (ok_ild (pc := 47) rfl rfl (by decide +kernel) rfl) ?_
  refine ok_c (j := 27) rfl (ok_iload_n (j := ⟨2, by decide⟩) (pc := 48) rfl rfl (by decide +kernel)) ?_
  refine ok_c (j := 28) rfl (ok_cmpeq (off := 6) (tg := 55) (pc := 49) rfl rfl (by decide +kernel) rfl (by decide)) ?_
  refine ok_c (j := 29) rfl (ok_bipush (n := (-13)) (pc := 52) rfl rfl (by decide +kernel) (by decide)) ?_
  refine ok_c (j := 30) rfl (ok_iret (pc := 54) rfl (by decide +kernel) rfl) ?_
  refine ok_c (j := 31) rfl (ok_iconst (n := 0) (pc := 55) rfl rfl (by decide +kernel) (by decide)) ?_
  refine ok_c (j := 32) rfl (ok_istore (j := 5) (pc := 56) rfl rfl (by decide +kernel) (by decide)) ?_
  refine ok_c (j := 33) rfl (ok_iconst (n := 0) (pc := 58) rfl rfl (by decide +kernel) (by decide)) ?_
  refine ok_c (j := 34) rfl (ok_istore (j := 6) (pc := 59) rfl rfl (by decide +kernel) (by decide)) ?_
  refine ok_c (j := 35) rfl (ok_iload (j := 6) (pc := 61) rfl rfl (by decide +kernel)) ?_
  refine ok_c (j := 36) rfl (ok_iload (j := 4) (pc := 63) rfl rfl (by decide +kernel)) ?_
  refine ok_c (j := 37) rfl (ok_cmpge (off := 77) (tg := 142) (pc := 65) rfl rfl (by decide +kernel) rfl (by decide)) ?_
  refine ok_c (j := 38) rfl (ok_iload_n (j := ⟨3, by decide⟩) (pc := 68) rfl rfl (by decide +kernel)) ?_
  refine ok_c (j := 39) rfl (ok_iconst (n := 2) (pc := 69) rfl rfl (by decide +kernel) (by decide)) ?_
  refine ok_c (j := 40) rfl (ok_iload (j := 6) (pc := 70) rfl rfl (by decide +kernel)) ?_
  refine ok_c (j := 41) rfl (ok_imul (pc := 72) rfl rfl (by decide +kernel)) ?_
  refine ok_c (j := 42) rfl (ok_iadd (pc := 73) rfl rfl (by decide +kernel)) ?_
  refine ok_c (j := 43) rfl (ok_istore (j := 7) (pc := 74) rfl rfl (by decide +kernel) (by decide)) ?_
  refine ok_c (j := 44) rfl (ok_iload_n (j := ⟨3, by decide⟩) (pc := 76) rfl rfl (by decide +kernel)) ?_
  refine ok_c (j := 45) rfl (ok_iflt (off := 20) (tg := 97) (pc := 77) rfl rfl (by decide +kernel) rfl (by decide)) ?_
  refine ok_c (j := 46) rfl (ok_iload_n (j := ⟨3, by decide⟩) (pc := 80) rfl rfl (by decide +kernel)) ?_
  refine ok_c (j := 47) rfl (ok_aload_n (j := ⟨0, by decide⟩) (pc := 81) rfl rfl (by decide +kernel)) ?_
  refine ok_c (j := 48) rfl (ok_getS (f := 42) (ci := 12) (C := RX12) (T := TX12) (N := 45) (ix := 70) (pc := 82) rfl rfl (by decide +kernel) rfl (fun _ => rfl) rfl cw_X12 (by decide) rfl wd_866) ?_
  refine ok_c (j := 49) rfl (ok_iload_n (j := ⟨1, by decide⟩) (pc := 85) rfl rfl (by decide +kernel)) ?_
  refine ok_c (j := 50) rfl (ok_ild (pc := 86) rfl rfl (by decide +kernel) rfl) ?_
  refine ok_c (j := 51) rfl (ok_iconst (n := 1) (pc := 87) rfl rfl (by decide +kernel) (by decide)) ?_
  refine ok_c (j := 52) rfl (ok_isub (pc := 88) rfl rfl (by decide +kernel)) ?_
  refine ok_c (j := 53) rfl (ok_iconst (n := 2) (pc := 89) rfl rfl (by decide +kernel) (by decide)) ?_
  refine ok_c (j := 54) rfl (ok_iload (j := 6) (pc := 90) rfl rfl (by decide +kernel)) ?_
  refine ok_c (j := 55) rfl (ok_imul (pc := 92) rfl rfl (by decide +kernel)) ?_
  refine ok_c (j := 56) rfl (ok_isub (pc := 93) rfl rfl (by decide +kernel)) ?_
  refine ok_c (j := 57) rfl (ok_cmplt (off := 6) (tg := 100) (pc := 94) rfl rfl (by decide +kernel) rfl (by decide)) ?_
  refine ok_c (j := 58) rfl (ok_bipush (n := (-12)) (pc := 97) rfl rfl (by decide +kernel) (by decide)) ?_
  refine ok_c (j := 59) rfl (ok_iret (pc := 99) rfl (by decide +kernel) rfl) ?_
  refine ok_c (j := 60) rfl (ok_aload_n (j := ⟨0, by decide⟩) (pc := 100) rfl rfl (by decide +kernel)) ?_
  refine ok_c (j := 61) rfl (ok_aload_n (j := ⟨0, by decide⟩) (pc := 101) rfl rfl (by decide +kernel)) ?_
  refine ok_c (j := 62) rfl (ok_getS (f := 43) (ci := 12) (C := RX12) (T := TX12) (N := 45) (ix := 73) (pc := 102) rfl rfl (by decide +kernel) rfl (fun _ => rfl) rfl cw_X12 (by decide) rfl wd_867) ?_
  refine ok_c (j := 63) rfl (ok_bipush (n := 40) (pc := 105) rfl rfl (by decide +kernel) (by decide)) ?_
  refine ok_c (j := 64) rfl (ok_iload_n (j := ⟨1, by decide⟩) (pc := 107) rfl rfl (by decide +kernel)) ?_
  refine ok_c (j := 65) rfl (ok_imul (pc := 108) rfl rfl (by decide +kernel)) ?_
  refine ok_c (j := 66) rfl (ok_iload (j := 7) (pc := 109) rfl rfl (by decide +kernel)) ?_
  refine ok_c (j := 67) rfl (ok_iadd (pc := 111) rfl rfl (by decide +kernel)) ?_
  refine ok_c (j := 68) rfl (ok_ild (pc := 112) rfl rfl (by decide +kernel) rfl) ?_
  refine ok_c (j := 69) rfl (ok_aload_n (j := ⟨0, by decide⟩) (pc := 113) rfl rfl (by decide +kernel)) ?_
  refine ok_c (j := 70) rfl (ok_getS (f := 43) (ci := 12) (C := RX12) (T := TX12) (N := 45) (ix := 73) (pc := 114) rfl rfl (by decide +kernel) rfl (fun _ => rfl) rfl cw_X12 (by decide) rfl wd_867) ?_
  refine ok_c (j := 71) rfl (ok_bipush (n := 40) (pc := 117) rfl rfl (by decide +kernel) (by decide)) ?_
  refine ok_c (j := 72) rfl (ok_iload_n (j := ⟨1, by decide⟩) (pc := 119) rfl rfl (by decide +kernel)) ?_
  refine ok_c (j := 73) rfl (ok_imul (pc := 120) rfl rfl (by decide +kernel)) ?_
  refine ok_c (j := 74) rfl (ok_iload (j := 7) (pc := 121) rfl rfl (by decide +kernel)) ?_
  refine ok_c (j := 75) rfl (ok_iadd (pc := 123) rfl rfl (by decide +kernel)) ?_
  refine ok_c (j := 76) rfl (ok_iconst (n := 1) (pc := 124) rfl rfl (by decide +kernel) (by decide)) ?_
  refine ok_c (j := 77) rfl (ok_iadd (pc := 125) rfl rfl (by decide +kernel)) ?_
  refine ok_c (j := 78) rfl (ok_ild (pc := 126) rfl rfl (by decide +kernel) rfl) ?_
  refine ok_c (j := 79) rfl (ok_virtual (y := yX12_comes) (n := 2) (d' := 5) (t := 20) (T := TX12) (N := 45) (ix := 188) is_ci (pc := 127) rfl rfl (by decide +kernel) (by decide) (ct_X12_comes l) rfl (fun _ => rfl) ce_fI_rec wd_1032 wd_1034 wd_36 wd_75) ?_
  refine ok_c (j := 80) rfl (ok_iflt (off := 6) (tg := 136) (pc := 130) rfl rfl (by decide +kernel) rfl (by decide)) ?_
  refine ok_c (j := 81) rfl (ok_iinc (n := 1) (pc := 133) rfl rfl (by decide +kernel) (by decide) (by decide)) ?_
  refine ok_c (j := 82) rfl (ok_iinc (n := 1) (pc := 136) rfl rfl (by decide +kernel) (by decide) (by decide)) ?_
  refine ok_c (j := 83) rfl (ok_goto (off := (-78)) (tg := 61) (pc := 139) rfl (by decide +kernel) rfl (by decide)) ?_
  refine ok_c (j := 84) rfl (ok_iload (j := 5) (pc := 142) rfl rfl (by decide +kernel)) ?_
  refine ok_c (j := 85) rfl (ok_iret (pc := 144) rfl (by decide +kernel) rfl) ?_
  exact trivial
noncomputable def F_X12_sellers := ce_fI tb_X12_sellers 8 (some 20)
theorem ct_X12_sellers (l : Launch) : ce_callee l yX12_sellers 4 6 0 0 (ce_wI F_X12_sellers) := ⟨_, _, _, ce_ctr_of (pcs := pc_X12_sellers) (by decide +kernel) rfl (ok_X12_sellers l ) ce_fI_run, ce_tw_at wd_1230 rfl, by decide, by decide +kernel, by decide +kernel, by decide +kernel⟩
def pc_X12_rule : List Nat := [0, 1, 2, 5, 8, 9, 10, 13, 16, 18, 19, 20, 23, 26, 28, 29, 30, 31, 32, 33, 34, 37, 38, 40, 43, 44, 47, 50, 52, 53, 56, 57, 60, 63, 64, 67]
noncomputable def tb_X12_rule : List ce_Op := [o_aload 0, o_iload 1, o_ci 2 F_X12_isSeller 0 0 0 0, o_ifeq 13, o_iload 2, o_iload 3, o_ci 2 F_X12_isRule 0 0 0 0, o_ifeq 13, o_iload 4, o_int 0, o_int 2, o_ci 3 F_X12_isIn 0 0 0 0, o_ifne 15, o_int (-2), o_iret, o_aload 0, o_iload 1, o_iload 2, o_iload 3, o_int 0, o_ci 5 F_X12_thinks 0 0 0 0, o_pop, o_iload 4, o_ifne 27, o_aload 0, o_getI 20 35, o_goto 35, o_iload 4, o_int 1, o_cmpne 33, o_aload 0, o_getI 20 36, o_goto 35, o_aload 0, o_getI 20 37, o_iret]
theorem tl_X12_rule : ce_TL tb_X12_rule := by
  unfold tb_X12_rule
  refine tl_c ta_aload ?_
  refine tl_c ta_iload ?_
  refine tl_c ta_ci ?_
  refine tl_c ta_ifeq ?_
  refine tl_c ta_iload ?_
  refine tl_c ta_iload ?_
  refine tl_c ta_ci ?_
  refine tl_c ta_ifeq ?_
  refine tl_c ta_iload ?_
  refine tl_c ta_int ?_
  refine tl_c ta_int ?_
  refine tl_c ta_ci ?_
  refine tl_c ta_ifne ?_
  refine tl_c ta_int ?_
  refine tl_c ta_iret ?_
  refine tl_c ta_aload ?_
  refine tl_c ta_iload ?_
  refine tl_c ta_iload ?_
  refine tl_c ta_iload ?_
  refine tl_c ta_int ?_
  refine tl_c ta_ci ?_
  refine tl_c ta_pop ?_
  refine tl_c ta_iload ?_
  refine tl_c ta_ifne ?_
  refine tl_c ta_aload ?_
  refine tl_c ta_getI ?_
  refine tl_c ta_goto ?_
  refine tl_c ta_iload ?_
  refine tl_c ta_int ?_
  refine tl_c ta_cmpne ?_
  refine tl_c ta_aload ?_
  refine tl_c ta_getI ?_
  refine tl_c ta_goto ?_
  refine tl_c ta_aload ?_
  refine tl_c ta_getI ?_
  refine tl_c ta_iret ?_
  exact trivial
set_option maxRecDepth 20000 in
theorem ok_X12_rule (l : Launch) : ce_OkL l cX12_rule RX12 5 (some .int) 7 0 0 pc_X12_rule 0 tb_X12_rule := by
  unfold tb_X12_rule
  refine ok_c (j := 1) rfl (ok_aload_n (j := ⟨0, by decide⟩) (pc := 0) rfl rfl (by decide +kernel)) ?_
  refine ok_c (j := 2) rfl (ok_iload_n (j := ⟨1, by decide⟩) (pc := 1) rfl rfl (by decide +kernel)) ?_
  refine ok_c (j := 3) rfl (ok_virtual (y := yX12_isSeller) (n := 1) (d' := 1) (t := 20) (T := TX12) (N := 45) (ix := 192) is_ci (pc := 2) rfl rfl (by decide +kernel) (by decide) (ct_X12_isSeller l) rfl (fun _ => rfl) ce_fI_rec wd_1062 wd_1064 wd_41 wd_75) ?_
  refine ok_c (j := 4) rfl (ok_ifeq (off := 21) (tg := 26) (pc := 5) rfl rfl (by decide +kernel) rfl (by decide)) ?_
  refine ok_c (j := 5) rfl (ok_iload_n (j := ⟨2, by decide⟩) (pc := 8) rfl rfl (by decide +kernel)) ?_
  refine ok_c (j := 6) rfl (ok_iload_n (j := ⟨3, by decide⟩) (pc := 9) rfl rfl (by decide +kernel)) ?_
  refine ok_c (j := 7) rfl (ok_static (y := yX12_isRule) (n := 2) (d' := 1) (ix := 262) is_ci (pc := 10) rfl rfl (by decide +kernel) (by decide) rfl (ct_X12_isRule l) wd_1136 wd_1137 wd_75) ?_
  refine ok_c (j := 8) rfl (ok_ifeq (off := 13) (tg := 26) (pc := 13) rfl rfl (by decide +kernel) rfl (by decide)) ?_
  refine ok_c (j := 9) rfl (ok_iload (j := 4) (pc := 16) rfl rfl (by decide +kernel)) ?_
  refine ok_c (j := 10) rfl (ok_iconst (n := 0) (pc := 18) rfl rfl (by decide +kernel) (by decide)) ?_
  refine ok_c (j := 11) rfl (ok_iconst (n := 2) (pc := 19) rfl rfl (by decide +kernel) (by decide)) ?_
  refine ok_c (j := 12) rfl (ok_static (y := yX12_isIn) (n := 3) (d' := 1) (ix := 92) is_ci (pc := 20) rfl rfl (by decide +kernel) (by decide) rfl (ct_X12_isIn l) wd_964 wd_965 wd_75) ?_
  refine ok_c (j := 13) rfl (ok_ifne (off := 6) (tg := 29) (pc := 23) rfl rfl (by decide +kernel) rfl (by decide)) ?_
  refine ok_c (j := 14) rfl (ok_bipush (n := (-2)) (pc := 26) rfl rfl (by decide +kernel) (by decide)) ?_
  refine ok_c (j := 15) rfl (ok_iret (pc := 28) rfl (by decide +kernel) rfl) ?_
  refine ok_c (j := 16) rfl (ok_aload_n (j := ⟨0, by decide⟩) (pc := 29) rfl rfl (by decide +kernel)) ?_
  refine ok_c (j := 17) rfl (ok_iload_n (j := ⟨1, by decide⟩) (pc := 30) rfl rfl (by decide +kernel)) ?_
  refine ok_c (j := 18) rfl (ok_iload_n (j := ⟨2, by decide⟩) (pc := 31) rfl rfl (by decide +kernel)) ?_
  refine ok_c (j := 19) rfl (ok_iload_n (j := ⟨3, by decide⟩) (pc := 32) rfl rfl (by decide +kernel)) ?_
  refine ok_c (j := 20) rfl (ok_iconst (n := 0) (pc := 33) rfl rfl (by decide +kernel) (by decide)) ?_
  refine ok_c (j := 21) rfl (ok_virtual (y := yX12_thinks) (n := 4) (d' := 6) (t := 20) (T := TX12) (N := 45) (ix := 265) is_ci (pc := 34) rfl rfl (by decide +kernel) (by decide) (ct_X12_thinks l) rfl (fun _ => rfl) ce_fI_rec wd_1139 wd_1141 wd_50 wd_75) ?_
  refine ok_c (j := 22) rfl (ok_pop (pc := 37) rfl rfl (by decide +kernel)) ?_
  refine ok_c (j := 23) rfl (ok_iload (j := 4) (pc := 38) rfl rfl (by decide +kernel)) ?_
  refine ok_c (j := 24) rfl (ok_ifne (off := 10) (tg := 50) (pc := 40) rfl rfl (by decide +kernel) rfl (by decide)) ?_
  refine ok_c (j := 25) rfl (ok_aload_n (j := ⟨0, by decide⟩) (pc := 43) rfl rfl (by decide +kernel)) ?_
  refine ok_c (j := 26) rfl (ok_getI (ci := 12) (C := RX12) (T := TX12) (N := 45) (ix := 253) (pc := 44) rfl rfl (by decide +kernel) rfl (fun _ => rfl) rfl cw_X12 (by decide) rfl wd_859) ?_
  refine ok_c (j := 27) rfl (ok_goto (off := 20) (tg := 67) (pc := 47) rfl (by decide +kernel) rfl (by decide)) ?_
  refine ok_c (j := 28) rfl (ok_iload (j := 4) (pc := 50) rfl rfl (by decide +kernel)) ?_
  refine ok_c (j := 29) rfl (ok_iconst (n := 1) (pc := 52) rfl rfl (by decide +kernel) (by decide)) ?_
  refine ok_c (j := 30) rfl (ok_cmpne (off := 10) (tg := 63) (pc := 53) rfl rfl (by decide +kernel) rfl (by decide)) ?_
  refine ok_c (j := 31) rfl (ok_aload_n (j := ⟨0, by decide⟩) (pc := 56) rfl rfl (by decide +kernel)) ?_
  refine ok_c (j := 32) rfl (ok_getI (ci := 12) (C := RX12) (T := TX12) (N := 45) (ix := 256) (pc := 57) rfl rfl (by decide +kernel) rfl (fun _ => rfl) rfl cw_X12 (by decide) rfl wd_860) ?_
  refine ok_c (j := 33) rfl (ok_goto (off := 7) (tg := 67) (pc := 60) rfl (by decide +kernel) rfl (by decide)) ?_
  refine ok_c (j := 34) rfl (ok_aload_n (j := ⟨0, by decide⟩) (pc := 63) rfl rfl (by decide +kernel)) ?_
  refine ok_c (j := 35) rfl (ok_getI (ci := 12) (C := RX12) (T := TX12) (N := 45) (ix := 259) (pc := 64) rfl rfl (by decide +kernel) rfl (fun _ => rfl) rfl cw_X12 (by decide) rfl wd_861) ?_
  refine ok_c (j := 36) rfl (ok_iret (pc := 67) rfl (by decide +kernel) rfl) ?_
  exact trivial
noncomputable def F_X12_rule := ce_fI tb_X12_rule 5 (some 20)
theorem ct_X12_rule (l : Launch) : ce_callee l yX12_rule 4 7 0 0 (ce_wI F_X12_rule) := ⟨_, _, _, ce_ctr_of (pcs := pc_X12_rule) (by decide +kernel) rfl (ok_X12_rule l ) ce_fI_run, ce_tw_at wd_1135 rfl, by decide, by decide +kernel, by decide +kernel, by decide +kernel⟩
def pc_X12_bestRule : List Nat := [0, 1, 2, 5, 8, 9, 10, 11, 14, 17, 19, 20, 21, 22, 23, 25, 26, 28, 29, 31, 33, 36, 39, 40, 43, 44, 45, 48, 49, 51, 53, 55, 58, 59, 60, 62, 64, 65, 68, 70, 72, 75, 76, 79, 81, 83, 86, 88, 90, 93, 94, 97, 99, 102, 105, 107, 109, 110, 112, 113, 114, 116, 118, 119, 122, 124, 127, 130, 133, 136, 137, 140, 141, 144, 145, 148, 149, 150, 153, 155, 158, 160]
noncomputable def tb_X12_bestRule : List ce_Op := [o_aload 0, o_iload 1, o_ci 2 F_X12_isSeller 0 0 0 0, o_ifeq 9, o_iload 2, o_int 0, o_int 2, o_ci 3 F_X12_isIn 0 0 0 0, o_ifne 11, o_int (-2), o_iret, o_int (-1), o_istore 3, o_int 0, o_istore 4, o_int 0, o_istore 5, o_int 0, o_istore 6, o_iload 6, o_int 400, o_cmpgt 69, o_aload 0, o_getS 20 26 (fun _ => 0), o_iload 1, o_ild 26, o_ifne 69, o_int 0, o_istore 7, o_iload 7, o_int 10, o_cmpgt 67, o_aload 0, o_iload 1, o_iload 6, o_iload 7, o_int 0, o_ci 5 F_X12_thinks 0 0 0 0, o_istore 8, o_iload 8, o_iflt 65, o_iload 3, o_iflt 54, o_iload 8, o_iload 4, o_cmpgt 65, o_iload 8, o_iload 4, o_cmpne 54, o_aload 0, o_getI 20 37, o_iload 5, o_cmplt 54, o_goto 65, o_int 100, o_iload 6, o_bin q_mul, o_iload 7, o_bin q_add, o_istore 3, o_iload 8, o_istore 4, o_aload 0, o_getI 20 37, o_istore 5, o_iinc 7 1, o_goto 29, o_iinc 6 20, o_goto 19, o_iload 3, o_iflt 73, o_iload 2, o_ifne 75, o_iload 3, o_goto 81, o_iload 2, o_int 1, o_cmpne 80, o_iload 4, o_goto 81, o_iload 5, o_iret]
theorem tl_X12_bestRule : ce_TL tb_X12_bestRule := by
  unfold tb_X12_bestRule
  refine tl_c ta_aload ?_
  refine tl_c ta_iload ?_
  refine tl_c ta_ci ?_
  refine tl_c ta_ifeq ?_
  refine tl_c ta_iload ?_
  refine tl_c ta_int ?_
  refine tl_c ta_int ?_
  refine tl_c ta_ci ?_
  refine tl_c ta_ifne ?_
  refine tl_c ta_int ?_
  refine tl_c ta_iret ?_
  refine tl_c ta_int ?_
  refine tl_c ta_istore ?_
  refine tl_c ta_int ?_
  refine tl_c ta_istore ?_
  refine tl_c ta_int ?_
  refine tl_c ta_istore ?_
  refine tl_c ta_int ?_
  refine tl_c ta_istore ?_
  refine tl_c ta_iload ?_
  refine tl_c ta_int ?_
  refine tl_c ta_cmpgt ?_
  refine tl_c ta_aload ?_
  refine tl_c ta_getS ?_
  refine tl_c ta_iload ?_
  refine tl_c ta_ild ?_
  refine tl_c ta_ifne ?_
  refine tl_c ta_int ?_
  refine tl_c ta_istore ?_
  refine tl_c ta_iload ?_
  refine tl_c ta_int ?_
  refine tl_c ta_cmpgt ?_
  refine tl_c ta_aload ?_
  refine tl_c ta_iload ?_
  refine tl_c ta_iload ?_
  refine tl_c ta_iload ?_
  refine tl_c ta_int ?_
  refine tl_c ta_ci ?_
  refine tl_c ta_istore ?_
  refine tl_c ta_iload ?_
  refine tl_c ta_iflt ?_
  refine tl_c ta_iload ?_
  refine tl_c ta_iflt ?_
  refine tl_c ta_iload ?_
  refine tl_c ta_iload ?_
  refine tl_c ta_cmpgt ?_
  refine tl_c ta_iload ?_
  refine tl_c ta_iload ?_
  refine tl_c ta_cmpne ?_
  refine tl_c ta_aload ?_
  refine tl_c ta_getI ?_
  refine tl_c ta_iload ?_
  refine tl_c ta_cmplt ?_
  refine tl_c ta_goto ?_
  refine tl_c ta_int ?_
  refine tl_c ta_iload ?_
  refine tl_c ta_bin ?_
  refine tl_c ta_iload ?_
  refine tl_c ta_bin ?_
  refine tl_c ta_istore ?_
  refine tl_c ta_iload ?_
  refine tl_c ta_istore ?_
  refine tl_c ta_aload ?_
  refine tl_c ta_getI ?_
  refine tl_c ta_istore ?_
  refine tl_c ta_iinc ?_
  refine tl_c ta_goto ?_
  refine tl_c ta_iinc ?_
  refine tl_c ta_goto ?_
  refine tl_c ta_iload ?_
  refine tl_c ta_iflt ?_
  refine tl_c ta_iload ?_
  refine tl_c ta_ifne ?_
  refine tl_c ta_iload ?_
  refine tl_c ta_goto ?_
  refine tl_c ta_iload ?_
  refine tl_c ta_int ?_
  refine tl_c ta_cmpne ?_
  refine tl_c ta_iload ?_
  refine tl_c ta_goto ?_
  refine tl_c ta_iload ?_
  refine tl_c ta_iret ?_
  exact trivial
set_option maxRecDepth 20000 in
theorem ok_X12_bestRule (l : Launch) : ce_OkL l cX12_bestRule RX12 9 (some .int) 7 0 0 pc_X12_bestRule 0 tb_X12_bestRule := by
  unfold tb_X12_bestRule
  refine ok_c (j := 1) rfl (ok_aload_n (j := ⟨0, by decide⟩) (pc := 0) rfl rfl (by decide +kernel)) ?_
  refine ok_c (j := 2) rfl (ok_iload_n (j := ⟨1, by decide⟩) (pc := 1) rfl rfl (by decide +kernel)) ?_
  refine ok_c (j := 3) rfl (ok_virtual (y := yX12_isSeller) (n := 1) (d' := 1) (t := 20) (T := TX12) (N := 45) (ix := 192) is_ci (pc := 2) rfl rfl (by decide +kernel) (by decide) (ct_X12_isSeller l) rfl (fun _ => rfl) ce_fI_rec wd_1062 wd_1064 wd_41 wd_75) ?_
  refine ok_c (j := 4) rfl (ok_ifeq (off := 12) (tg := 17) (pc := 5) rfl rfl (by decide +kernel) rfl (by decide)) ?_
  refine ok_c (j := 5) rfl (ok_iload_n (j := ⟨2, by decide⟩) (pc := 8) rfl rfl (by decide +kernel)) ?_
  refine ok_c (j := 6) rfl (ok_iconst (n := 0) (pc := 9) rfl rfl (by decide +kernel) (by decide)) ?_
  refine ok_c (j := 7) rfl (ok_iconst (n := 2) (pc := 10) rfl rfl (by decide +kernel) (by decide)) ?_
  refine ok_c (j := 8) rfl (ok_static (y := yX12_isIn) (n := 3) (d' := 1) (ix := 92) is_ci (pc := 11) rfl rfl (by decide +kernel) (by decide) rfl (ct_X12_isIn l) wd_964 wd_965 wd_75) ?_
  refine ok_c (j := 9) rfl (ok_ifne (off := 6) (tg := 20) (pc := 14) rfl rfl (by decide +kernel) rfl (by decide)) ?_
  refine ok_c (j := 10) rfl (ok_bipush (n := (-2)) (pc := 17) rfl rfl (by decide +kernel) (by decide)) ?_
  refine ok_c (j := 11) rfl (ok_iret (pc := 19) rfl (by decide +kernel) rfl) ?_
  refine ok_c (j := 12) rfl (ok_iconst (n := (-1)) (pc := 20) rfl rfl (by decide +kernel) (by decide)) ?_
  refine ok_c (j := 13) rfl (ok_istore_n (j := ⟨3, by decide⟩) (pc := 21) rfl rfl (by decide +kernel) (by decide)) ?_
  refine ok_c (j := 14) rfl (ok_iconst (n := 0) (pc := 22) rfl rfl (by decide +kernel) (by decide)) ?_
  refine ok_c (j := 15) rfl (ok_istore (j := 4) (pc := 23) rfl rfl (by decide +kernel) (by decide)) ?_
  refine ok_c (j := 16) rfl (ok_iconst (n := 0) (pc := 25) rfl rfl (by decide +kernel) (by decide)) ?_
  refine ok_c (j := 17) rfl (ok_istore (j := 5) (pc := 26) rfl rfl (by decide +kernel) (by decide)) ?_
  refine ok_c (j := 18) rfl (ok_iconst (n := 0) (pc := 28) rfl rfl (by decide +kernel) (by decide)) ?_
  refine ok_c (j := 19) rfl (ok_istore (j := 6) (pc := 29) rfl rfl (by decide +kernel) (by decide)) ?_
  refine ok_c (j := 20) rfl (ok_iload (j := 6) (pc := 31) rfl rfl (by decide +kernel)) ?_
  refine ok_c (j := 21) rfl (ok_sipush (n := 400) (pc := 33) rfl rfl (by decide +kernel) (by decide)) ?_
  refine ok_c (j := 22) rfl (ok_cmpgt (off := 100) (tg := 136) (pc := 36) rfl rfl (by decide +kernel) rfl (by decide)) ?_
  refine ok_c (j := 23) rfl (ok_aload_n (j := ⟨0, by decide⟩) (pc := 39) rfl rfl (by decide +kernel)) ?_
  refine ok_c (j := 24) rfl (ok_getS (f := 5) (ci := 12) (C := RX12) (T := TX12) (N := 45) (ix := 25) (pc := 40) rfl rfl (by decide +kernel) rfl (fun _ => rfl) rfl cw_X12 (by decide) rfl wd_829) ?_
  refine ok_c (j := 25) rfl (ok_iload_n (j := ⟨1, by decide⟩) (pc := 43) rfl rfl (by decide +kernel)) ?_
  refine ok_c (j := 26) rfl (ok_ild (pc := 44) rfl rfl (by decide +kernel) rfl) ?_
  refine ok_c (j := 27) rfl (ok_ifne (off := 91) (tg := 136) (pc := 45) rfl rfl (by decide +kernel) rfl (by decide)) ?_
  refine ok_c (j := 28) rfl (ok_iconst (n := 0) (pc := 48) rfl rfl (by decide +kernel) (by decide)) ?_
  refine ok_c (j := 29) rfl (ok_istore (j := 7) (pc := 49) rfl rfl (by decide +kernel) (by decide)) ?_
  refine ok_c (j := 30) rfl (ok_iload (j := 7) (pc := 51) rfl rfl (by decide +kernel)) ?_
  refine ok_c (j := 31) rfl (ok_bipush (n := 10) (pc := 53) rfl rfl (by decide +kernel) (by decide)) ?_
  refine ok_c (j := 32) rfl (ok_cmpgt (off := 75) (tg := 130) (pc := 55) rfl rfl (by decide +kernel) rfl (by decide)) ?_
  refine ok_c (j := 33) rfl (ok_aload_n (j := ⟨0, by decide⟩) (pc := 58) rfl rfl (by decide +kernel)) ?_
  refine ok_c (j := 34) rfl (ok_iload_n (j := ⟨1, by decide⟩) (pc := 59) rfl rfl (by decide +kernel)) ?_
  refine ok_c (j := 35) rfl (ok_iload (j := 6) (pc := 60) rfl rfl (by decide +kernel)) ?_
  refine ok_c (j := 36) rfl (ok_iload (j := 7) (pc := 62) rfl rfl (by decide +kernel)) ?_
  refine ok_c (j := 37) rfl (ok_iconst (n := 0) (pc := 64) rfl rfl (by decide +kernel) (by decide)) ?_
  refine ok_c (j := 38) rfl (ok_virtual (y := yX12_thinks) (n := 4) (d' := 6) (t := 20) (T := TX12) (N := 45) (ix := 265) is_ci (pc := 65) rfl rfl (by decide +kernel) (by decide) (ct_X12_thinks l) rfl (fun _ => rfl) ce_fI_rec wd_1139 wd_1141 wd_50 wd_75) ?_
  refine ok_c (j := 39) rfl (ok_istore (j := 8) (pc := 68) rfl rfl (by decide +kernel) (by decide)) ?_
  refine ok_c (j := 40) rfl (ok_iload (j := 8) (pc := 70) rfl rfl (by decide +kernel)) ?_
  refine ok_c (j := 41) rfl (ok_iflt (off := 52) (tg := 124) (pc := 72) rfl rfl (by decide +kernel) rfl (by decide)) ?_
  refine ok_c (j := 42) rfl (ok_iload_n (j := ⟨3, by decide⟩) (pc := 75) rfl rfl (by decide +kernel)) ?_
  refine ok_c (j := 43) rfl (ok_iflt (off := 29) (tg := 105) (pc := 76) rfl rfl (by decide +kernel) rfl (by decide)) ?_
  refine ok_c (j := 44) rfl (ok_iload (j := 8) (pc := 79) rfl rfl (by decide +kernel)) ?_
  refine ok_c (j := 45) rfl (ok_iload (j := 4) (pc := 81) rfl rfl (by decide +kernel)) ?_
  refine ok_c (j := 46) rfl (ok_cmpgt (off := 41) (tg := 124) (pc := 83) rfl rfl (by decide +kernel) rfl (by decide)) ?_
  refine ok_c (j := 47) rfl (ok_iload (j := 8) (pc := 86) rfl rfl (by decide +kernel)) ?_
  refine ok_c (j := 48) rfl (ok_iload (j := 4) (pc := 88) rfl rfl (by decide +kernel)) ?_
  refine ok_c (j := 49) rfl (ok_cmpne (off := 15) (tg := 105) (pc := 90) rfl rfl (by decide +kernel) rfl (by decide)) ?_
  refine ok_c (j := 50) rfl (ok_aload_n (j := ⟨0, by decide⟩) (pc := 93) rfl rfl (by decide +kernel)) ?_
  refine ok_c (j := 51) rfl (ok_getI (ci := 12) (C := RX12) (T := TX12) (N := 45) (ix := 259) (pc := 94) rfl rfl (by decide +kernel) rfl (fun _ => rfl) rfl cw_X12 (by decide) rfl wd_861) ?_
  refine ok_c (j := 52) rfl (ok_iload (j := 5) (pc := 97) rfl rfl (by decide +kernel)) ?_
  refine ok_c (j := 53) rfl (ok_cmplt (off := 6) (tg := 105) (pc := 99) rfl rfl (by decide +kernel) rfl (by decide)) ?_
  refine ok_c (j := 54) rfl (ok_goto (off := 22) (tg := 124) (pc := 102) rfl (by decide +kernel) rfl (by decide)) ?_
  refine ok_c (j := 55) rfl (ok_bipush (n := 100) (pc := 105) rfl rfl (by decide +kernel) (by decide)) ?_
  refine ok_c (j := 56) rfl (ok_iload (j := 6) (pc := 107) rfl rfl (by decide +kernel)) ?_
  refine ok_c (j := 57) rfl (ok_imul (pc := 109) rfl rfl (by decide +kernel)) ?_
  refine ok_c (j := 58) rfl (ok_iload (j := 7) (pc := 110) rfl rfl (by decide +kernel)) ?_
  refine ok_c (j := 59) rfl (ok_iadd (pc := 112) rfl rfl (by decide +kernel)) ?_
  refine ok_c (j := 60) rfl (ok_istore_n (j := ⟨3, by decide⟩) (pc := 113) rfl rfl (by decide +kernel) (by decide)) ?_
  refine ok_c (j := 61) rfl (ok_iload (j := 8) (pc := 114) rfl rfl (by decide +kernel)) ?_
  refine ok_c (j := 62) rfl (ok_istore (j := 4) (pc := 116) rfl rfl (by decide +kernel) (by decide)) ?_
  refine ok_c (j := 63) rfl (ok_aload_n (j := ⟨0, by decide⟩) (pc := 118) rfl rfl (by decide +kernel)) ?_
  refine ok_c (j := 64) rfl (ok_getI (ci := 12) (C := RX12) (T := TX12) (N := 45) (ix := 259) (pc := 119) rfl rfl (by decide +kernel) rfl (fun _ => rfl) rfl cw_X12 (by decide) rfl wd_861) ?_
  refine ok_c (j := 65) rfl (ok_istore (j := 5) (pc := 122) rfl rfl (by decide +kernel) (by decide)) ?_
  refine ok_c (j := 66) rfl (ok_iinc (n := 1) (pc := 124) rfl rfl (by decide +kernel) (by decide) (by decide)) ?_
  refine ok_c (j := 67) rfl (ok_goto (off := (-76)) (tg := 51) (pc := 127) rfl (by decide +kernel) rfl (by decide)) ?_
  refine ok_c (j := 68) rfl (ok_iinc (n := 20) (pc := 130) rfl rfl (by decide +kernel) (by decide) (by decide)) ?_
  refine ok_c (j := 69) rfl (ok_goto (off := (-102)) (tg := 31) (pc := 133) rfl (by decide +kernel) rfl (by decide)) ?_
  refine ok_c (j := 70) rfl (ok_iload_n (j := ⟨3, by decide⟩) (pc := 136) rfl rfl (by decide +kernel)) ?_
  refine ok_c (j := 71) rfl (ok_iflt (off := 7) (tg := 144) (pc := 137) rfl rfl (by decide +kernel) rfl (by decide)) ?_
  refine ok_c (j := 72) rfl (ok_iload_n (j := ⟨2, by decide⟩) (pc := 140) rfl rfl (by decide +kernel)) ?_
  refine ok_c (j := 73) rfl (ok_ifne (off := 7) (tg := 148) (pc := 141) rfl rfl (by decide +kernel) rfl (by decide)) ?_
  refine ok_c (j := 74) rfl (ok_iload_n (j := ⟨3, by decide⟩) (pc := 144) rfl rfl (by decide +kernel)) ?_
  refine ok_c (j := 75) rfl (ok_goto (off := 15) (tg := 160) (pc := 145) rfl (by decide +kernel) rfl (by decide)) ?_
  refine ok_c (j := 76) rfl (ok_iload_n (j := ⟨2, by decide⟩) (pc := 148) rfl rfl (by decide +kernel)) ?_
  refine ok_c (j := 77) rfl (ok_iconst (n := 1) (pc := 149) rfl rfl (by decide +kernel) (by decide)) ?_
  refine ok_c (j := 78) rfl (ok_cmpne (off := 8) (tg := 158) (pc := 150) rfl rfl (by decide +kernel) rfl (by decide)) ?_
  refine ok_c (j := 79) rfl (ok_iload (j := 4) (pc := 153) rfl rfl (by decide +kernel)) ?_
  refine ok_c (j := 80) rfl (ok_goto (off := 5) (tg := 160) (pc := 155) rfl (by decide +kernel) rfl (by decide)) ?_
  refine ok_c (j := 81) rfl (ok_iload (j := 5) (pc := 158) rfl rfl (by decide +kernel)) ?_
  refine ok_c (j := 82) rfl (ok_iret (pc := 160) rfl (by decide +kernel) rfl) ?_
  exact trivial
noncomputable def F_X12_bestRule := ce_fI tb_X12_bestRule 9 (some 20)
theorem ct_X12_bestRule (l : Launch) : ce_callee l yX12_bestRule 2 7 0 0 (ce_wI F_X12_bestRule) := ⟨_, _, _, ce_ctr_of (pcs := pc_X12_bestRule) (by decide +kernel) rfl (ok_X12_bestRule l ) ce_fI_run, ce_tw_at wd_1150 rfl, by decide, by decide +kernel, by decide +kernel, by decide +kernel⟩
def pc_X12_bestAt : List Nat := [0, 1, 2, 5, 8, 9, 10, 13, 16, 18, 19, 20, 23, 26, 28, 29, 31, 34, 35, 38, 41, 42, 45, 47, 48, 50, 51, 53, 54, 56, 58, 60, 63, 65, 68, 70, 73, 75, 78, 79, 81, 84, 87, 88, 90, 93, 94, 95, 96, 97, 98, 101, 103, 105, 108, 110, 113, 115, 117, 120, 123, 125, 127, 129, 131, 134, 137, 139, 142, 143, 145, 148, 151, 152, 154, 157, 159]
noncomputable def tb_X12_bestAt : List ce_Op := [o_aload 0, o_iload 1, o_ci 2 F_X12_isSeller 0 0 0 0, o_ifeq 13, o_iload 2, o_iload 3, o_ci 2 F_X12_isRule 0 0 0 0, o_ifeq 13, o_iload 4, o_int 0, o_int 1, o_ci 3 F_X12_isIn 0 0 0 0, o_ifne 15, o_int (-2), o_iret, o_iload 4, o_ifne 20, o_aload 0, o_getI 20 8, o_goto 22, o_aload 0, o_getI 20 9, o_istore 5, o_int (-1), o_istore 6, o_int 0, o_istore 7, o_int 0, o_istore 8, o_iload 8, o_iload 4, o_ifne 34, o_int 10, o_goto 35, o_int 24, o_cmpge 66, o_iload 4, o_ifne 42, o_aload 0, o_iload 8, o_putI 20 8, o_goto 45, o_aload 0, o_iload 8, o_putI 20 9, o_aload 0, o_iload 1, o_iload 2, o_iload 3, o_int 1, o_ci 5 F_X12_thinks 0 0 0 0, o_istore 9, o_iload 9, o_iflt 64, o_iload 6, o_iflt 60, o_iload 9, o_iload 7, o_cmplt 60, o_goto 64, o_iload 8, o_istore 6, o_iload 9, o_istore 7, o_iinc 8 1, o_goto 29, o_iload 4, o_ifne 72, o_aload 0, o_iload 5, o_putI 20 8, o_goto 75, o_aload 0, o_iload 5, o_putI 20 9, o_iload 6, o_iret]
theorem tl_X12_bestAt : ce_TL tb_X12_bestAt := by
  unfold tb_X12_bestAt
  refine tl_c ta_aload ?_
  refine tl_c ta_iload ?_
  refine tl_c ta_ci ?_
  refine tl_c ta_ifeq ?_
  refine tl_c ta_iload ?_
  refine tl_c ta_iload ?_
  refine tl_c ta_ci ?_
  refine tl_c ta_ifeq ?_
  refine tl_c ta_iload ?_
  refine tl_c ta_int ?_
  refine tl_c ta_int ?_
  refine tl_c ta_ci ?_
  refine tl_c ta_ifne ?_
  refine tl_c ta_int ?_
  refine tl_c ta_iret ?_
  refine tl_c ta_iload ?_
  refine tl_c ta_ifne ?_
  refine tl_c ta_aload ?_
  refine tl_c ta_getI ?_
  refine tl_c ta_goto ?_
  refine tl_c ta_aload ?_
  refine tl_c ta_getI ?_
  refine tl_c ta_istore ?_
  refine tl_c ta_int ?_
  refine tl_c ta_istore ?_
  refine tl_c ta_int ?_
  refine tl_c ta_istore ?_
  refine tl_c ta_int ?_
  refine tl_c ta_istore ?_
  refine tl_c ta_iload ?_
  refine tl_c ta_iload ?_
  refine tl_c ta_ifne ?_
  refine tl_c ta_int ?_
  refine tl_c ta_goto ?_
  refine tl_c ta_int ?_
  refine tl_c ta_cmpge ?_
  refine tl_c ta_iload ?_
  refine tl_c ta_ifne ?_
  refine tl_c ta_aload ?_
  refine tl_c ta_iload ?_
  refine tl_c ta_putI ?_
  refine tl_c ta_goto ?_
  refine tl_c ta_aload ?_
  refine tl_c ta_iload ?_
  refine tl_c ta_putI ?_
  refine tl_c ta_aload ?_
  refine tl_c ta_iload ?_
  refine tl_c ta_iload ?_
  refine tl_c ta_iload ?_
  refine tl_c ta_int ?_
  refine tl_c ta_ci ?_
  refine tl_c ta_istore ?_
  refine tl_c ta_iload ?_
  refine tl_c ta_iflt ?_
  refine tl_c ta_iload ?_
  refine tl_c ta_iflt ?_
  refine tl_c ta_iload ?_
  refine tl_c ta_iload ?_
  refine tl_c ta_cmplt ?_
  refine tl_c ta_goto ?_
  refine tl_c ta_iload ?_
  refine tl_c ta_istore ?_
  refine tl_c ta_iload ?_
  refine tl_c ta_istore ?_
  refine tl_c ta_iinc ?_
  refine tl_c ta_goto ?_
  refine tl_c ta_iload ?_
  refine tl_c ta_ifne ?_
  refine tl_c ta_aload ?_
  refine tl_c ta_iload ?_
  refine tl_c ta_putI ?_
  refine tl_c ta_goto ?_
  refine tl_c ta_aload ?_
  refine tl_c ta_iload ?_
  refine tl_c ta_putI ?_
  refine tl_c ta_iload ?_
  refine tl_c ta_iret ?_
  exact trivial
set_option maxRecDepth 20000 in
theorem ok_X12_bestAt (l : Launch) : ce_OkL l cX12_bestAt RX12 10 (some .int) 7 0 0 pc_X12_bestAt 0 tb_X12_bestAt := by
  unfold tb_X12_bestAt
  refine ok_c (j := 1) rfl (ok_aload_n (j := ⟨0, by decide⟩) (pc := 0) rfl rfl (by decide +kernel)) ?_
  refine ok_c (j := 2) rfl (ok_iload_n (j := ⟨1, by decide⟩) (pc := 1) rfl rfl (by decide +kernel)) ?_
  refine ok_c (j := 3) rfl (ok_virtual (y := yX12_isSeller) (n := 1) (d' := 1) (t := 20) (T := TX12) (N := 45) (ix := 192) is_ci (pc := 2) rfl rfl (by decide +kernel) (by decide) (ct_X12_isSeller l) rfl (fun _ => rfl) ce_fI_rec wd_1062 wd_1064 wd_41 wd_75) ?_
  refine ok_c (j := 4) rfl (ok_ifeq (off := 21) (tg := 26) (pc := 5) rfl rfl (by decide +kernel) rfl (by decide)) ?_
  refine ok_c (j := 5) rfl (ok_iload_n (j := ⟨2, by decide⟩) (pc := 8) rfl rfl (by decide +kernel)) ?_
  refine ok_c (j := 6) rfl (ok_iload_n (j := ⟨3, by decide⟩) (pc := 9) rfl rfl (by decide +kernel)) ?_
  refine ok_c (j := 7) rfl (ok_static (y := yX12_isRule) (n := 2) (d' := 1) (ix := 262) is_ci (pc := 10) rfl rfl (by decide +kernel) (by decide) rfl (ct_X12_isRule l) wd_1136 wd_1137 wd_75) ?_
  refine ok_c (j := 8) rfl (ok_ifeq (off := 13) (tg := 26) (pc := 13) rfl rfl (by decide +kernel) rfl (by decide)) ?_
  refine ok_c (j := 9) rfl (ok_iload (j := 4) (pc := 16) rfl rfl (by decide +kernel)) ?_
  refine ok_c (j := 10) rfl (ok_iconst (n := 0) (pc := 18) rfl rfl (by decide +kernel) (by decide)) ?_
  refine ok_c (j := 11) rfl (ok_iconst (n := 1) (pc := 19) rfl rfl (by decide +kernel) (by decide)) ?_
  refine ok_c (j := 12) rfl (ok_static (y := yX12_isIn) (n := 3) (d' := 1) (ix := 92) is_ci (pc := 20) rfl rfl (by decide +kernel) (by decide) rfl (ct_X12_isIn l) wd_964 wd_965 wd_75) ?_
  refine ok_c (j := 13) rfl (ok_ifne (off := 6) (tg := 29) (pc := 23) rfl rfl (by decide +kernel) rfl (by decide)) ?_
  refine ok_c (j := 14) rfl (ok_bipush (n := (-2)) (pc := 26) rfl rfl (by decide +kernel) (by decide)) ?_
  refine ok_c (j := 15) rfl (ok_iret (pc := 28) rfl (by decide +kernel) rfl) ?_
  refine ok_c (j := 16) rfl (ok_iload (j := 4) (pc := 29) rfl rfl (by decide +kernel)) ?_
  refine ok_c (j := 17) rfl (ok_ifne (off := 10) (tg := 41) (pc := 31) rfl rfl (by decide +kernel) rfl (by decide)) ?_
  refine ok_c (j := 18) rfl (ok_aload_n (j := ⟨0, by decide⟩) (pc := 34) rfl rfl (by decide +kernel)) ?_
  refine ok_c (j := 19) rfl (ok_getI (ci := 12) (C := RX12) (T := TX12) (N := 45) (ix := 31) (pc := 35) rfl rfl (by decide +kernel) rfl (fun _ => rfl) rfl cw_X12 (by decide) rfl wd_832) ?_
  refine ok_c (j := 20) rfl (ok_goto (off := 7) (tg := 45) (pc := 38) rfl (by decide +kernel) rfl (by decide)) ?_
  refine ok_c (j := 21) rfl (ok_aload_n (j := ⟨0, by decide⟩) (pc := 41) rfl rfl (by decide +kernel)) ?_
  refine ok_c (j := 22) rfl (ok_getI (ci := 12) (C := RX12) (T := TX12) (N := 45) (ix := 35) (pc := 42) rfl rfl (by decide +kernel) rfl (fun _ => rfl) rfl cw_X12 (by decide) rfl wd_833) ?_
  refine ok_c (j := 23) rfl (ok_istore (j := 5) (pc := 45) rfl rfl (by decide +kernel) (by decide)) ?_
  refine ok_c (j := 24) rfl (ok_iconst (n := (-1)) (pc := 47) rfl rfl (by decide +kernel) (by decide)) ?_
  refine ok_c (j := 25) rfl (ok_istore (j := 6) (pc := 48) rfl rfl (by decide +kernel) (by decide)) ?_
  refine ok_c (j := 26) rfl (ok_iconst (n := 0) (pc := 50) rfl rfl (by decide +kernel) (by decide)) ?_
  refine ok_c (j := 27) rfl (ok_istore (j := 7) (pc := 51) rfl rfl (by decide +kernel) (by decide)) ?_
  refine ok_c (j := 28) rfl (ok_iconst (n := 0) (pc := 53) rfl rfl (by decide +kernel) (by decide)) ?_
  refine ok_c (j := 29) rfl (ok_istore (j := 8) (pc := 54) rfl rfl (by decide +kernel) (by decide)) ?_
  refine ok_c (j := 30) rfl (ok_iload (j := 8) (pc := 56) rfl rfl (by decide +kernel)) ?_
  refine ok_c (j := 31) rfl (ok_iload (j := 4) (pc := 58) rfl rfl (by decide +kernel)) ?_
  refine ok_c (j := 32) rfl (ok_ifne (off := 8) (tg := 68) (pc := 60) rfl rfl (by decide +kernel) rfl (by decide)) ?_
  refine ok_c (j := 33) rfl (ok_bipush (n := 10) (pc := 63) rfl rfl (by decide +kernel) (by decide)) ?_
  refine ok_c (j := 34) rfl (ok_goto (off := 5) (tg := 70) (pc := 65) rfl (by decide +kernel) rfl (by decide)) ?_
  refine ok_c (j := 35) rfl (ok_bipush (n := 24) (pc := 68) rfl rfl (by decide +kernel) (by decide)) ?_
  refine ok_c (j := 36) rfl (ok_cmpge (off := 67) (tg := 137) (pc := 70) rfl rfl (by decide +kernel) rfl (by decide)) ?_
  refine ok_c (j := 37) rfl (ok_iload (j := 4) (pc := 73) rfl rfl (by decide +kernel)) ?_
  refine ok_c (j := 38) rfl (ok_ifne (off := 12) (tg := 87) (pc := 75) rfl rfl (by decide +kernel) rfl (by decide)) ?_
  refine ok_c (j := 39) rfl (ok_aload_n (j := ⟨0, by decide⟩) (pc := 78) rfl rfl (by decide +kernel)) ?_
  refine ok_c (j := 40) rfl (ok_iload (j := 8) (pc := 79) rfl rfl (by decide +kernel)) ?_
  refine ok_c (j := 41) rfl (ok_putI (ci := 12) (C := RX12) (T := TX12) (N := 45) (ty := tyX12) (ix := 31) (pc := 81) rfl rfl (by decide +kernel) rfl (fun _ => rfl) rfl cw_X12 tyX12_ok nmX12 (by decide) rfl rfl rfl wd_832) ?_
  refine ok_c (j := 42) rfl (ok_goto (off := 9) (tg := 93) (pc := 84) rfl (by decide +kernel) rfl (by decide)) ?_
  refine ok_c (j := 43) rfl (ok_aload_n (j := ⟨0, by decide⟩) (pc := 87) rfl rfl (by decide +kernel)) ?_
  refine ok_c (j := 44) rfl (ok_iload (j := 8) (pc := 88) rfl rfl (by decide +kernel)) ?_
  refine ok_c (j := 45) rfl (ok_putI (ci := 12) (C := RX12) (T := TX12) (N := 45) (ty := tyX12) (ix := 35) (pc := 90) rfl rfl (by decide +kernel) rfl (fun _ => rfl) rfl cw_X12 tyX12_ok nmX12 (by decide) rfl rfl rfl wd_833) ?_
  refine ok_c (j := 46) rfl (ok_aload_n (j := ⟨0, by decide⟩) (pc := 93) rfl rfl (by decide +kernel)) ?_
  refine ok_c (j := 47) rfl (ok_iload_n (j := ⟨1, by decide⟩) (pc := 94) rfl rfl (by decide +kernel)) ?_
  refine ok_c (j := 48) rfl (ok_iload_n (j := ⟨2, by decide⟩) (pc := 95) rfl rfl (by decide +kernel)) ?_
  refine ok_c (j := 49) rfl (ok_iload_n (j := ⟨3, by decide⟩) (pc := 96) rfl rfl (by decide +kernel)) ?_
  refine ok_c (j := 50) rfl (ok_iconst (n := 1) (pc := 97) rfl rfl (by decide +kernel) (by decide)) ?_
  refine ok_c (j := 51) rfl (ok_virtual (y := yX12_thinks) (n := 4) (d' := 6) (t := 20) (T := TX12) (N := 45) (ix := 265) is_ci (pc := 98) rfl rfl (by decide +kernel) (by decide) (ct_X12_thinks l) rfl (fun _ => rfl) ce_fI_rec wd_1139 wd_1141 wd_50 wd_75) ?_
  refine ok_c (j := 52) rfl (ok_istore (j := 9) (pc := 101) rfl rfl (by decide +kernel) (by decide)) ?_
  refine ok_c (j := 53) rfl (ok_iload (j := 9) (pc := 103) rfl rfl (by decide +kernel)) ?_
  refine ok_c (j := 54) rfl (ok_iflt (off := 26) (tg := 131) (pc := 105) rfl rfl (by decide +kernel) rfl (by decide)) ?_
  refine ok_c (j := 55) rfl (ok_iload (j := 6) (pc := 108) rfl rfl (by decide +kernel)) ?_
  refine ok_c (j := 56) rfl (ok_iflt (off := 13) (tg := 123) (pc := 110) rfl rfl (by decide +kernel) rfl (by decide)) ?_
  refine ok_c (j := 57) rfl (ok_iload (j := 9) (pc := 113) rfl rfl (by decide +kernel)) ?_
  refine ok_c (j := 58) rfl (ok_iload (j := 7) (pc := 115) rfl rfl (by decide +kernel)) ?_
  refine ok_c (j := 59) rfl (ok_cmplt (off := 6) (tg := 123) (pc := 117) rfl rfl (by decide +kernel) rfl (by decide)) ?_
  refine ok_c (j := 60) rfl (ok_goto (off := 11) (tg := 131) (pc := 120) rfl (by decide +kernel) rfl (by decide)) ?_
  refine ok_c (j := 61) rfl (ok_iload (j := 8) (pc := 123) rfl rfl (by decide +kernel)) ?_
  refine ok_c (j := 62) rfl (ok_istore (j := 6) (pc := 125) rfl rfl (by decide +kernel) (by decide)) ?_
  refine ok_c (j := 63) rfl (ok_iload (j := 9) (pc := 127) rfl rfl (by decide +kernel)) ?_
  refine ok_c (j := 64) rfl (ok_istore (j := 7) (pc := 129) rfl rfl (by decide +kernel) (by decide)) ?_
  refine ok_c (j := 65) rfl (ok_iinc (n := 1) (pc := 131) rfl rfl (by decide +kernel) (by decide) (by decide)) ?_
  refine ok_c (j := 66) rfl (ok_goto (off := (-78)) (tg := 56) (pc := 134) rfl (by decide +kernel) rfl (by decide)) ?_
  refine ok_c (j := 67) rfl (ok_iload (j := 4) (pc := 137) rfl rfl (by decide +kernel)) ?_
  refine ok_c (j := 68) rfl (ok_ifne (off := 12) (tg := 151) (pc := 139) rfl rfl (by decide +kernel) rfl (by decide)) ?_
  refine ok_c (j := 69) rfl (ok_aload_n (j := ⟨0, by decide⟩) (pc := 142) rfl rfl (by decide +kernel)) ?_
  refine ok_c (j := 70) rfl (ok_iload (j := 5) (pc := 143) rfl rfl (by decide +kernel)) ?_
  refine ok_c (j := 71) rfl (ok_putI (ci := 12) (C := RX12) (T := TX12) (N := 45) (ty := tyX12) (ix := 31) (pc := 145) rfl rfl (by decide +kernel) rfl (fun _ => rfl) rfl cw_X12 tyX12_ok nmX12 (by decide) rfl rfl rfl wd_832) ?_
  refine ok_c (j := 72) rfl (ok_goto (off := 9) (tg := 157) (pc := 148) rfl (by decide +kernel) rfl (by decide)) ?_
  refine ok_c (j := 73) rfl (ok_aload_n (j := ⟨0, by decide⟩) (pc := 151) rfl rfl (by decide +kernel)) ?_
  refine ok_c (j := 74) rfl (ok_iload (j := 5) (pc := 152) rfl rfl (by decide +kernel)) ?_
  refine ok_c (j := 75) rfl (ok_putI (ci := 12) (C := RX12) (T := TX12) (N := 45) (ty := tyX12) (ix := 35) (pc := 154) rfl rfl (by decide +kernel) rfl (fun _ => rfl) rfl cw_X12 tyX12_ok nmX12 (by decide) rfl rfl rfl wd_833) ?_
  refine ok_c (j := 76) rfl (ok_iload (j := 6) (pc := 157) rfl rfl (by decide +kernel)) ?_
  refine ok_c (j := 77) rfl (ok_iret (pc := 159) rfl (by decide +kernel) rfl) ?_
  exact trivial
noncomputable def F_X12_bestAt := ce_fI tb_X12_bestAt 10 (some 20)
theorem ct_X12_bestAt (l : Launch) : ce_callee l yX12_bestAt 4 7 0 0 (ce_wI F_X12_bestAt) := ⟨_, _, _, ce_ctr_of (pcs := pc_X12_bestAt) (by decide +kernel) rfl (ok_X12_bestAt l ) ce_fI_run, ce_tw_at wd_1154 rfl, by decide, by decide +kernel, by decide +kernel, by decide +kernel⟩
def pc_X12_whom : List Nat := [0, 1, 2, 5, 8, 10, 11, 12, 13, 14, 16, 17, 19, 21, 22, 25, 28, 29, 32, 34, 35, 38, 39, 41, 42, 43, 44, 47, 50, 51, 53, 55, 58, 59, 62, 64, 66, 69, 72, 74, 75, 77, 79, 82, 85, 86]
noncomputable def tb_X12_whom : List ce_Op := [o_iload 1, o_iload 2, o_ci 2 F_X12_isRule 0 0 0 0, o_ifne 6, o_int (-2), o_iret, o_int (-1), o_istore 3, o_int 0, o_istore 4, o_int 0, o_istore 5, o_iload 5, o_aload 0, o_getI 20 7, o_cmpge 44, o_aload 0, o_getS 20 26 (fun _ => 0), o_iload 5, o_ild 26, o_ifne 28, o_aload 0, o_iload 5, o_iload 1, o_iload 2, o_int 0, o_ci 5 F_X12_thinks 0 0 0 0, o_goto 29, o_int (-1), o_istore 6, o_iload 6, o_iflt 42, o_iload 3, o_iflt 38, o_iload 6, o_iload 4, o_cmplt 38, o_goto 42, o_iload 5, o_istore 3, o_iload 6, o_istore 4, o_iinc 5 1, o_goto 12, o_iload 3, o_iret]
theorem tl_X12_whom : ce_TL tb_X12_whom := by
  unfold tb_X12_whom
  refine tl_c ta_iload ?_
  refine tl_c ta_iload ?_
  refine tl_c ta_ci ?_
  refine tl_c ta_ifne ?_
  refine tl_c ta_int ?_
  refine tl_c ta_iret ?_
  refine tl_c ta_int ?_
  refine tl_c ta_istore ?_
  refine tl_c ta_int ?_
  refine tl_c ta_istore ?_
  refine tl_c ta_int ?_
  refine tl_c ta_istore ?_
  refine tl_c ta_iload ?_
  refine tl_c ta_aload ?_
  refine tl_c ta_getI ?_
  refine tl_c ta_cmpge ?_
  refine tl_c ta_aload ?_
  refine tl_c ta_getS ?_
  refine tl_c ta_iload ?_
  refine tl_c ta_ild ?_
  refine tl_c ta_ifne ?_
  refine tl_c ta_aload ?_
  refine tl_c ta_iload ?_
  refine tl_c ta_iload ?_
  refine tl_c ta_iload ?_
  refine tl_c ta_int ?_
  refine tl_c ta_ci ?_
  refine tl_c ta_goto ?_
  refine tl_c ta_int ?_
  refine tl_c ta_istore ?_
  refine tl_c ta_iload ?_
  refine tl_c ta_iflt ?_
  refine tl_c ta_iload ?_
  refine tl_c ta_iflt ?_
  refine tl_c ta_iload ?_
  refine tl_c ta_iload ?_
  refine tl_c ta_cmplt ?_
  refine tl_c ta_goto ?_
  refine tl_c ta_iload ?_
  refine tl_c ta_istore ?_
  refine tl_c ta_iload ?_
  refine tl_c ta_istore ?_
  refine tl_c ta_iinc ?_
  refine tl_c ta_goto ?_
  refine tl_c ta_iload ?_
  refine tl_c ta_iret ?_
  exact trivial
set_option maxRecDepth 20000 in
theorem ok_X12_whom (l : Launch) : ce_OkL l cX12_whom RX12 7 (some .int) 7 0 0 pc_X12_whom 0 tb_X12_whom := by
  unfold tb_X12_whom
  refine ok_c (j := 1) rfl (ok_iload_n (j := ⟨1, by decide⟩) (pc := 0) rfl rfl (by decide +kernel)) ?_
  refine ok_c (j := 2) rfl (ok_iload_n (j := ⟨2, by decide⟩) (pc := 1) rfl rfl (by decide +kernel)) ?_
  refine ok_c (j := 3) rfl (ok_static (y := yX12_isRule) (n := 2) (d' := 1) (ix := 262) is_ci (pc := 2) rfl rfl (by decide +kernel) (by decide) rfl (ct_X12_isRule l) wd_1136 wd_1137 wd_75) ?_
  refine ok_c (j := 4) rfl (ok_ifne (off := 6) (tg := 11) (pc := 5) rfl rfl (by decide +kernel) rfl (by decide)) ?_
  refine ok_c (j := 5) rfl (ok_bipush (n := (-2)) (pc := 8) rfl rfl (by decide +kernel) (by decide)) ?_
  refine ok_c (j := 6) rfl (ok_iret (pc := 10) rfl (by decide +kernel) rfl) ?_
  refine ok_c (j := 7) rfl (ok_iconst (n := (-1)) (pc := 11) rfl rfl (by decide +kernel) (by decide)) ?_
  refine ok_c (j := 8) rfl (ok_istore_n (j := ⟨3, by decide⟩) (pc := 12) rfl rfl (by decide +kernel) (by decide)) ?_
  refine ok_c (j := 9) rfl (ok_iconst (n := 0) (pc := 13) rfl rfl (by decide +kernel) (by decide)) ?_
  refine ok_c (j := 10) rfl (ok_istore (j := 4) (pc := 14) rfl rfl (by decide +kernel) (by decide)) ?_
  refine ok_c (j := 11) rfl (ok_iconst (n := 0) (pc := 16) rfl rfl (by decide +kernel) (by decide)) ?_
  refine ok_c (j := 12) rfl (ok_istore (j := 5) (pc := 17) rfl rfl (by decide +kernel) (by decide)) ?_
  refine ok_c (j := 13) rfl (ok_iload (j := 5) (pc := 19) rfl rfl (by decide +kernel)) ?_
  refine ok_c (j := 14) rfl (ok_aload_n (j := ⟨0, by decide⟩) (pc := 21) rfl rfl (by decide +kernel)) ?_
  refine ok_c (j := 15) rfl (ok_getI (ci := 12) (C := RX12) (T := TX12) (N := 45) (ix := 82) (pc := 22) rfl rfl (by decide +kernel) rfl (fun _ => rfl) rfl cw_X12 (by decide) rfl wd_831) ?_
  refine ok_c (j := 16) rfl (ok_cmpge (off := 60) (tg := 85) (pc := 25) rfl rfl (by decide +kernel) rfl (by decide)) ?_
  refine ok_c (j := 17) rfl (ok_aload_n (j := ⟨0, by decide⟩) (pc := 28) rfl rfl (by decide +kernel)) ?_
  refine ok_c (j := 18) rfl (ok_getS (f := 5) (ci := 12) (C := RX12) (T := TX12) (N := 45) (ix := 25) (pc := 29) rfl rfl (by decide +kernel) rfl (fun _ => rfl) rfl cw_X12 (by decide) rfl wd_829) ?_
  refine ok_c (j := 19) rfl (ok_iload (j := 5) (pc := 32) rfl rfl (by decide +kernel)) ?_
  refine ok_c (j := 20) rfl (ok_ild (pc := 34) rfl rfl (by decide +kernel) rfl) ?_
  refine ok_c (j := 21) rfl (ok_ifne (off := 15) (tg := 50) (pc := 35) rfl rfl (by decide +kernel) rfl (by decide)) ?_
  refine ok_c (j := 22) rfl (ok_aload_n (j := ⟨0, by decide⟩) (pc := 38) rfl rfl (by decide +kernel)) ?_
  refine ok_c (j := 23) rfl (ok_iload (j := 5) (pc := 39) rfl rfl (by decide +kernel)) ?_
  refine ok_c (j := 24) rfl (ok_iload_n (j := ⟨1, by decide⟩) (pc := 41) rfl rfl (by decide +kernel)) ?_
  refine ok_c (j := 25) rfl (ok_iload_n (j := ⟨2, by decide⟩) (pc := 42) rfl rfl (by decide +kernel)) ?_
  refine ok_c (j := 26) rfl (ok_iconst (n := 0) (pc := 43) rfl rfl (by decide +kernel) (by decide)) ?_
  refine ok_c (j := 27) rfl (ok_virtual (y := yX12_thinks) (n := 4) (d' := 6) (t := 20) (T := TX12) (N := 45) (ix := 265) is_ci (pc := 44) rfl rfl (by decide +kernel) (by decide) (ct_X12_thinks l) rfl (fun _ => rfl) ce_fI_rec wd_1139 wd_1141 wd_50 wd_75) ?_
  refine ok_c (j := 28) rfl (ok_goto (off := 4) (tg := 51) (pc := 47) rfl (by decide +kernel) rfl (by decide)) ?_
  refine ok_c (j := 29) rfl (ok_iconst (n := (-1)) (pc := 50) rfl rfl (by decide +kernel) (by decide)) ?_
  refine ok_c (j := 30) rfl (ok_istore (j := 6) (pc := 51) rfl rfl (by decide +kernel) (by decide)) ?_
  refine ok_c (j := 31) rfl (ok_iload (j := 6) (pc := 53) rfl rfl (by decide +kernel)) ?_
  refine ok_c (j := 32) rfl (ok_iflt (off := 24) (tg := 79) (pc := 55) rfl rfl (by decide +kernel) rfl (by decide)) ?_
  refine ok_c (j := 33) rfl (ok_iload_n (j := ⟨3, by decide⟩) (pc := 58) rfl rfl (by decide +kernel)) ?_
  refine ok_c (j := 34) rfl (ok_iflt (off := 13) (tg := 72) (pc := 59) rfl rfl (by decide +kernel) rfl (by decide)) ?_
  refine ok_c (j := 35) rfl (ok_iload (j := 6) (pc := 62) rfl rfl (by decide +kernel)) ?_
  refine ok_c (j := 36) rfl (ok_iload (j := 4) (pc := 64) rfl rfl (by decide +kernel)) ?_
  refine ok_c (j := 37) rfl (ok_cmplt (off := 6) (tg := 72) (pc := 66) rfl rfl (by decide +kernel) rfl (by decide)) ?_
  refine ok_c (j := 38) rfl (ok_goto (off := 10) (tg := 79) (pc := 69) rfl (by decide +kernel) rfl (by decide)) ?_
  refine ok_c (j := 39) rfl (ok_iload (j := 5) (pc := 72) rfl rfl (by decide +kernel)) ?_
  refine ok_c (j := 40) rfl (ok_istore_n (j := ⟨3, by decide⟩) (pc := 74) rfl rfl (by decide +kernel) (by decide)) ?_
  refine ok_c (j := 41) rfl (ok_iload (j := 6) (pc := 75) rfl rfl (by decide +kernel)) ?_
  refine ok_c (j := 42) rfl (ok_istore (j := 4) (pc := 77) rfl rfl (by decide +kernel) (by decide)) ?_
  refine ok_c (j := 43) rfl (ok_iinc (n := 1) (pc := 79) rfl rfl (by decide +kernel) (by decide) (by decide)) ?_
  refine ok_c (j := 44) rfl (ok_goto (off := (-63)) (tg := 19) (pc := 82) rfl (by decide +kernel) rfl (by decide)) ?_
  refine ok_c (j := 45) rfl (ok_iload_n (j := ⟨3, by decide⟩) (pc := 85) rfl rfl (by decide +kernel)) ?_
  refine ok_c (j := 46) rfl (ok_iret (pc := 86) rfl (by decide +kernel) rfl) ?_
  exact trivial
noncomputable def F_X12_whom := ce_fI tb_X12_whom 7 (some 20)
theorem ct_X12_whom (l : Launch) : ce_callee l yX12_whom 2 7 0 0 (ce_wI F_X12_whom) := ⟨_, _, _, ce_ctr_of (pcs := pc_X12_whom) (by decide +kernel) rfl (ok_X12_whom l ) ce_fI_run, ce_tw_at wd_1158 rfl, by decide, by decide +kernel, by decide +kernel, by decide +kernel⟩
def pc_X12_allInTurn : List Nat := [0, 1, 2, 5, 8, 9, 10, 11, 14, 17, 19, 20, 21, 23, 24, 26, 27, 29, 31, 32, 35, 38, 40, 43, 44, 47, 49, 50, 53, 56, 57, 59, 60, 61, 62, 65, 67, 69, 70, 73, 74, 77, 79, 80, 81, 82, 84, 87, 90, 91, 94, 96, 99, 101]
noncomputable def tb_X12_allInTurn : List ce_Op := [o_iload 1, o_iload 2, o_ci 2 F_X12_isRule 0 0 0 0, o_ifeq 9, o_iload 3, o_int 0, o_int 1, o_ci 3 F_X12_isIn 0 0 0 0, o_ifne 11, o_int (-2), o_iret, o_int 0, o_istore 4, o_int (-1), o_istore 5, o_int 0, o_istore 6, o_iload 6, o_aload 0, o_getI 20 7, o_cmpge 48, o_iload 5, o_ifge 48, o_aload 0, o_getS 20 26 (fun _ => 0), o_iload 6, o_ild 26, o_ifeq 29, o_goto 46, o_aload 0, o_iload 6, o_iload 1, o_iload 2, o_int 0, o_ci 5 F_X12_thinks 0 0 0 0, o_istore 5, o_iload 4, o_aload 0, o_getI 20 37, o_aload 0, o_getS 20 25 (fun _ => 0), o_iload 6, o_ild 25, o_bin q_sub, o_bin q_add, o_istore 4, o_iinc 6 1, o_goto 17, o_iload 3, o_ifne 52, o_iload 5, o_goto 53, o_iload 4, o_iret]
theorem tl_X12_allInTurn : ce_TL tb_X12_allInTurn := by
  unfold tb_X12_allInTurn
  refine tl_c ta_iload ?_
  refine tl_c ta_iload ?_
  refine tl_c ta_ci ?_
  refine tl_c ta_ifeq ?_
  refine tl_c ta_iload ?_
  refine tl_c ta_int ?_
  refine tl_c ta_int ?_
  refine tl_c ta_ci ?_
  refine tl_c ta_ifne ?_
  refine tl_c ta_int ?_
  refine tl_c ta_iret ?_
  refine tl_c ta_int ?_
  refine tl_c ta_istore ?_
  refine tl_c ta_int ?_
  refine tl_c ta_istore ?_
  refine tl_c ta_int ?_
  refine tl_c ta_istore ?_
  refine tl_c ta_iload ?_
  refine tl_c ta_aload ?_
  refine tl_c ta_getI ?_
  refine tl_c ta_cmpge ?_
  refine tl_c ta_iload ?_
  refine tl_c ta_ifge ?_
  refine tl_c ta_aload ?_
  refine tl_c ta_getS ?_
  refine tl_c ta_iload ?_
  refine tl_c ta_ild ?_
  refine tl_c ta_ifeq ?_
  refine tl_c ta_goto ?_
  refine tl_c ta_aload ?_
  refine tl_c ta_iload ?_
  refine tl_c ta_iload ?_
  refine tl_c ta_iload ?_
  refine tl_c ta_int ?_
  refine tl_c ta_ci ?_
  refine tl_c ta_istore ?_
  refine tl_c ta_iload ?_
  refine tl_c ta_aload ?_
  refine tl_c ta_getI ?_
  refine tl_c ta_aload ?_
  refine tl_c ta_getS ?_
  refine tl_c ta_iload ?_
  refine tl_c ta_ild ?_
  refine tl_c ta_bin ?_
  refine tl_c ta_bin ?_
  refine tl_c ta_istore ?_
  refine tl_c ta_iinc ?_
  refine tl_c ta_goto ?_
  refine tl_c ta_iload ?_
  refine tl_c ta_ifne ?_
  refine tl_c ta_iload ?_
  refine tl_c ta_goto ?_
  refine tl_c ta_iload ?_
  refine tl_c ta_iret ?_
  exact trivial
set_option maxRecDepth 20000 in
theorem ok_X12_allInTurn (l : Launch) : ce_OkL l cX12_allInTurn RX12 7 (some .int) 7 0 0 pc_X12_allInTurn 0 tb_X12_allInTurn := by
  unfold tb_X12_allInTurn
  refine ok_c (j := 1) rfl (ok_iload_n (j := ⟨1, by decide⟩) (pc := 0) rfl rfl (by decide +kernel)) ?_
  refine ok_c (j := 2) rfl (ok_iload_n (j := ⟨2, by decide⟩) (pc := 1) rfl rfl (by decide +kernel)) ?_
  refine ok_c (j := 3) rfl (ok_static (y := yX12_isRule) (n := 2) (d' := 1) (ix := 262) is_ci (pc := 2) rfl rfl (by decide +kernel) (by decide) rfl (ct_X12_isRule l) wd_1136 wd_1137 wd_75) ?_
  refine ok_c (j := 4) rfl (ok_ifeq (off := 12) (tg := 17) (pc := 5) rfl rfl (by decide +kernel) rfl (by decide)) ?_
  refine ok_c (j := 5) rfl (ok_iload_n (j := ⟨3, by decide⟩) (pc := 8) rfl rfl (by decide +kernel)) ?_
  refine ok_c (j := 6) rfl (ok_iconst (n := 0) (pc := 9) rfl rfl (by decide +kernel) (by decide)) ?_
  refine ok_c (j := 7) rfl (ok_iconst (n := 1) (pc := 10) rfl rfl (by decide +kernel) (by decide)) ?_
  refine ok_c (j := 8) rfl (ok_static (y := yX12_isIn) (n := 3) (d' := 1) (ix := 92) is_ci (pc := 11) rfl rfl (by decide +kernel) (by decide) rfl (ct_X12_isIn l) wd_964 wd_965 wd_75) ?_
  refine ok_c (j := 9) rfl (ok_ifne (off := 6) (tg := 20) (pc := 14) rfl rfl (by decide +kernel) rfl (by decide)) ?_
  refine ok_c (j := 10) rfl (ok_bipush (n := (-2)) (pc := 17) rfl rfl (by decide +kernel) (by decide)) ?_
  refine ok_c (j := 11) rfl (ok_iret (pc := 19) rfl (by decide +kernel) rfl) ?_
  refine ok_c (j := 12) rfl (ok_iconst (n := 0) (pc := 20) rfl rfl (by decide +kernel) (by decide)) ?_
  refine ok_c (j := 13) rfl (ok_istore (j := 4) (pc := 21) rfl rfl (by decide +kernel) (by decide)) ?_
  refine ok_c (j := 14) rfl (ok_iconst (n := (-1)) (pc := 23) rfl rfl (by decide +kernel) (by decide)) ?_
  refine ok_c (j := 15) rfl (ok_istore (j := 5) (pc := 24) rfl rfl (by decide +kernel) (by decide)) ?_
  refine ok_c (j := 16) rfl (ok_iconst (n := 0) (pc := 26) rfl rfl (by decide +kernel) (by decide)) ?_
  refine ok_c (j := 17) rfl (ok_istore (j := 6) (pc := 27) rfl rfl (by decide +kernel) (by decide)) ?_
  refine ok_c (j := 18) rfl (ok_iload (j := 6) (pc := 29) rfl rfl (by decide +kernel)) ?_
  refine ok_c (j := 19) rfl (ok_aload_n (j := ⟨0, by decide⟩) (pc := 31) rfl rfl (by decide +kernel)) ?_
  refine ok_c (j := 20) rfl (ok_getI (ci := 12) (C := RX12) (T := TX12) (N := 45) (ix := 82) (pc := 32) rfl rfl (by decide +kernel) rfl (fun _ => rfl) rfl cw_X12 (by decide) rfl wd_831) ?_
  refine ok_c (j := 21) rfl (ok_cmpge (off := 55) (tg := 90) (pc := 35) rfl rfl (by decide +kernel) rfl (by decide)) ?_
  refine ok_c (j := 22) rfl (ok_iload (j := 5) (pc := 38) rfl rfl (by decide +kernel)) ?_
  refine ok_c (j := 23) rfl (ok_ifge (off := 50) (tg := 90) (pc := 40) rfl rfl (by decide +kernel) rfl (by decide)) ?_
  refine ok_c (j := 24) rfl (ok_aload_n (j := ⟨0, by decide⟩) (pc := 43) rfl rfl (by decide +kernel)) ?_
  refine ok_c (j := 25) rfl (ok_getS (f := 5) (ci := 12) (C := RX12) (T := TX12) (N := 45) (ix := 25) (pc := 44) rfl rfl (by decide +kernel) rfl (fun _ => rfl) rfl cw_X12 (by decide) rfl wd_829) ?_
  refine ok_c (j := 26) rfl (ok_iload (j := 6) (pc := 47) rfl rfl (by decide +kernel)) ?_
  refine ok_c (j := 27) rfl (ok_ild (pc := 49) rfl rfl (by decide +kernel) rfl) ?_
  refine ok_c (j := 28) rfl (ok_ifeq (off := 6) (tg := 56) (pc := 50) rfl rfl (by decide +kernel) rfl (by decide)) ?_
  refine ok_c (j := 29) rfl (ok_goto (off := 31) (tg := 84) (pc := 53) rfl (by decide +kernel) rfl (by decide)) ?_
  refine ok_c (j := 30) rfl (ok_aload_n (j := ⟨0, by decide⟩) (pc := 56) rfl rfl (by decide +kernel)) ?_
  refine ok_c (j := 31) rfl (ok_iload (j := 6) (pc := 57) rfl rfl (by decide +kernel)) ?_
  refine ok_c (j := 32) rfl (ok_iload_n (j := ⟨1, by decide⟩) (pc := 59) rfl rfl (by decide +kernel)) ?_
  refine ok_c (j := 33) rfl (ok_iload_n (j := ⟨2, by decide⟩) (pc := 60) rfl rfl (by decide +kernel)) ?_
  refine ok_c (j := 34) rfl (ok_iconst (n := 0) (pc := 61) rfl rfl (by decide +kernel) (by decide)) ?_
  refine ok_c (j := 35) rfl (ok_virtual (y := yX12_thinks) (n := 4) (d' := 6) (t := 20) (T := TX12) (N := 45) (ix := 265) is_ci (pc := 62) rfl rfl (by decide +kernel) (by decide) (ct_X12_thinks l) rfl (fun _ => rfl) ce_fI_rec wd_1139 wd_1141 wd_50 wd_75) ?_
  refine ok_c (j := 36) rfl (ok_istore (j := 5) (pc := 65) rfl rfl (by decide +kernel) (by decide)) ?_
  refine ok_c (j := 37) rfl (ok_iload (j := 4) (pc := 67) rfl rfl (by decide +kernel)) ?_
  refine ok_c (j := 38) rfl (ok_aload_n (j := ⟨0, by decide⟩) (pc := 69) rfl rfl (by decide +kernel)) ?_
  refine ok_c (j := 39) rfl (ok_getI (ci := 12) (C := RX12) (T := TX12) (N := 45) (ix := 259) (pc := 70) rfl rfl (by decide +kernel) rfl (fun _ => rfl) rfl cw_X12 (by decide) rfl wd_861) ?_
  refine ok_c (j := 40) rfl (ok_aload_n (j := ⟨0, by decide⟩) (pc := 73) rfl rfl (by decide +kernel)) ?_
  refine ok_c (j := 41) rfl (ok_getS (f := 4) (ci := 12) (C := RX12) (T := TX12) (N := 45) (ix := 22) (pc := 74) rfl rfl (by decide +kernel) rfl (fun _ => rfl) rfl cw_X12 (by decide) rfl wd_828) ?_
  refine ok_c (j := 42) rfl (ok_iload (j := 6) (pc := 77) rfl rfl (by decide +kernel)) ?_
  refine ok_c (j := 43) rfl (ok_ild (pc := 79) rfl rfl (by decide +kernel) rfl) ?_
  refine ok_c (j := 44) rfl (ok_isub (pc := 80) rfl rfl (by decide +kernel)) ?_
  refine ok_c (j := 45) rfl (ok_iadd (pc := 81) rfl rfl (by decide +kernel)) ?_
  refine ok_c (j := 46) rfl (ok_istore (j := 4) (pc := 82) rfl rfl (by decide +kernel) (by decide)) ?_
  refine ok_c (j := 47) rfl (ok_iinc (n := 1) (pc := 84) rfl rfl (by decide +kernel) (by decide) (by decide)) ?_
  refine ok_c (j := 48) rfl (ok_goto (off := (-58)) (tg := 29) (pc := 87) rfl (by decide +kernel) rfl (by decide)) ?_
  refine ok_c (j := 49) rfl (ok_iload_n (j := ⟨3, by decide⟩) (pc := 90) rfl rfl (by decide +kernel)) ?_
  refine ok_c (j := 50) rfl (ok_ifne (off := 8) (tg := 99) (pc := 91) rfl rfl (by decide +kernel) rfl (by decide)) ?_
  refine ok_c (j := 51) rfl (ok_iload (j := 5) (pc := 94) rfl rfl (by decide +kernel)) ?_
  refine ok_c (j := 52) rfl (ok_goto (off := 5) (tg := 101) (pc := 96) rfl (by decide +kernel) rfl (by decide)) ?_
  refine ok_c (j := 53) rfl (ok_iload (j := 4) (pc := 99) rfl rfl (by decide +kernel)) ?_
  refine ok_c (j := 54) rfl (ok_iret (pc := 101) rfl (by decide +kernel) rfl) ?_
  exact trivial
noncomputable def F_X12_allInTurn := ce_fI tb_X12_allInTurn 7 (some 20)
theorem ct_X12_allInTurn (l : Launch) : ce_callee l yX12_allInTurn 3 7 0 0 (ce_wI F_X12_allInTurn) := ⟨_, _, _, ce_ctr_of (pcs := pc_X12_allInTurn) (by decide +kernel) rfl (ok_X12_allInTurn l ) ce_fI_run, ce_tw_at wd_1162 rfl, by decide, by decide +kernel, by decide +kernel, by decide +kernel⟩
def pc_X12_slipped : List Nat := [0, 1, 2, 5, 8, 9, 10, 13, 16, 18, 19, 20, 23, 24, 25, 27, 28, 31, 32, 33, 34, 35, 36, 37, 38, 39, 42, 44, 45, 48, 49, 51, 52, 54]
noncomputable def tb_X12_slipped : List ce_Op := [o_aload 0, o_iload 1, o_ci 2 F_X12_isSeller 0 0 0 0, o_ifeq 8, o_iload 2, o_iload 3, o_ci 2 F_X12_isRule 0 0 0 0, o_ifne 10, o_int (-2), o_iret, o_aload 0, o_getS 20 21 (fun _ => 0), o_iload 1, o_ild 21, o_istore 4, o_aload 0, o_getS 20 21 (fun _ => 0), o_iload 1, o_int 3, o_ist 21, o_aload 0, o_iload 1, o_iload 2, o_iload 3, o_int 1, o_ci 5 F_X12_thinks 0 0 0 0, o_istore 5, o_aload 0, o_getS 20 21 (fun _ => 0), o_iload 1, o_iload 4, o_ist 21, o_iload 5, o_iret]
theorem tl_X12_slipped : ce_TL tb_X12_slipped := by
  unfold tb_X12_slipped
  refine tl_c ta_aload ?_
  refine tl_c ta_iload ?_
  refine tl_c ta_ci ?_
  refine tl_c ta_ifeq ?_
  refine tl_c ta_iload ?_
  refine tl_c ta_iload ?_
  refine tl_c ta_ci ?_
  refine tl_c ta_ifne ?_
  refine tl_c ta_int ?_
  refine tl_c ta_iret ?_
  refine tl_c ta_aload ?_
  refine tl_c ta_getS ?_
  refine tl_c ta_iload ?_
  refine tl_c ta_ild ?_
  refine tl_c ta_istore ?_
  refine tl_c ta_aload ?_
  refine tl_c ta_getS ?_
  refine tl_c ta_iload ?_
  refine tl_c ta_int ?_
  refine tl_c ta_ist ?_
  refine tl_c ta_aload ?_
  refine tl_c ta_iload ?_
  refine tl_c ta_iload ?_
  refine tl_c ta_iload ?_
  refine tl_c ta_int ?_
  refine tl_c ta_ci ?_
  refine tl_c ta_istore ?_
  refine tl_c ta_aload ?_
  refine tl_c ta_getS ?_
  refine tl_c ta_iload ?_
  refine tl_c ta_iload ?_
  refine tl_c ta_ist ?_
  refine tl_c ta_iload ?_
  refine tl_c ta_iret ?_
  exact trivial
set_option maxRecDepth 20000 in
theorem ok_X12_slipped (l : Launch) : ce_OkL l cX12_slipped RX12 6 (some .int) 7 0 0 pc_X12_slipped 0 tb_X12_slipped := by
  unfold tb_X12_slipped
  refine ok_c (j := 1) rfl (ok_aload_n (j := ⟨0, by decide⟩) (pc := 0) rfl rfl (by decide +kernel)) ?_
  refine ok_c (j := 2) rfl (ok_iload_n (j := ⟨1, by decide⟩) (pc := 1) rfl rfl (by decide +kernel)) ?_
  refine ok_c (j := 3) rfl (ok_virtual (y := yX12_isSeller) (n := 1) (d' := 1) (t := 20) (T := TX12) (N := 45) (ix := 192) is_ci (pc := 2) rfl rfl (by decide +kernel) (by decide) (ct_X12_isSeller l) rfl (fun _ => rfl) ce_fI_rec wd_1062 wd_1064 wd_41 wd_75) ?_
  refine ok_c (j := 4) rfl (ok_ifeq (off := 11) (tg := 16) (pc := 5) rfl rfl (by decide +kernel) rfl (by decide)) ?_
  refine ok_c (j := 5) rfl (ok_iload_n (j := ⟨2, by decide⟩) (pc := 8) rfl rfl (by decide +kernel)) ?_
  refine ok_c (j := 6) rfl (ok_iload_n (j := ⟨3, by decide⟩) (pc := 9) rfl rfl (by decide +kernel)) ?_
  refine ok_c (j := 7) rfl (ok_static (y := yX12_isRule) (n := 2) (d' := 1) (ix := 262) is_ci (pc := 10) rfl rfl (by decide +kernel) (by decide) rfl (ct_X12_isRule l) wd_1136 wd_1137 wd_75) ?_
  refine ok_c (j := 8) rfl (ok_ifne (off := 6) (tg := 19) (pc := 13) rfl rfl (by decide +kernel) rfl (by decide)) ?_
  refine ok_c (j := 9) rfl (ok_bipush (n := (-2)) (pc := 16) rfl rfl (by decide +kernel) (by decide)) ?_
  refine ok_c (j := 10) rfl (ok_iret (pc := 18) rfl (by decide +kernel) rfl) ?_
  refine ok_c (j := 11) rfl (ok_aload_n (j := ⟨0, by decide⟩) (pc := 19) rfl rfl (by decide +kernel)) ?_
  refine ok_c (j := 12) rfl (ok_getS (f := 0) (ci := 12) (C := RX12) (T := TX12) (N := 45) (ix := 7) (pc := 20) rfl rfl (by decide +kernel) rfl (fun _ => rfl) rfl cw_X12 (by decide) rfl wd_824) ?_
  refine ok_c (j := 13) rfl (ok_iload_n (j := ⟨1, by decide⟩) (pc := 23) rfl rfl (by decide +kernel)) ?_
  refine ok_c (j := 14) rfl (ok_ild (pc := 24) rfl rfl (by decide +kernel) rfl) ?_
  refine ok_c (j := 15) rfl (ok_istore (j := 4) (pc := 25) rfl rfl (by decide +kernel) (by decide)) ?_
  refine ok_c (j := 16) rfl (ok_aload_n (j := ⟨0, by decide⟩) (pc := 27) rfl rfl (by decide +kernel)) ?_
  refine ok_c (j := 17) rfl (ok_getS (f := 0) (ci := 12) (C := RX12) (T := TX12) (N := 45) (ix := 7) (pc := 28) rfl rfl (by decide +kernel) rfl (fun _ => rfl) rfl cw_X12 (by decide) rfl wd_824) ?_
  refine ok_c (j := 18) rfl (ok_iload_n (j := ⟨1, by decide⟩) (pc := 31) rfl rfl (by decide +kernel)) ?_
  refine ok_c (j := 19) rfl (ok_iconst (n := 3) (pc := 32) rfl rfl (by decide +kernel) (by decide)) ?_
  refine ok_c (j := 20) rfl (ok_ist (pc := 33) rfl rfl (by decide +kernel) rfl) ?_
  refine ok_c (j := 21) rfl (ok_aload_n (j := ⟨0, by decide⟩) (pc := 34) rfl rfl (by decide +kernel)) ?_
  refine ok_c (j := 22) rfl (ok_iload_n (j := ⟨1, by decide⟩) (pc := 35) rfl rfl (by decide +kernel)) ?_
  refine ok_c (j := 23) rfl (ok_iload_n (j := ⟨2, by decide⟩) (pc := 36) rfl rfl (by decide +kernel)) ?_
  refine ok_c (j := 24) rfl (ok_iload_n (j := ⟨3, by decide⟩) (pc := 37) rfl rfl (by decide +kernel)) ?_
  refine ok_c (j := 25) rfl (ok_iconst (n := 1) (pc := 38) rfl rfl (by decide +kernel) (by decide)) ?_
  refine ok_c (j := 26) rfl (ok_virtual (y := yX12_thinks) (n := 4) (d' := 6) (t := 20) (T := TX12) (N := 45) (ix := 265) is_ci (pc := 39) rfl rfl (by decide +kernel) (by decide) (ct_X12_thinks l) rfl (fun _ => rfl) ce_fI_rec wd_1139 wd_1141 wd_50 wd_75) ?_
  refine ok_c (j := 27) rfl (ok_istore (j := 5) (pc := 42) rfl rfl (by decide +kernel) (by decide)) ?_
  refine ok_c (j := 28) rfl (ok_aload_n (j := ⟨0, by decide⟩) (pc := 44) rfl rfl (by decide +kernel)) ?_
  refine ok_c (j := 29) rfl (ok_getS (f := 0) (ci := 12) (C := RX12) (T := TX12) (N := 45) (ix := 7) (pc := 45) rfl rfl (by decide +kernel) rfl (fun _ => rfl) rfl cw_X12 (by decide) rfl wd_824) ?_
  refine ok_c (j := 30) rfl (ok_iload_n (j := ⟨1, by decide⟩) (pc := 48) rfl rfl (by decide +kernel)) ?_
  refine ok_c (j := 31) rfl (ok_iload (j := 4) (pc := 49) rfl rfl (by decide +kernel)) ?_
  refine ok_c (j := 32) rfl (ok_ist (pc := 51) rfl rfl (by decide +kernel) rfl) ?_
  refine ok_c (j := 33) rfl (ok_iload (j := 5) (pc := 52) rfl rfl (by decide +kernel)) ?_
  refine ok_c (j := 34) rfl (ok_iret (pc := 54) rfl (by decide +kernel) rfl) ?_
  exact trivial
noncomputable def F_X12_slipped := ce_fI tb_X12_slipped 6 (some 20)
theorem ct_X12_slipped (l : Launch) : ce_callee l yX12_slipped 3 7 0 0 (ce_wI F_X12_slipped) := ⟨_, _, _, ce_ctr_of (pcs := pc_X12_slipped) (by decide +kernel) rfl (ok_X12_slipped l ) ce_fI_run, ce_tw_at wd_1177 rfl, by decide, by decide +kernel, by decide +kernel, by decide +kernel⟩
def pc_X12_market : List Nat := [0, 1, 4, 7, 8, 9, 12, 15, 17, 18, 19, 22, 25, 27, 28, 29, 32, 33, 34, 37, 39, 40, 41, 42, 45, 46, 47, 50, 51, 52, 55, 56, 57, 60, 61, 63, 65, 66, 69, 70, 71, 74, 75, 76, 77, 78, 81, 83, 84, 85, 87, 88, 89, 90, 93, 96, 99, 102, 105, 106, 107, 108, 111, 114, 116, 119, 120, 123, 126, 128, 129, 132, 133, 136, 139, 140, 143]
noncomputable def tb_X12_market : List ce_Op := [o_iload 1, o_ci 1 F_X12_isSheet 0 0 0 0, o_ifeq 12, o_iload 2, o_iload 3, o_ci 2 F_X12_isRule 0 0 0 0, o_ifeq 12, o_iload 4, o_int 0, o_int 2, o_ci 3 F_X12_isIn 0 0 0 0, o_ifne 14, o_int (-2), o_iret, o_aload 0, o_getS 20 34 (fun _ => 0), o_iload 1, o_ild 34, o_ifge 21, o_int (-11), o_iret, o_aload 0, o_int 1, o_cv 2 F_X12_keeps 0 0 0 0, o_aload 0, o_int 0, o_putI 20 38, o_aload 0, o_int 0, o_putI 20 39, o_aload 0, o_int 0, o_putI 20 40, o_int 0, o_istore 5, o_iload 5, o_aload 0, o_getS 20 35 (fun _ => 0), o_iload 1, o_ild 35, o_cmpge 58, o_aload 0, o_iload 2, o_iload 3, o_aload 0, o_getS 20 36 (fun _ => 0), o_int 40, o_iload 1, o_bin q_mul, o_iload 5, o_bin q_add, o_ild 36, o_int 0, o_int 1999, o_ci 3 F_X12_bounded 0 0 0 0, o_cv 4 F_X12_goesBuyer 0 0 0 0, o_iinc 5 1, o_goto 35, o_aload 0, o_int 1, o_aload 0, o_getI 20 7, o_cv 3 F_X12_putsBack 0 0 0 0, o_iload 4, o_ifne 68, o_aload 0, o_getI 20 38, o_goto 76, o_iload 4, o_int 1, o_cmpne 74, o_aload 0, o_getI 20 39, o_goto 76, o_aload 0, o_getI 20 40, o_iret]
theorem tl_X12_market : ce_TL tb_X12_market := by
  unfold tb_X12_market
  refine tl_c ta_iload ?_
  refine tl_c ta_ci ?_
  refine tl_c ta_ifeq ?_
  refine tl_c ta_iload ?_
  refine tl_c ta_iload ?_
  refine tl_c ta_ci ?_
  refine tl_c ta_ifeq ?_
  refine tl_c ta_iload ?_
  refine tl_c ta_int ?_
  refine tl_c ta_int ?_
  refine tl_c ta_ci ?_
  refine tl_c ta_ifne ?_
  refine tl_c ta_int ?_
  refine tl_c ta_iret ?_
  refine tl_c ta_aload ?_
  refine tl_c ta_getS ?_
  refine tl_c ta_iload ?_
  refine tl_c ta_ild ?_
  refine tl_c ta_ifge ?_
  refine tl_c ta_int ?_
  refine tl_c ta_iret ?_
  refine tl_c ta_aload ?_
  refine tl_c ta_int ?_
  refine tl_c ta_cv ?_
  refine tl_c ta_aload ?_
  refine tl_c ta_int ?_
  refine tl_c ta_putI ?_
  refine tl_c ta_aload ?_
  refine tl_c ta_int ?_
  refine tl_c ta_putI ?_
  refine tl_c ta_aload ?_
  refine tl_c ta_int ?_
  refine tl_c ta_putI ?_
  refine tl_c ta_int ?_
  refine tl_c ta_istore ?_
  refine tl_c ta_iload ?_
  refine tl_c ta_aload ?_
  refine tl_c ta_getS ?_
  refine tl_c ta_iload ?_
  refine tl_c ta_ild ?_
  refine tl_c ta_cmpge ?_
  refine tl_c ta_aload ?_
  refine tl_c ta_iload ?_
  refine tl_c ta_iload ?_
  refine tl_c ta_aload ?_
  refine tl_c ta_getS ?_
  refine tl_c ta_int ?_
  refine tl_c ta_iload ?_
  refine tl_c ta_bin ?_
  refine tl_c ta_iload ?_
  refine tl_c ta_bin ?_
  refine tl_c ta_ild ?_
  refine tl_c ta_int ?_
  refine tl_c ta_int ?_
  refine tl_c ta_ci ?_
  refine tl_c ta_cv ?_
  refine tl_c ta_iinc ?_
  refine tl_c ta_goto ?_
  refine tl_c ta_aload ?_
  refine tl_c ta_int ?_
  refine tl_c ta_aload ?_
  refine tl_c ta_getI ?_
  refine tl_c ta_cv ?_
  refine tl_c ta_iload ?_
  refine tl_c ta_ifne ?_
  refine tl_c ta_aload ?_
  refine tl_c ta_getI ?_
  refine tl_c ta_goto ?_
  refine tl_c ta_iload ?_
  refine tl_c ta_int ?_
  refine tl_c ta_cmpne ?_
  refine tl_c ta_aload ?_
  refine tl_c ta_getI ?_
  refine tl_c ta_goto ?_
  refine tl_c ta_aload ?_
  refine tl_c ta_getI ?_
  refine tl_c ta_iret ?_
  exact trivial
set_option maxRecDepth 20000 in
theorem ok_X12_market (l : Launch) : ce_OkL l cX12_market RX12 6 (some .int) 7 0 0 pc_X12_market 0 tb_X12_market := by
  unfold tb_X12_market
  refine ok_c (j := 1) rfl (ok_iload_n (j := ⟨1, by decide⟩) (pc := 0) rfl rfl (by decide +kernel)) ?_
  refine ok_c (j := 2) rfl (ok_static (y := yX12_isSheet) (n := 1) (d' := 1) (ix := 269) is_ci (pc := 1) rfl rfl (by decide +kernel) (by decide) rfl (ct_X12_isSheet l) wd_1167 wd_1168 wd_75) ?_
  refine ok_c (j := 3) rfl (ok_ifeq (off := 21) (tg := 25) (pc := 4) rfl rfl (by decide +kernel) rfl (by decide)) ?_
  refine ok_c (j := 4) rfl (ok_iload_n (j := ⟨2, by decide⟩) (pc := 7) rfl rfl (by decide +kernel)) ?_
  refine ok_c (j := 5) rfl (ok_iload_n (j := ⟨3, by decide⟩) (pc := 8) rfl rfl (by decide +kernel)) ?_
  refine ok_c (j := 6) rfl (ok_static (y := yX12_isRule) (n := 2) (d' := 1) (ix := 262) is_ci (pc := 9) rfl rfl (by decide +kernel) (by decide) rfl (ct_X12_isRule l) wd_1136 wd_1137 wd_75) ?_
  refine ok_c (j := 7) rfl (ok_ifeq (off := 13) (tg := 25) (pc := 12) rfl rfl (by decide +kernel) rfl (by decide)) ?_
  refine ok_c (j := 8) rfl (ok_iload (j := 4) (pc := 15) rfl rfl (by decide +kernel)) ?_
  refine ok_c (j := 9) rfl (ok_iconst (n := 0) (pc := 17) rfl rfl (by decide +kernel) (by decide)) ?_
  refine ok_c (j := 10) rfl (ok_iconst (n := 2) (pc := 18) rfl rfl (by decide +kernel) (by decide)) ?_
  refine ok_c (j := 11) rfl (ok_static (y := yX12_isIn) (n := 3) (d' := 1) (ix := 92) is_ci (pc := 19) rfl rfl (by decide +kernel) (by decide) rfl (ct_X12_isIn l) wd_964 wd_965 wd_75) ?_
  refine ok_c (j := 12) rfl (ok_ifne (off := 6) (tg := 28) (pc := 22) rfl rfl (by decide +kernel) rfl (by decide)) ?_
  refine ok_c (j := 13) rfl (ok_bipush (n := (-2)) (pc := 25) rfl rfl (by decide +kernel) (by decide)) ?_
  refine ok_c (j := 14) rfl (ok_iret (pc := 27) rfl (by decide +kernel) rfl) ?_
  refine ok_c (j := 15) rfl (ok_aload_n (j := ⟨0, by decide⟩) (pc := 28) rfl rfl (by decide +kernel)) ?_
  refine ok_c (j := 16) rfl (ok_getS (f := 41) (ci := 12) (C := RX12) (T := TX12) (N := 45) (ix := 67) (pc := 29) rfl rfl (by decide +kernel) rfl (fun _ => rfl) rfl cw_X12 (by decide) rfl wd_865) ?_
  refine ok_c (j := 17) rfl (ok_iload_n (j := ⟨1, by decide⟩) (pc := 32) rfl rfl (by decide +kernel)) ?_
  refine ok_c (j := 18) rfl (ok_ild (pc := 33) rfl rfl (by decide +kernel) rfl) ?_
  refine ok_c (j := 19) rfl (ok_ifge (off := 6) (tg := 40) (pc := 34) rfl rfl (by decide +kernel) rfl (by decide)) ?_
  refine ok_c (j := 20) rfl (ok_bipush (n := (-11)) (pc := 37) rfl rfl (by decide +kernel) (by decide)) ?_
  refine ok_c (j := 21) rfl (ok_iret (pc := 39) rfl (by decide +kernel) rfl) ?_
  refine ok_c (j := 22) rfl (ok_aload_n (j := ⟨0, by decide⟩) (pc := 40) rfl rfl (by decide +kernel)) ?_
  refine ok_c (j := 23) rfl (ok_iconst (n := 1) (pc := 41) rfl rfl (by decide +kernel) (by decide)) ?_
  refine ok_c (j := 24) rfl (ok_virtual (y := yX12_keeps) (n := 1) (d' := 1) (t := 20) (T := TX12) (N := 45) (ix := 221) is_cv (pc := 42) rfl rfl (by decide +kernel) (by decide) (ct_X12_keeps l) rfl (fun _ => rfl) ce_fV_rec wd_1116 wd_1118 wd_47 wd_75) ?_
  refine ok_c (j := 25) rfl (ok_aload_n (j := ⟨0, by decide⟩) (pc := 45) rfl rfl (by decide +kernel)) ?_
  refine ok_c (j := 26) rfl (ok_iconst (n := 0) (pc := 46) rfl rfl (by decide +kernel) (by decide)) ?_
  refine ok_c (j := 27) rfl (ok_putI (ci := 12) (C := RX12) (T := TX12) (N := 45) (ty := tyX12) (ix := 275) (pc := 47) rfl rfl (by decide +kernel) rfl (fun _ => rfl) rfl cw_X12 tyX12_ok nmX12 (by decide) rfl rfl rfl wd_862) ?_
  refine ok_c (j := 28) rfl (ok_aload_n (j := ⟨0, by decide⟩) (pc := 50) rfl rfl (by decide +kernel)) ?_
  refine ok_c (j := 29) rfl (ok_iconst (n := 0) (pc := 51) rfl rfl (by decide +kernel) (by decide)) ?_
  refine ok_c (j := 30) rfl (ok_putI (ci := 12) (C := RX12) (T := TX12) (N := 45) (ty := tyX12) (ix := 278) (pc := 52) rfl rfl (by decide +kernel) rfl (fun _ => rfl) rfl cw_X12 tyX12_ok nmX12 (by decide) rfl rfl rfl wd_863) ?_
  refine ok_c (j := 31) rfl (ok_aload_n (j := ⟨0, by decide⟩) (pc := 55) rfl rfl (by decide +kernel)) ?_
  refine ok_c (j := 32) rfl (ok_iconst (n := 0) (pc := 56) rfl rfl (by decide +kernel) (by decide)) ?_
  refine ok_c (j := 33) rfl (ok_putI (ci := 12) (C := RX12) (T := TX12) (N := 45) (ty := tyX12) (ix := 281) (pc := 57) rfl rfl (by decide +kernel) rfl (fun _ => rfl) rfl cw_X12 tyX12_ok nmX12 (by decide) rfl rfl rfl wd_864) ?_
  refine ok_c (j := 34) rfl (ok_iconst (n := 0) (pc := 60) rfl rfl (by decide +kernel) (by decide)) ?_
  refine ok_c (j := 35) rfl (ok_istore (j := 5) (pc := 61) rfl rfl (by decide +kernel) (by decide)) ?_
  refine ok_c (j := 36) rfl (ok_iload (j := 5) (pc := 63) rfl rfl (by decide +kernel)) ?_
  refine ok_c (j := 37) rfl (ok_aload_n (j := ⟨0, by decide⟩) (pc := 65) rfl rfl (by decide +kernel)) ?_
  refine ok_c (j := 38) rfl (ok_getS (f := 42) (ci := 12) (C := RX12) (T := TX12) (N := 45) (ix := 70) (pc := 66) rfl rfl (by decide +kernel) rfl (fun _ => rfl) rfl cw_X12 (by decide) rfl wd_866) ?_
  refine ok_c (j := 39) rfl (ok_iload_n (j := ⟨1, by decide⟩) (pc := 69) rfl rfl (by decide +kernel)) ?_
  refine ok_c (j := 40) rfl (ok_ild (pc := 70) rfl rfl (by decide +kernel) rfl) ?_
  refine ok_c (j := 41) rfl (ok_cmpge (off := 34) (tg := 105) (pc := 71) rfl rfl (by decide +kernel) rfl (by decide)) ?_
  refine ok_c (j := 42) rfl (ok_aload_n (j := ⟨0, by decide⟩) (pc := 74) rfl rfl (by decide +kernel)) ?_
  refine ok_c (j := 43) rfl (ok_iload_n (j := ⟨2, by decide⟩) (pc := 75) rfl rfl (by decide +kernel)) ?_
  refine ok_c (j := 44) rfl (ok_iload_n (j := ⟨3, by decide⟩) (pc := 76) rfl rfl (by decide +kernel)) ?_
  refine ok_c (j := 45) rfl (ok_aload_n (j := ⟨0, by decide⟩) (pc := 77) rfl rfl (by decide +kernel)) ?_
  refine ok_c (j := 46) rfl (ok_getS (f := 43) (ci := 12) (C := RX12) (T := TX12) (N := 45) (ix := 73) (pc := 78) rfl rfl (by decide +kernel) rfl (fun _ => rfl) rfl cw_X12 (by decide) rfl wd_867) ?_
  refine ok_c (j := 47) rfl (ok_bipush (n := 40) (pc := 81) rfl rfl (by decide +kernel) (by decide)) ?_
  refine ok_c (j := 48) rfl (ok_iload_n (j := ⟨1, by decide⟩) (pc := 83) rfl rfl (by decide +kernel)) ?_
  refine ok_c (j := 49) rfl (ok_imul (pc := 84) rfl rfl (by decide +kernel)) ?_
  refine ok_c (j := 50) rfl (ok_iload (j := 5) (pc := 85) rfl rfl (by decide +kernel)) ?_
  refine ok_c (j := 51) rfl (ok_iadd (pc := 87) rfl rfl (by decide +kernel)) ?_
  refine ok_c (j := 52) rfl (ok_ild (pc := 88) rfl rfl (by decide +kernel) rfl) ?_
  refine ok_c (j := 53) rfl (ok_iconst (n := 0) (pc := 89) rfl rfl (by decide +kernel) (by decide)) ?_
  refine ok_c (j := 54) rfl (ok_sipush (n := 1999) (pc := 90) rfl rfl (by decide +kernel) (by decide)) ?_
  refine ok_c (j := 55) rfl (ok_static (y := yX12_bounded) (n := 3) (d' := 1) (ix := 179) is_ci (pc := 93) rfl rfl (by decide +kernel) (by decide) rfl (ct_X12_bounded l) wd_1055 wd_1056 wd_75) ?_
  refine ok_c (j := 56) rfl (ok_virtual (y := yX12_goesBuyer) (n := 3) (d' := 6) (t := 20) (T := TX12) (N := 45) (ix := 284) is_cv (pc := 96) rfl rfl (by decide +kernel) (by decide) (ct_X12_goesBuyer l) rfl (fun _ => rfl) ce_fV_rec wd_1182 wd_1184 wd_53 wd_75) ?_
  refine ok_c (j := 57) rfl (ok_iinc (n := 1) (pc := 99) rfl rfl (by decide +kernel) (by decide) (by decide)) ?_
  refine ok_c (j := 58) rfl (ok_goto (off := (-39)) (tg := 63) (pc := 102) rfl (by decide +kernel) rfl (by decide)) ?_
  refine ok_c (j := 59) rfl (ok_aload_n (j := ⟨0, by decide⟩) (pc := 105) rfl rfl (by decide +kernel)) ?_
  refine ok_c (j := 60) rfl (ok_iconst (n := 1) (pc := 106) rfl rfl (by decide +kernel) (by decide)) ?_
  refine ok_c (j := 61) rfl (ok_aload_n (j := ⟨0, by decide⟩) (pc := 107) rfl rfl (by decide +kernel)) ?_
  refine ok_c (j := 62) rfl (ok_getI (ci := 12) (C := RX12) (T := TX12) (N := 45) (ix := 82) (pc := 108) rfl rfl (by decide +kernel) rfl (fun _ => rfl) rfl cw_X12 (by decide) rfl wd_831) ?_
  refine ok_c (j := 63) rfl (ok_virtual (y := yX12_putsBack) (n := 2) (d' := 1) (t := 20) (T := TX12) (N := 45) (ix := 242) is_cv (pc := 111) rfl rfl (by decide +kernel) (by decide) (ct_X12_putsBack l) rfl (fun _ => rfl) ce_fV_rec wd_1128 wd_1130 wd_49 wd_75) ?_
  refine ok_c (j := 64) rfl (ok_iload (j := 4) (pc := 114) rfl rfl (by decide +kernel)) ?_
  refine ok_c (j := 65) rfl (ok_ifne (off := 10) (tg := 126) (pc := 116) rfl rfl (by decide +kernel) rfl (by decide)) ?_
  refine ok_c (j := 66) rfl (ok_aload_n (j := ⟨0, by decide⟩) (pc := 119) rfl rfl (by decide +kernel)) ?_
  refine ok_c (j := 67) rfl (ok_getI (ci := 12) (C := RX12) (T := TX12) (N := 45) (ix := 275) (pc := 120) rfl rfl (by decide +kernel) rfl (fun _ => rfl) rfl cw_X12 (by decide) rfl wd_862) ?_
  refine ok_c (j := 68) rfl (ok_goto (off := 20) (tg := 143) (pc := 123) rfl (by decide +kernel) rfl (by decide)) ?_
  refine ok_c (j := 69) rfl (ok_iload (j := 4) (pc := 126) rfl rfl (by decide +kernel)) ?_
  refine ok_c (j := 70) rfl (ok_iconst (n := 1) (pc := 128) rfl rfl (by decide +kernel) (by decide)) ?_
  refine ok_c (j := 71) rfl (ok_cmpne (off := 10) (tg := 139) (pc := 129) rfl rfl (by decide +kernel) rfl (by decide)) ?_
  refine ok_c (j := 72) rfl (ok_aload_n (j := ⟨0, by decide⟩) (pc := 132) rfl rfl (by decide +kernel)) ?_
  refine ok_c (j := 73) rfl (ok_getI (ci := 12) (C := RX12) (T := TX12) (N := 45) (ix := 278) (pc := 133) rfl rfl (by decide +kernel) rfl (fun _ => rfl) rfl cw_X12 (by decide) rfl wd_863) ?_
  refine ok_c (j := 74) rfl (ok_goto (off := 7) (tg := 143) (pc := 136) rfl (by decide +kernel) rfl (by decide)) ?_
  refine ok_c (j := 75) rfl (ok_aload_n (j := ⟨0, by decide⟩) (pc := 139) rfl rfl (by decide +kernel)) ?_
  refine ok_c (j := 76) rfl (ok_getI (ci := 12) (C := RX12) (T := TX12) (N := 45) (ix := 281) (pc := 140) rfl rfl (by decide +kernel) rfl (fun _ => rfl) rfl cw_X12 (by decide) rfl wd_864) ?_
  refine ok_c (j := 77) rfl (ok_iret (pc := 143) rfl (by decide +kernel) rfl) ?_
  exact trivial
noncomputable def F_X12_market := ce_fI tb_X12_market 6 (some 20)
theorem ct_X12_market (l : Launch) : ce_callee l yX12_market 4 7 0 0 (ce_wI F_X12_market) := ⟨_, _, _, ce_ctr_of (pcs := pc_X12_market) (by decide +kernel) rfl (ok_X12_market l ) ce_fI_run, ce_tw_at wd_1181 rfl, by decide, by decide +kernel, by decide +kernel, by decide +kernel⟩
