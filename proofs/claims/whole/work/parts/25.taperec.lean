abbrev ce_F6 : Type := (List ce_V → ce_S → Option ce_S) × (List ce_V → ce_S → Option ce_S) × (List ce_V → ce_S → Option ce_S) × (List ce_V → ce_S → Option ce_S) × (List ce_V → ce_S → Option ce_S) × (List ce_V → ce_S → Option ce_S)
def ce_c6 (l : Launch) (d : Nat) (f : ce_F6) : Prop := ce_callee l yX9_either 1 d 0 0 (ce_wV f.1) ∧ ce_callee l yX9_both 1 d 0 0 (ce_wV f.2.1) ∧ ce_callee l yX9_denied 1 d 0 0 (ce_wV f.2.2.1) ∧ ce_callee l yX9_sum 1 d 0 0 (ce_wV f.2.2.2.1) ∧ ce_callee l yX9_term 1 d 0 0 (ce_wV f.2.2.2.2.1) ∧ ce_callee l yX9_one 1 d 0 0 (ce_wV f.2.2.2.2.2)
def ce_r6 (f : ce_F6) : Prop := (∀ a S res, ce_wV f.1 a S = some res → ∃ j as, a = .inr (.inl (7, j)) :: as) ∧ (∀ a S res, ce_wV f.2.1 a S = some res → ∃ j as, a = .inr (.inl (7, j)) :: as) ∧ (∀ a S res, ce_wV f.2.2.1 a S = some res → ∃ j as, a = .inr (.inl (7, j)) :: as) ∧ (∀ a S res, ce_wV f.2.2.2.1 a S = some res → ∃ j as, a = .inr (.inl (7, j)) :: as) ∧ (∀ a S res, ce_wV f.2.2.2.2.1 a S = some res → ∃ j as, a = .inr (.inl (7, j)) :: as) ∧ (∀ a S res, ce_wV f.2.2.2.2.2 a S = some res → ∃ j as, a = .inr (.inl (7, j)) :: as)
def pc_X9_either : List Nat := [0, 1, 2, 5, 6, 7, 8, 9, 12, 15, 16, 19, 21, 24, 25, 28, 29, 30, 33, 34, 36, 39, 42, 45]
noncomputable def tb_X9_either (f : ce_F6) : List ce_Op := [o_aload 0, o_iload 1, o_cv 2 f.2.1 0 0 0 0, o_int 0, o_istore 2, o_iload 2, o_aload 0, o_getI 7 0, o_cmpge 23, o_aload 0, o_getI 7 4, o_int (-9), o_cmpne 23, o_aload 0, o_cv 1 F_X9_advance 0 0 0 0, o_aload 0, o_iload 1, o_cv 2 f.2.1 0 0 0 0, o_aload 0, o_int (-9), o_cv 2 F_X9_emit 0 0 0 0, o_iinc 2 1, o_goto 5, o_vret]
theorem tl_X9_either (f : ce_F6) : ce_TL (tb_X9_either f) := by
  unfold tb_X9_either
  refine tl_c ta_aload ?_
  refine tl_c ta_iload ?_
  refine tl_c ta_cv ?_
  refine tl_c ta_int ?_
  refine tl_c ta_istore ?_
  refine tl_c ta_iload ?_
  refine tl_c ta_aload ?_
  refine tl_c ta_getI ?_
  refine tl_c ta_cmpge ?_
  refine tl_c ta_aload ?_
  refine tl_c ta_getI ?_
  refine tl_c ta_int ?_
  refine tl_c ta_cmpne ?_
  refine tl_c ta_aload ?_
  refine tl_c ta_cv ?_
  refine tl_c ta_aload ?_
  refine tl_c ta_iload ?_
  refine tl_c ta_cv ?_
  refine tl_c ta_aload ?_
  refine tl_c ta_int ?_
  refine tl_c ta_cv ?_
  refine tl_c ta_iinc ?_
  refine tl_c ta_goto ?_
  refine tl_c ta_vret ?_
  exact trivial
set_option maxRecDepth 20000 in
theorem ok_X9_either (l : Launch) (f : ce_F6) (g : Nat) (h : ce_c6 l (8 + g) f) (hr : ce_r6 f) : ce_OkL l cX9_either RX9 3 none (8 + g + 1) 0 0 pc_X9_either 0 (tb_X9_either f) := by
  unfold tb_X9_either
  refine ok_c (j := 1) rfl (ok_aload_n (j := ⟨0, by decide⟩) (pc := 0) rfl rfl (by decide +kernel)) ?_
  refine ok_c (j := 2) rfl (ok_iload_n (j := ⟨1, by decide⟩) (pc := 1) rfl rfl (by decide +kernel)) ?_
  refine ok_c (j := 3) rfl (ok_virtual (y := yX9_both) (n := 1) (d' := 8 + g) (t := 7) (T := TX9) (N := 11) (ix := 67) is_cv (pc := 2) rfl rfl (by decide +kernel) (by omega) h.2.1 rfl (fun _ => rfl) hr.2.1 wd_349 wd_351 wd_8 wd_58) ?_
  refine ok_c (j := 4) rfl (ok_iconst (n := 0) (pc := 5) rfl rfl (by decide +kernel) (by decide)) ?_
  refine ok_c (j := 5) rfl (ok_istore_n (j := ⟨2, by decide⟩) (pc := 6) rfl rfl (by decide +kernel) (by decide)) ?_
  refine ok_c (j := 6) rfl (ok_iload_n (j := ⟨2, by decide⟩) (pc := 7) rfl rfl (by decide +kernel)) ?_
  refine ok_c (j := 7) rfl (ok_aload_n (j := ⟨0, by decide⟩) (pc := 8) rfl rfl (by decide +kernel)) ?_
  refine ok_c (j := 8) rfl (ok_getI (ci := 9) (C := RX9) (T := TX9) (N := 11) (ix := 9) (pc := 9) rfl rfl (by decide +kernel) rfl (fun _ => rfl) rfl cw_X9 (by decide) rfl wd_96) ?_
  refine ok_c (j := 9) rfl (ok_cmpge (off := 33) (tg := 45) (pc := 12) rfl rfl (by decide +kernel) rfl (by decide)) ?_
  refine ok_c (j := 10) rfl (ok_aload_n (j := ⟨0, by decide⟩) (pc := 15) rfl rfl (by decide +kernel)) ?_
  refine ok_c (j := 11) rfl (ok_getI (ci := 9) (C := RX9) (T := TX9) (N := 11) (ix := 25) (pc := 16) rfl rfl (by decide +kernel) rfl (fun _ => rfl) rfl cw_X9 (by decide) rfl wd_101) ?_
  refine ok_c (j := 12) rfl (ok_bipush (n := (-9)) (pc := 19) rfl rfl (by decide +kernel) (by decide)) ?_
  refine ok_c (j := 13) rfl (ok_cmpne (off := 24) (tg := 45) (pc := 21) rfl rfl (by decide +kernel) rfl (by decide)) ?_
  refine ok_c (j := 14) rfl (ok_aload_n (j := ⟨0, by decide⟩) (pc := 24) rfl rfl (by decide +kernel)) ?_
  refine ok_c (j := 15) rfl (ok_virtual (y := yX9_advance) (n := 0) (d' := 7) (t := 7) (T := TX9) (N := 11) (ix := 46) is_cv (pc := 25) rfl rfl (by decide +kernel) (by omega) (ct_X9_advance l) rfl (fun _ => rfl) ce_fV_rec wd_291 wd_293 wd_0 wd_58) ?_
  refine ok_c (j := 16) rfl (ok_aload_n (j := ⟨0, by decide⟩) (pc := 28) rfl rfl (by decide +kernel)) ?_
  refine ok_c (j := 17) rfl (ok_iload_n (j := ⟨1, by decide⟩) (pc := 29) rfl rfl (by decide +kernel)) ?_
  refine ok_c (j := 18) rfl (ok_virtual (y := yX9_both) (n := 1) (d' := 8 + g) (t := 7) (T := TX9) (N := 11) (ix := 67) is_cv (pc := 30) rfl rfl (by decide +kernel) (by omega) h.2.1 rfl (fun _ => rfl) hr.2.1 wd_349 wd_351 wd_8 wd_58) ?_
  refine ok_c (j := 19) rfl (ok_aload_n (j := ⟨0, by decide⟩) (pc := 33) rfl rfl (by decide +kernel)) ?_
  refine ok_c (j := 20) rfl (ok_bipush (n := (-9)) (pc := 34) rfl rfl (by decide +kernel) (by decide)) ?_
  refine ok_c (j := 21) rfl (ok_virtual (y := yX9_emit) (n := 1) (d' := 1) (t := 7) (T := TX9) (N := 11) (ix := 70) is_cv (pc := 36) rfl rfl (by decide +kernel) (by omega) (ct_X9_emit l) rfl (fun _ => rfl) ce_fV_rec wd_357 wd_359 wd_10 wd_58) ?_
  refine ok_c (j := 22) rfl (ok_iinc (n := 1) (pc := 39) rfl rfl (by decide +kernel) (by decide) (by decide)) ?_
  refine ok_c (j := 23) rfl (ok_goto (off := (-35)) (tg := 7) (pc := 42) rfl (by decide +kernel) rfl (by decide)) ?_
  refine ok_c (j := 24) rfl (ok_vret (pc := 45) rfl (by decide +kernel) rfl) ?_
  exact trivial
noncomputable def F_X9_either (f : ce_F6) := ce_fV (tb_X9_either f) 3 (some 7)
theorem ct_X9_either (l : Launch) (f : ce_F6) (g : Nat) (h : ce_c6 l (8 + g) f) (hr : ce_r6 f) : ce_callee l yX9_either 1 (8 + g + 1) 0 0 (ce_wV (F_X9_either f)) := ⟨_, _, _, ce_ctr_of (pcs := pc_X9_either) (by decide +kernel) rfl (ok_X9_either l f g h hr) ce_fV_run, ce_tw_at wd_348 rfl, by decide, by decide +kernel, by decide +kernel, by decide +kernel⟩
def pc_X9_both : List Nat := [0, 1, 2, 5, 6, 7, 8, 9, 12, 15, 16, 19, 21, 24, 25, 28, 29, 30, 33, 34, 36, 39, 42, 45]
noncomputable def tb_X9_both (f : ce_F6) : List ce_Op := [o_aload 0, o_iload 1, o_cv 2 f.2.2.1 0 0 0 0, o_int 0, o_istore 2, o_iload 2, o_aload 0, o_getI 7 0, o_cmpge 23, o_aload 0, o_getI 7 4, o_int (-10), o_cmpne 23, o_aload 0, o_cv 1 F_X9_advance 0 0 0 0, o_aload 0, o_iload 1, o_cv 2 f.2.2.1 0 0 0 0, o_aload 0, o_int (-10), o_cv 2 F_X9_emit 0 0 0 0, o_iinc 2 1, o_goto 5, o_vret]
theorem tl_X9_both (f : ce_F6) : ce_TL (tb_X9_both f) := by
  unfold tb_X9_both
  refine tl_c ta_aload ?_
  refine tl_c ta_iload ?_
  refine tl_c ta_cv ?_
  refine tl_c ta_int ?_
  refine tl_c ta_istore ?_
  refine tl_c ta_iload ?_
  refine tl_c ta_aload ?_
  refine tl_c ta_getI ?_
  refine tl_c ta_cmpge ?_
  refine tl_c ta_aload ?_
  refine tl_c ta_getI ?_
  refine tl_c ta_int ?_
  refine tl_c ta_cmpne ?_
  refine tl_c ta_aload ?_
  refine tl_c ta_cv ?_
  refine tl_c ta_aload ?_
  refine tl_c ta_iload ?_
  refine tl_c ta_cv ?_
  refine tl_c ta_aload ?_
  refine tl_c ta_int ?_
  refine tl_c ta_cv ?_
  refine tl_c ta_iinc ?_
  refine tl_c ta_goto ?_
  refine tl_c ta_vret ?_
  exact trivial
set_option maxRecDepth 20000 in
theorem ok_X9_both (l : Launch) (f : ce_F6) (g : Nat) (h : ce_c6 l (8 + g) f) (hr : ce_r6 f) : ce_OkL l cX9_both RX9 3 none (8 + g + 1) 0 0 pc_X9_both 0 (tb_X9_both f) := by
  unfold tb_X9_both
  refine ok_c (j := 1) rfl (ok_aload_n (j := ⟨0, by decide⟩) (pc := 0) rfl rfl (by decide +kernel)) ?_
  refine ok_c (j := 2) rfl (ok_iload_n (j := ⟨1, by decide⟩) (pc := 1) rfl rfl (by decide +kernel)) ?_
  refine ok_c (j := 3) rfl (ok_virtual (y := yX9_denied) (n := 1) (d' := 8 + g) (t := 7) (T := TX9) (N := 11) (ix := 73) is_cv (pc := 2) rfl rfl (by decide +kernel) (by omega) h.2.2.1 rfl (fun _ => rfl) hr.2.2.1 wd_353 wd_355 wd_9 wd_58) ?_
  refine ok_c (j := 4) rfl (ok_iconst (n := 0) (pc := 5) rfl rfl (by decide +kernel) (by decide)) ?_
  refine ok_c (j := 5) rfl (ok_istore_n (j := ⟨2, by decide⟩) (pc := 6) rfl rfl (by decide +kernel) (by decide)) ?_
  refine ok_c (j := 6) rfl (ok_iload_n (j := ⟨2, by decide⟩) (pc := 7) rfl rfl (by decide +kernel)) ?_
  refine ok_c (j := 7) rfl (ok_aload_n (j := ⟨0, by decide⟩) (pc := 8) rfl rfl (by decide +kernel)) ?_
  refine ok_c (j := 8) rfl (ok_getI (ci := 9) (C := RX9) (T := TX9) (N := 11) (ix := 9) (pc := 9) rfl rfl (by decide +kernel) rfl (fun _ => rfl) rfl cw_X9 (by decide) rfl wd_96) ?_
  refine ok_c (j := 9) rfl (ok_cmpge (off := 33) (tg := 45) (pc := 12) rfl rfl (by decide +kernel) rfl (by decide)) ?_
  refine ok_c (j := 10) rfl (ok_aload_n (j := ⟨0, by decide⟩) (pc := 15) rfl rfl (by decide +kernel)) ?_
  refine ok_c (j := 11) rfl (ok_getI (ci := 9) (C := RX9) (T := TX9) (N := 11) (ix := 25) (pc := 16) rfl rfl (by decide +kernel) rfl (fun _ => rfl) rfl cw_X9 (by decide) rfl wd_101) ?_
  refine ok_c (j := 12) rfl (ok_bipush (n := (-10)) (pc := 19) rfl rfl (by decide +kernel) (by decide)) ?_
  refine ok_c (j := 13) rfl (ok_cmpne (off := 24) (tg := 45) (pc := 21) rfl rfl (by decide +kernel) rfl (by decide)) ?_
  refine ok_c (j := 14) rfl (ok_aload_n (j := ⟨0, by decide⟩) (pc := 24) rfl rfl (by decide +kernel)) ?_
  refine ok_c (j := 15) rfl (ok_virtual (y := yX9_advance) (n := 0) (d' := 7) (t := 7) (T := TX9) (N := 11) (ix := 46) is_cv (pc := 25) rfl rfl (by decide +kernel) (by omega) (ct_X9_advance l) rfl (fun _ => rfl) ce_fV_rec wd_291 wd_293 wd_0 wd_58) ?_
  refine ok_c (j := 16) rfl (ok_aload_n (j := ⟨0, by decide⟩) (pc := 28) rfl rfl (by decide +kernel)) ?_
  refine ok_c (j := 17) rfl (ok_iload_n (j := ⟨1, by decide⟩) (pc := 29) rfl rfl (by decide +kernel)) ?_
  refine ok_c (j := 18) rfl (ok_virtual (y := yX9_denied) (n := 1) (d' := 8 + g) (t := 7) (T := TX9) (N := 11) (ix := 73) is_cv (pc := 30) rfl rfl (by decide +kernel) (by omega) h.2.2.1 rfl (fun _ => rfl) hr.2.2.1 wd_353 wd_355 wd_9 wd_58) ?_
  refine ok_c (j := 19) rfl (ok_aload_n (j := ⟨0, by decide⟩) (pc := 33) rfl rfl (by decide +kernel)) ?_
  refine ok_c (j := 20) rfl (ok_bipush (n := (-10)) (pc := 34) rfl rfl (by decide +kernel) (by decide)) ?_
  refine ok_c (j := 21) rfl (ok_virtual (y := yX9_emit) (n := 1) (d' := 1) (t := 7) (T := TX9) (N := 11) (ix := 70) is_cv (pc := 36) rfl rfl (by decide +kernel) (by omega) (ct_X9_emit l) rfl (fun _ => rfl) ce_fV_rec wd_357 wd_359 wd_10 wd_58) ?_
  refine ok_c (j := 22) rfl (ok_iinc (n := 1) (pc := 39) rfl rfl (by decide +kernel) (by decide) (by decide)) ?_
  refine ok_c (j := 23) rfl (ok_goto (off := (-35)) (tg := 7) (pc := 42) rfl (by decide +kernel) rfl (by decide)) ?_
  refine ok_c (j := 24) rfl (ok_vret (pc := 45) rfl (by decide +kernel) rfl) ?_
  exact trivial
noncomputable def F_X9_both (f : ce_F6) := ce_fV (tb_X9_both f) 3 (some 7)
theorem ct_X9_both (l : Launch) (f : ce_F6) (g : Nat) (h : ce_c6 l (8 + g) f) (hr : ce_r6 f) : ce_callee l yX9_both 1 (8 + g + 1) 0 0 (ce_wV (F_X9_both f)) := ⟨_, _, _, ce_ctr_of (pcs := pc_X9_both) (by decide +kernel) rfl (ok_X9_both l f g h hr) ce_fV_run, ce_tw_at wd_352 rfl, by decide, by decide +kernel, by decide +kernel, by decide +kernel⟩
def pc_X9_denied : List Nat := [0, 1, 4, 6, 9, 10, 11, 14, 15, 18, 19, 20, 23, 24, 25, 26, 27, 30, 31, 33, 36, 37, 38, 39, 42, 43, 46, 48, 51, 52, 55, 57, 60, 61, 64, 65, 66, 69, 70, 71, 74, 75, 76, 79]
noncomputable def tb_X9_denied (f : ce_F6) : List ce_Op := [o_aload 0, o_getI 7 4, o_int (-7), o_cmpne 21, o_iload 1, o_int 5, o_cmplt 10, o_aload 0, o_cv 1 F_X9_fail 0 0 0 0, o_vret, o_aload 0, o_cv 1 F_X9_advance 0 0 0 0, o_aload 0, o_iload 1, o_int 1, o_bin q_add, o_cv 2 f.2.2.1 0 0 0 0, o_aload 0, o_int (-7), o_cv 2 F_X9_emit 0 0 0 0, o_vret, o_aload 0, o_iload 1, o_cv 2 f.2.2.2.1 0 0 0 0, o_aload 0, o_getI 7 4, o_int (-11), o_cmpeq 32, o_aload 0, o_getI 7 4, o_int (-12), o_cmpne 43, o_aload 0, o_getI 7 4, o_istore 2, o_aload 0, o_cv 1 F_X9_advance 0 0 0 0, o_aload 0, o_iload 1, o_cv 2 f.2.2.2.1 0 0 0 0, o_aload 0, o_iload 2, o_cv 2 F_X9_emit 0 0 0 0, o_vret]
theorem tl_X9_denied (f : ce_F6) : ce_TL (tb_X9_denied f) := by
  unfold tb_X9_denied
  refine tl_c ta_aload ?_
  refine tl_c ta_getI ?_
  refine tl_c ta_int ?_
  refine tl_c ta_cmpne ?_
  refine tl_c ta_iload ?_
  refine tl_c ta_int ?_
  refine tl_c ta_cmplt ?_
  refine tl_c ta_aload ?_
  refine tl_c ta_cv ?_
  refine tl_c ta_vret ?_
  refine tl_c ta_aload ?_
  refine tl_c ta_cv ?_
  refine tl_c ta_aload ?_
  refine tl_c ta_iload ?_
  refine tl_c ta_int ?_
  refine tl_c ta_bin ?_
  refine tl_c ta_cv ?_
  refine tl_c ta_aload ?_
  refine tl_c ta_int ?_
  refine tl_c ta_cv ?_
  refine tl_c ta_vret ?_
  refine tl_c ta_aload ?_
  refine tl_c ta_iload ?_
  refine tl_c ta_cv ?_
  refine tl_c ta_aload ?_
  refine tl_c ta_getI ?_
  refine tl_c ta_int ?_
  refine tl_c ta_cmpeq ?_
  refine tl_c ta_aload ?_
  refine tl_c ta_getI ?_
  refine tl_c ta_int ?_
  refine tl_c ta_cmpne ?_
  refine tl_c ta_aload ?_
  refine tl_c ta_getI ?_
  refine tl_c ta_istore ?_
  refine tl_c ta_aload ?_
  refine tl_c ta_cv ?_
  refine tl_c ta_aload ?_
  refine tl_c ta_iload ?_
  refine tl_c ta_cv ?_
  refine tl_c ta_aload ?_
  refine tl_c ta_iload ?_
  refine tl_c ta_cv ?_
  refine tl_c ta_vret ?_
  exact trivial
set_option maxRecDepth 20000 in
theorem ok_X9_denied (l : Launch) (f : ce_F6) (g : Nat) (h : ce_c6 l (8 + g) f) (hr : ce_r6 f) : ce_OkL l cX9_denied RX9 3 none (8 + g + 1) 0 0 pc_X9_denied 0 (tb_X9_denied f) := by
  unfold tb_X9_denied
  refine ok_c (j := 1) rfl (ok_aload_n (j := ⟨0, by decide⟩) (pc := 0) rfl rfl (by decide +kernel)) ?_
  refine ok_c (j := 2) rfl (ok_getI (ci := 9) (C := RX9) (T := TX9) (N := 11) (ix := 25) (pc := 1) rfl rfl (by decide +kernel) rfl (fun _ => rfl) rfl cw_X9 (by decide) rfl wd_101) ?_
  refine ok_c (j := 3) rfl (ok_bipush (n := (-7)) (pc := 4) rfl rfl (by decide +kernel) (by decide)) ?_
  refine ok_c (j := 4) rfl (ok_cmpne (off := 31) (tg := 37) (pc := 6) rfl rfl (by decide +kernel) rfl (by decide)) ?_
  refine ok_c (j := 5) rfl (ok_iload_n (j := ⟨1, by decide⟩) (pc := 9) rfl rfl (by decide +kernel)) ?_
  refine ok_c (j := 6) rfl (ok_iconst (n := 5) (pc := 10) rfl rfl (by decide +kernel) (by decide)) ?_
  refine ok_c (j := 7) rfl (ok_cmplt (off := 8) (tg := 19) (pc := 11) rfl rfl (by decide +kernel) rfl (by decide)) ?_
  refine ok_c (j := 8) rfl (ok_aload_n (j := ⟨0, by decide⟩) (pc := 14) rfl rfl (by decide +kernel)) ?_
  refine ok_c (j := 9) rfl (ok_virtual (y := yX9_fail) (n := 0) (d' := 1) (t := 7) (T := TX9) (N := 11) (ix := 53) is_cv (pc := 15) rfl rfl (by decide +kernel) (by omega) (ct_X9_fail l) rfl (fun _ => rfl) ce_fV_rec wd_341 wd_343 wd_6 wd_58) ?_
  refine ok_c (j := 10) rfl (ok_vret (pc := 18) rfl (by decide +kernel) rfl) ?_
  refine ok_c (j := 11) rfl (ok_aload_n (j := ⟨0, by decide⟩) (pc := 19) rfl rfl (by decide +kernel)) ?_
  refine ok_c (j := 12) rfl (ok_virtual (y := yX9_advance) (n := 0) (d' := 7) (t := 7) (T := TX9) (N := 11) (ix := 46) is_cv (pc := 20) rfl rfl (by decide +kernel) (by omega) (ct_X9_advance l) rfl (fun _ => rfl) ce_fV_rec wd_291 wd_293 wd_0 wd_58) ?_
  refine ok_c (j := 13) rfl (ok_aload_n (j := ⟨0, by decide⟩) (pc := 23) rfl rfl (by decide +kernel)) ?_
  refine ok_c (j := 14) rfl (ok_iload_n (j := ⟨1, by decide⟩) (pc := 24) rfl rfl (by decide +kernel)) ?_
  refine ok_c (j := 15) rfl (ok_iconst (n := 1) (pc := 25) rfl rfl (by decide +kernel) (by decide)) ?_
  refine ok_c (j := 16) rfl (ok_iadd (pc := 26) rfl rfl (by decide +kernel)) ?_
  refine ok_c (j := 17) rfl (ok_virtual (y := yX9_denied) (n := 1) (d' := 8 + g) (t := 7) (T := TX9) (N := 11) (ix := 73) is_cv (pc := 27) rfl rfl (by decide +kernel) (by omega) h.2.2.1 rfl (fun _ => rfl) hr.2.2.1 wd_353 wd_355 wd_9 wd_58) ?_
  refine ok_c (j := 18) rfl (ok_aload_n (j := ⟨0, by decide⟩) (pc := 30) rfl rfl (by decide +kernel)) ?_
  refine ok_c (j := 19) rfl (ok_bipush (n := (-7)) (pc := 31) rfl rfl (by decide +kernel) (by decide)) ?_
  refine ok_c (j := 20) rfl (ok_virtual (y := yX9_emit) (n := 1) (d' := 1) (t := 7) (T := TX9) (N := 11) (ix := 70) is_cv (pc := 33) rfl rfl (by decide +kernel) (by omega) (ct_X9_emit l) rfl (fun _ => rfl) ce_fV_rec wd_357 wd_359 wd_10 wd_58) ?_
  refine ok_c (j := 21) rfl (ok_vret (pc := 36) rfl (by decide +kernel) rfl) ?_
  refine ok_c (j := 22) rfl (ok_aload_n (j := ⟨0, by decide⟩) (pc := 37) rfl rfl (by decide +kernel)) ?_
  refine ok_c (j := 23) rfl (ok_iload_n (j := ⟨1, by decide⟩) (pc := 38) rfl rfl (by decide +kernel)) ?_
  refine ok_c (j := 24) rfl (ok_virtual (y := yX9_sum) (n := 1) (d' := 8 + g) (t := 7) (T := TX9) (N := 11) (ix := 76) is_cv (pc := 39) rfl rfl (by decide +kernel) (by omega) h.2.2.2.1 rfl (fun _ => rfl) hr.2.2.2.1 wd_361 wd_363 wd_11 wd_58) ?_
  refine ok_c (j := 25) rfl (ok_aload_n (j := ⟨0, by decide⟩) (pc := 42) rfl rfl (by decide +kernel)) ?_
  refine ok_c (j := 26) rfl (ok_getI (ci := 9) (C := RX9) (T := TX9) (N := 11) (ix := 25) (pc := 43) rfl rfl (by decide +kernel) rfl (fun _ => rfl) rfl cw_X9 (by decide) rfl wd_101) ?_
  refine ok_c (j := 27) rfl (ok_bipush (n := (-11)) (pc := 46) rfl rfl (by decide +kernel) (by decide)) ?_
  refine ok_c (j := 28) rfl (ok_cmpeq (off := 12) (tg := 60) (pc := 48) rfl rfl (by decide +kernel) rfl (by decide)) ?_
  refine ok_c (j := 29) rfl (ok_aload_n (j := ⟨0, by decide⟩) (pc := 51) rfl rfl (by decide +kernel)) ?_
  refine ok_c (j := 30) rfl (ok_getI (ci := 9) (C := RX9) (T := TX9) (N := 11) (ix := 25) (pc := 52) rfl rfl (by decide +kernel) rfl (fun _ => rfl) rfl cw_X9 (by decide) rfl wd_101) ?_
  refine ok_c (j := 31) rfl (ok_bipush (n := (-12)) (pc := 55) rfl rfl (by decide +kernel) (by decide)) ?_
  refine ok_c (j := 32) rfl (ok_cmpne (off := 22) (tg := 79) (pc := 57) rfl rfl (by decide +kernel) rfl (by decide)) ?_
  refine ok_c (j := 33) rfl (ok_aload_n (j := ⟨0, by decide⟩) (pc := 60) rfl rfl (by decide +kernel)) ?_
  refine ok_c (j := 34) rfl (ok_getI (ci := 9) (C := RX9) (T := TX9) (N := 11) (ix := 25) (pc := 61) rfl rfl (by decide +kernel) rfl (fun _ => rfl) rfl cw_X9 (by decide) rfl wd_101) ?_
  refine ok_c (j := 35) rfl (ok_istore_n (j := ⟨2, by decide⟩) (pc := 64) rfl rfl (by decide +kernel) (by decide)) ?_
  refine ok_c (j := 36) rfl (ok_aload_n (j := ⟨0, by decide⟩) (pc := 65) rfl rfl (by decide +kernel)) ?_
  refine ok_c (j := 37) rfl (ok_virtual (y := yX9_advance) (n := 0) (d' := 7) (t := 7) (T := TX9) (N := 11) (ix := 46) is_cv (pc := 66) rfl rfl (by decide +kernel) (by omega) (ct_X9_advance l) rfl (fun _ => rfl) ce_fV_rec wd_291 wd_293 wd_0 wd_58) ?_
  refine ok_c (j := 38) rfl (ok_aload_n (j := ⟨0, by decide⟩) (pc := 69) rfl rfl (by decide +kernel)) ?_
  refine ok_c (j := 39) rfl (ok_iload_n (j := ⟨1, by decide⟩) (pc := 70) rfl rfl (by decide +kernel)) ?_
  refine ok_c (j := 40) rfl (ok_virtual (y := yX9_sum) (n := 1) (d' := 8 + g) (t := 7) (T := TX9) (N := 11) (ix := 76) is_cv (pc := 71) rfl rfl (by decide +kernel) (by omega) h.2.2.2.1 rfl (fun _ => rfl) hr.2.2.2.1 wd_361 wd_363 wd_11 wd_58) ?_
  refine ok_c (j := 41) rfl (ok_aload_n (j := ⟨0, by decide⟩) (pc := 74) rfl rfl (by decide +kernel)) ?_
  refine ok_c (j := 42) rfl (ok_iload_n (j := ⟨2, by decide⟩) (pc := 75) rfl rfl (by decide +kernel)) ?_
  refine ok_c (j := 43) rfl (ok_virtual (y := yX9_emit) (n := 1) (d' := 1) (t := 7) (T := TX9) (N := 11) (ix := 70) is_cv (pc := 76) rfl rfl (by decide +kernel) (by omega) (ct_X9_emit l) rfl (fun _ => rfl) ce_fV_rec wd_357 wd_359 wd_10 wd_58) ?_
  refine ok_c (j := 44) rfl (ok_vret (pc := 79) rfl (by decide +kernel) rfl) ?_
  exact trivial
noncomputable def F_X9_denied (f : ce_F6) := ce_fV (tb_X9_denied f) 3 (some 7)
theorem ct_X9_denied (l : Launch) (f : ce_F6) (g : Nat) (h : ce_c6 l (8 + g) f) (hr : ce_r6 f) : ce_callee l yX9_denied 1 (8 + g + 1) 0 0 (ce_wV (F_X9_denied f)) := ⟨_, _, _, ce_ctr_of (pcs := pc_X9_denied) (by decide +kernel) rfl (ok_X9_denied l f g h hr) ce_fV_run, ce_tw_at wd_356 rfl, by decide, by decide +kernel, by decide +kernel, by decide +kernel⟩
def pc_X9_sum : List Nat := [0, 1, 2, 5, 6, 7, 8, 9, 12, 15, 16, 19, 21, 24, 25, 28, 30, 33, 34, 37, 38, 39, 42, 43, 44, 47, 48, 49, 52, 55, 58]
noncomputable def tb_X9_sum (f : ce_F6) : List ce_Op := [o_aload 0, o_iload 1, o_cv 2 f.2.2.2.2.1 0 0 0 0, o_int 0, o_istore 2, o_iload 2, o_aload 0, o_getI 7 0, o_cmpge 30, o_aload 0, o_getI 7 4, o_int (-13), o_cmpeq 17, o_aload 0, o_getI 7 4, o_int (-14), o_cmpne 30, o_aload 0, o_getI 7 4, o_istore 3, o_aload 0, o_cv 1 F_X9_advance 0 0 0 0, o_aload 0, o_iload 1, o_cv 2 f.2.2.2.2.1 0 0 0 0, o_aload 0, o_iload 3, o_cv 2 F_X9_emit 0 0 0 0, o_iinc 2 1, o_goto 5, o_vret]
theorem tl_X9_sum (f : ce_F6) : ce_TL (tb_X9_sum f) := by
  unfold tb_X9_sum
  refine tl_c ta_aload ?_
  refine tl_c ta_iload ?_
  refine tl_c ta_cv ?_
  refine tl_c ta_int ?_
  refine tl_c ta_istore ?_
  refine tl_c ta_iload ?_
  refine tl_c ta_aload ?_
  refine tl_c ta_getI ?_
  refine tl_c ta_cmpge ?_
  refine tl_c ta_aload ?_
  refine tl_c ta_getI ?_
  refine tl_c ta_int ?_
  refine tl_c ta_cmpeq ?_
  refine tl_c ta_aload ?_
  refine tl_c ta_getI ?_
  refine tl_c ta_int ?_
  refine tl_c ta_cmpne ?_
  refine tl_c ta_aload ?_
  refine tl_c ta_getI ?_
  refine tl_c ta_istore ?_
  refine tl_c ta_aload ?_
  refine tl_c ta_cv ?_
  refine tl_c ta_aload ?_
  refine tl_c ta_iload ?_
  refine tl_c ta_cv ?_
  refine tl_c ta_aload ?_
  refine tl_c ta_iload ?_
  refine tl_c ta_cv ?_
  refine tl_c ta_iinc ?_
  refine tl_c ta_goto ?_
  refine tl_c ta_vret ?_
  exact trivial
set_option maxRecDepth 20000 in
theorem ok_X9_sum (l : Launch) (f : ce_F6) (g : Nat) (h : ce_c6 l (8 + g) f) (hr : ce_r6 f) : ce_OkL l cX9_sum RX9 4 none (8 + g + 1) 0 0 pc_X9_sum 0 (tb_X9_sum f) := by
  unfold tb_X9_sum
  refine ok_c (j := 1) rfl (ok_aload_n (j := ⟨0, by decide⟩) (pc := 0) rfl rfl (by decide +kernel)) ?_
  refine ok_c (j := 2) rfl (ok_iload_n (j := ⟨1, by decide⟩) (pc := 1) rfl rfl (by decide +kernel)) ?_
  refine ok_c (j := 3) rfl (ok_virtual (y := yX9_term) (n := 1) (d' := 8 + g) (t := 7) (T := TX9) (N := 11) (ix := 79) is_cv (pc := 2) rfl rfl (by decide +kernel) (by omega) h.2.2.2.2.1 rfl (fun _ => rfl) hr.2.2.2.2.1 wd_365 wd_367 wd_12 wd_58) ?_
  refine ok_c (j := 4) rfl (ok_iconst (n := 0) (pc := 5) rfl rfl (by decide +kernel) (by decide)) ?_
  refine ok_c (j := 5) rfl (ok_istore_n (j := ⟨2, by decide⟩) (pc := 6) rfl rfl (by decide +kernel) (by decide)) ?_
  refine ok_c (j := 6) rfl (ok_iload_n (j := ⟨2, by decide⟩) (pc := 7) rfl rfl (by decide +kernel)) ?_
  refine ok_c (j := 7) rfl (ok_aload_n (j := ⟨0, by decide⟩) (pc := 8) rfl rfl (by decide +kernel)) ?_
  refine ok_c (j := 8) rfl (ok_getI (ci := 9) (C := RX9) (T := TX9) (N := 11) (ix := 9) (pc := 9) rfl rfl (by decide +kernel) rfl (fun _ => rfl) rfl cw_X9 (by decide) rfl wd_96) ?_
  refine ok_c (j := 9) rfl (ok_cmpge (off := 46) (tg := 58) (pc := 12) rfl rfl (by decide +kernel) rfl (by decide)) ?_
  refine ok_c (j := 10) rfl (ok_aload_n (j := ⟨0, by decide⟩) (pc := 15) rfl rfl (by decide +kernel)) ?_
  refine ok_c (j := 11) rfl (ok_getI (ci := 9) (C := RX9) (T := TX9) (N := 11) (ix := 25) (pc := 16) rfl rfl (by decide +kernel) rfl (fun _ => rfl) rfl cw_X9 (by decide) rfl wd_101) ?_
  refine ok_c (j := 12) rfl (ok_bipush (n := (-13)) (pc := 19) rfl rfl (by decide +kernel) (by decide)) ?_
  refine ok_c (j := 13) rfl (ok_cmpeq (off := 12) (tg := 33) (pc := 21) rfl rfl (by decide +kernel) rfl (by decide)) ?_
  refine ok_c (j := 14) rfl (ok_aload_n (j := ⟨0, by decide⟩) (pc := 24) rfl rfl (by decide +kernel)) ?_
  refine ok_c (j := 15) rfl (ok_getI (ci := 9) (C := RX9) (T := TX9) (N := 11) (ix := 25) (pc := 25) rfl rfl (by decide +kernel) rfl (fun _ => rfl) rfl cw_X9 (by decide) rfl wd_101) ?_
  refine ok_c (j := 16) rfl (ok_bipush (n := (-14)) (pc := 28) rfl rfl (by decide +kernel) (by decide)) ?_
  refine ok_c (j := 17) rfl (ok_cmpne (off := 28) (tg := 58) (pc := 30) rfl rfl (by decide +kernel) rfl (by decide)) ?_
  refine ok_c (j := 18) rfl (ok_aload_n (j := ⟨0, by decide⟩) (pc := 33) rfl rfl (by decide +kernel)) ?_
  refine ok_c (j := 19) rfl (ok_getI (ci := 9) (C := RX9) (T := TX9) (N := 11) (ix := 25) (pc := 34) rfl rfl (by decide +kernel) rfl (fun _ => rfl) rfl cw_X9 (by decide) rfl wd_101) ?_
  refine ok_c (j := 20) rfl (ok_istore_n (j := ⟨3, by decide⟩) (pc := 37) rfl rfl (by decide +kernel) (by decide)) ?_
  refine ok_c (j := 21) rfl (ok_aload_n (j := ⟨0, by decide⟩) (pc := 38) rfl rfl (by decide +kernel)) ?_
  refine ok_c (j := 22) rfl (ok_virtual (y := yX9_advance) (n := 0) (d' := 7) (t := 7) (T := TX9) (N := 11) (ix := 46) is_cv (pc := 39) rfl rfl (by decide +kernel) (by omega) (ct_X9_advance l) rfl (fun _ => rfl) ce_fV_rec wd_291 wd_293 wd_0 wd_58) ?_
  refine ok_c (j := 23) rfl (ok_aload_n (j := ⟨0, by decide⟩) (pc := 42) rfl rfl (by decide +kernel)) ?_
  refine ok_c (j := 24) rfl (ok_iload_n (j := ⟨1, by decide⟩) (pc := 43) rfl rfl (by decide +kernel)) ?_
  refine ok_c (j := 25) rfl (ok_virtual (y := yX9_term) (n := 1) (d' := 8 + g) (t := 7) (T := TX9) (N := 11) (ix := 79) is_cv (pc := 44) rfl rfl (by decide +kernel) (by omega) h.2.2.2.2.1 rfl (fun _ => rfl) hr.2.2.2.2.1 wd_365 wd_367 wd_12 wd_58) ?_
  refine ok_c (j := 26) rfl (ok_aload_n (j := ⟨0, by decide⟩) (pc := 47) rfl rfl (by decide +kernel)) ?_
  refine ok_c (j := 27) rfl (ok_iload_n (j := ⟨3, by decide⟩) (pc := 48) rfl rfl (by decide +kernel)) ?_
  refine ok_c (j := 28) rfl (ok_virtual (y := yX9_emit) (n := 1) (d' := 1) (t := 7) (T := TX9) (N := 11) (ix := 70) is_cv (pc := 49) rfl rfl (by decide +kernel) (by omega) (ct_X9_emit l) rfl (fun _ => rfl) ce_fV_rec wd_357 wd_359 wd_10 wd_58) ?_
  refine ok_c (j := 29) rfl (ok_iinc (n := 1) (pc := 52) rfl rfl (by decide +kernel) (by decide) (by decide)) ?_
  refine ok_c (j := 30) rfl (ok_goto (off := (-48)) (tg := 7) (pc := 55) rfl (by decide +kernel) rfl (by decide)) ?_
  refine ok_c (j := 31) rfl (ok_vret (pc := 58) rfl (by decide +kernel) rfl) ?_
  exact trivial
noncomputable def F_X9_sum (f : ce_F6) := ce_fV (tb_X9_sum f) 4 (some 7)
theorem ct_X9_sum (l : Launch) (f : ce_F6) (g : Nat) (h : ce_c6 l (8 + g) f) (hr : ce_r6 f) : ce_callee l yX9_sum 1 (8 + g + 1) 0 0 (ce_wV (F_X9_sum f)) := ⟨_, _, _, ce_ctr_of (pcs := pc_X9_sum) (by decide +kernel) rfl (ok_X9_sum l f g h hr) ce_fV_run, ce_tw_at wd_364 rfl, by decide, by decide +kernel, by decide +kernel, by decide +kernel⟩
def pc_X9_term : List Nat := [0, 1, 2, 5, 6, 7, 8, 9, 12, 15, 16, 19, 21, 24, 25, 28, 29, 30, 33, 34, 36, 39, 42, 45]
noncomputable def tb_X9_term (f : ce_F6) : List ce_Op := [o_aload 0, o_iload 1, o_cv 2 f.2.2.2.2.2 0 0 0 0, o_int 0, o_istore 2, o_iload 2, o_aload 0, o_getI 7 0, o_cmpge 23, o_aload 0, o_getI 7 4, o_int (-15), o_cmpne 23, o_aload 0, o_cv 1 F_X9_advance 0 0 0 0, o_aload 0, o_iload 1, o_cv 2 f.2.2.2.2.2 0 0 0 0, o_aload 0, o_int (-15), o_cv 2 F_X9_emit 0 0 0 0, o_iinc 2 1, o_goto 5, o_vret]
theorem tl_X9_term (f : ce_F6) : ce_TL (tb_X9_term f) := by
  unfold tb_X9_term
  refine tl_c ta_aload ?_
  refine tl_c ta_iload ?_
  refine tl_c ta_cv ?_
  refine tl_c ta_int ?_
  refine tl_c ta_istore ?_
  refine tl_c ta_iload ?_
  refine tl_c ta_aload ?_
  refine tl_c ta_getI ?_
  refine tl_c ta_cmpge ?_
  refine tl_c ta_aload ?_
  refine tl_c ta_getI ?_
  refine tl_c ta_int ?_
  refine tl_c ta_cmpne ?_
  refine tl_c ta_aload ?_
  refine tl_c ta_cv ?_
  refine tl_c ta_aload ?_
  refine tl_c ta_iload ?_
  refine tl_c ta_cv ?_
  refine tl_c ta_aload ?_
  refine tl_c ta_int ?_
  refine tl_c ta_cv ?_
  refine tl_c ta_iinc ?_
  refine tl_c ta_goto ?_
  refine tl_c ta_vret ?_
  exact trivial
set_option maxRecDepth 20000 in
theorem ok_X9_term (l : Launch) (f : ce_F6) (g : Nat) (h : ce_c6 l (8 + g) f) (hr : ce_r6 f) : ce_OkL l cX9_term RX9 3 none (8 + g + 1) 0 0 pc_X9_term 0 (tb_X9_term f) := by
  unfold tb_X9_term
  refine ok_c (j := 1) rfl (ok_aload_n (j := ⟨0, by decide⟩) (pc := 0) rfl rfl (by decide +kernel)) ?_
  refine ok_c (j := 2) rfl (ok_iload_n (j := ⟨1, by decide⟩) (pc := 1) rfl rfl (by decide +kernel)) ?_
  refine ok_c (j := 3) rfl (ok_virtual (y := yX9_one) (n := 1) (d' := 8 + g) (t := 7) (T := TX9) (N := 11) (ix := 82) is_cv (pc := 2) rfl rfl (by decide +kernel) (by omega) h.2.2.2.2.2 rfl (fun _ => rfl) hr.2.2.2.2.2 wd_369 wd_371 wd_13 wd_58) ?_
  refine ok_c (j := 4) rfl (ok_iconst (n := 0) (pc := 5) rfl rfl (by decide +kernel) (by decide)) ?_
  refine ok_c (j := 5) rfl (ok_istore_n (j := ⟨2, by decide⟩) (pc := 6) rfl rfl (by decide +kernel) (by decide)) ?_
  refine ok_c (j := 6) rfl (ok_iload_n (j := ⟨2, by decide⟩) (pc := 7) rfl rfl (by decide +kernel)) ?_
  refine ok_c (j := 7) rfl (ok_aload_n (j := ⟨0, by decide⟩) (pc := 8) rfl rfl (by decide +kernel)) ?_
  refine ok_c (j := 8) rfl (ok_getI (ci := 9) (C := RX9) (T := TX9) (N := 11) (ix := 9) (pc := 9) rfl rfl (by decide +kernel) rfl (fun _ => rfl) rfl cw_X9 (by decide) rfl wd_96) ?_
  refine ok_c (j := 9) rfl (ok_cmpge (off := 33) (tg := 45) (pc := 12) rfl rfl (by decide +kernel) rfl (by decide)) ?_
  refine ok_c (j := 10) rfl (ok_aload_n (j := ⟨0, by decide⟩) (pc := 15) rfl rfl (by decide +kernel)) ?_
  refine ok_c (j := 11) rfl (ok_getI (ci := 9) (C := RX9) (T := TX9) (N := 11) (ix := 25) (pc := 16) rfl rfl (by decide +kernel) rfl (fun _ => rfl) rfl cw_X9 (by decide) rfl wd_101) ?_
  refine ok_c (j := 12) rfl (ok_bipush (n := (-15)) (pc := 19) rfl rfl (by decide +kernel) (by decide)) ?_
  refine ok_c (j := 13) rfl (ok_cmpne (off := 24) (tg := 45) (pc := 21) rfl rfl (by decide +kernel) rfl (by decide)) ?_
  refine ok_c (j := 14) rfl (ok_aload_n (j := ⟨0, by decide⟩) (pc := 24) rfl rfl (by decide +kernel)) ?_
  refine ok_c (j := 15) rfl (ok_virtual (y := yX9_advance) (n := 0) (d' := 7) (t := 7) (T := TX9) (N := 11) (ix := 46) is_cv (pc := 25) rfl rfl (by decide +kernel) (by omega) (ct_X9_advance l) rfl (fun _ => rfl) ce_fV_rec wd_291 wd_293 wd_0 wd_58) ?_
  refine ok_c (j := 16) rfl (ok_aload_n (j := ⟨0, by decide⟩) (pc := 28) rfl rfl (by decide +kernel)) ?_
  refine ok_c (j := 17) rfl (ok_iload_n (j := ⟨1, by decide⟩) (pc := 29) rfl rfl (by decide +kernel)) ?_
  refine ok_c (j := 18) rfl (ok_virtual (y := yX9_one) (n := 1) (d' := 8 + g) (t := 7) (T := TX9) (N := 11) (ix := 82) is_cv (pc := 30) rfl rfl (by decide +kernel) (by omega) h.2.2.2.2.2 rfl (fun _ => rfl) hr.2.2.2.2.2 wd_369 wd_371 wd_13 wd_58) ?_
  refine ok_c (j := 19) rfl (ok_aload_n (j := ⟨0, by decide⟩) (pc := 33) rfl rfl (by decide +kernel)) ?_
  refine ok_c (j := 20) rfl (ok_bipush (n := (-15)) (pc := 34) rfl rfl (by decide +kernel) (by decide)) ?_
  refine ok_c (j := 21) rfl (ok_virtual (y := yX9_emit) (n := 1) (d' := 1) (t := 7) (T := TX9) (N := 11) (ix := 70) is_cv (pc := 36) rfl rfl (by decide +kernel) (by omega) (ct_X9_emit l) rfl (fun _ => rfl) ce_fV_rec wd_357 wd_359 wd_10 wd_58) ?_
  refine ok_c (j := 22) rfl (ok_iinc (n := 1) (pc := 39) rfl rfl (by decide +kernel) (by decide) (by decide)) ?_
  refine ok_c (j := 23) rfl (ok_goto (off := (-35)) (tg := 7) (pc := 42) rfl (by decide +kernel) rfl (by decide)) ?_
  refine ok_c (j := 24) rfl (ok_vret (pc := 45) rfl (by decide +kernel) rfl) ?_
  exact trivial
noncomputable def F_X9_term (f : ce_F6) := ce_fV (tb_X9_term f) 3 (some 7)
theorem ct_X9_term (l : Launch) (f : ce_F6) (g : Nat) (h : ce_c6 l (8 + g) f) (hr : ce_r6 f) : ce_callee l yX9_term 1 (8 + g + 1) 0 0 (ce_wV (F_X9_term f)) := ⟨_, _, _, ce_ctr_of (pcs := pc_X9_term) (by decide +kernel) rfl (ok_X9_term l f g h hr) ce_fV_run, ce_tw_at wd_368 rfl, by decide, by decide +kernel, by decide +kernel, by decide +kernel⟩
def pc_X9_one : List Nat := [0, 1, 4, 5, 8, 9, 10, 13, 16, 17, 20, 23, 24, 27, 28, 31, 32, 35, 37, 40, 41, 42, 45, 48, 49, 52, 55, 56, 59, 61, 64, 65, 66, 69, 70, 73, 74, 75, 76, 77, 80, 81, 83, 86, 89, 90, 93, 94, 97, 98, 99, 102, 103, 106, 107, 108, 109, 110, 113, 114, 116, 119, 122, 123, 126]
noncomputable def tb_X9_one (f : ce_F6) : List ce_Op := [o_aload 0, o_getI 7 4, o_int 1, o_cmpne 11, o_aload 0, o_aload 0, o_getI 7 6, o_cv 2 F_X9_emit 0 0 0 0, o_aload 0, o_cv 1 F_X9_advance 0 0 0 0, o_goto 64, o_aload 0, o_getI 7 4, o_int (-1), o_cmpgt 26, o_aload 0, o_getI 7 4, o_int (-6), o_cmplt 26, o_aload 0, o_aload 0, o_getI 7 4, o_cv 2 F_X9_emit 0 0 0 0, o_aload 0, o_cv 1 F_X9_advance 0 0 0 0, o_goto 64, o_aload 0, o_getI 7 4, o_int (-14), o_cmpne 44, o_iload 1, o_int 5, o_cmpge 44, o_aload 0, o_cv 1 F_X9_advance 0 0 0 0, o_aload 0, o_iload 1, o_int 1, o_bin q_add, o_cv 2 f.2.2.2.2.2 0 0 0 0, o_aload 0, o_int (-8), o_cv 2 F_X9_emit 0 0 0 0, o_goto 64, o_aload 0, o_getI 7 4, o_int 5, o_cmpne 62, o_iload 1, o_int 5, o_cmpge 62, o_aload 0, o_cv 1 F_X9_advance 0 0 0 0, o_aload 0, o_iload 1, o_int 1, o_bin q_add, o_cv 2 f.1 0 0 0 0, o_aload 0, o_int 6, o_cv 2 F_X9_expect 0 0 0 0, o_goto 64, o_aload 0, o_cv 1 F_X9_fail 0 0 0 0, o_vret]
theorem tl_X9_one (f : ce_F6) : ce_TL (tb_X9_one f) := by
  unfold tb_X9_one
  refine tl_c ta_aload ?_
  refine tl_c ta_getI ?_
  refine tl_c ta_int ?_
  refine tl_c ta_cmpne ?_
  refine tl_c ta_aload ?_
  refine tl_c ta_aload ?_
  refine tl_c ta_getI ?_
  refine tl_c ta_cv ?_
  refine tl_c ta_aload ?_
  refine tl_c ta_cv ?_
  refine tl_c ta_goto ?_
  refine tl_c ta_aload ?_
  refine tl_c ta_getI ?_
  refine tl_c ta_int ?_
  refine tl_c ta_cmpgt ?_
  refine tl_c ta_aload ?_
  refine tl_c ta_getI ?_
  refine tl_c ta_int ?_
  refine tl_c ta_cmplt ?_
  refine tl_c ta_aload ?_
  refine tl_c ta_aload ?_
  refine tl_c ta_getI ?_
  refine tl_c ta_cv ?_
  refine tl_c ta_aload ?_
  refine tl_c ta_cv ?_
  refine tl_c ta_goto ?_
  refine tl_c ta_aload ?_
  refine tl_c ta_getI ?_
  refine tl_c ta_int ?_
  refine tl_c ta_cmpne ?_
  refine tl_c ta_iload ?_
  refine tl_c ta_int ?_
  refine tl_c ta_cmpge ?_
  refine tl_c ta_aload ?_
  refine tl_c ta_cv ?_
  refine tl_c ta_aload ?_
  refine tl_c ta_iload ?_
  refine tl_c ta_int ?_
  refine tl_c ta_bin ?_
  refine tl_c ta_cv ?_
  refine tl_c ta_aload ?_
  refine tl_c ta_int ?_
  refine tl_c ta_cv ?_
  refine tl_c ta_goto ?_
  refine tl_c ta_aload ?_
  refine tl_c ta_getI ?_
  refine tl_c ta_int ?_
  refine tl_c ta_cmpne ?_
  refine tl_c ta_iload ?_
  refine tl_c ta_int ?_
  refine tl_c ta_cmpge ?_
  refine tl_c ta_aload ?_
  refine tl_c ta_cv ?_
  refine tl_c ta_aload ?_
  refine tl_c ta_iload ?_
  refine tl_c ta_int ?_
  refine tl_c ta_bin ?_
  refine tl_c ta_cv ?_
  refine tl_c ta_aload ?_
  refine tl_c ta_int ?_
  refine tl_c ta_cv ?_
  refine tl_c ta_goto ?_
  refine tl_c ta_aload ?_
  refine tl_c ta_cv ?_
  refine tl_c ta_vret ?_
  exact trivial
set_option maxRecDepth 20000 in
theorem ok_X9_one (l : Launch) (f : ce_F6) (g : Nat) (h : ce_c6 l (8 + g) f) (hr : ce_r6 f) : ce_OkL l cX9_one RX9 2 none (8 + g + 1) 0 0 pc_X9_one 0 (tb_X9_one f) := by
  unfold tb_X9_one
  refine ok_c (j := 1) rfl (ok_aload_n (j := ⟨0, by decide⟩) (pc := 0) rfl rfl (by decide +kernel)) ?_
  refine ok_c (j := 2) rfl (ok_getI (ci := 9) (C := RX9) (T := TX9) (N := 11) (ix := 25) (pc := 1) rfl rfl (by decide +kernel) rfl (fun _ => rfl) rfl cw_X9 (by decide) rfl wd_101) ?_
  refine ok_c (j := 3) rfl (ok_iconst (n := 1) (pc := 4) rfl rfl (by decide +kernel) (by decide)) ?_
  refine ok_c (j := 4) rfl (ok_cmpne (off := 18) (tg := 23) (pc := 5) rfl rfl (by decide +kernel) rfl (by decide)) ?_
  refine ok_c (j := 5) rfl (ok_aload_n (j := ⟨0, by decide⟩) (pc := 8) rfl rfl (by decide +kernel)) ?_
  refine ok_c (j := 6) rfl (ok_aload_n (j := ⟨0, by decide⟩) (pc := 9) rfl rfl (by decide +kernel)) ?_
  refine ok_c (j := 7) rfl (ok_getI (ci := 9) (C := RX9) (T := TX9) (N := 11) (ix := 31) (pc := 10) rfl rfl (by decide +kernel) rfl (fun _ => rfl) rfl cw_X9 (by decide) rfl wd_103) ?_
  refine ok_c (j := 8) rfl (ok_virtual (y := yX9_emit) (n := 1) (d' := 1) (t := 7) (T := TX9) (N := 11) (ix := 70) is_cv (pc := 13) rfl rfl (by decide +kernel) (by omega) (ct_X9_emit l) rfl (fun _ => rfl) ce_fV_rec wd_357 wd_359 wd_10 wd_58) ?_
  refine ok_c (j := 9) rfl (ok_aload_n (j := ⟨0, by decide⟩) (pc := 16) rfl rfl (by decide +kernel)) ?_
  refine ok_c (j := 10) rfl (ok_virtual (y := yX9_advance) (n := 0) (d' := 7) (t := 7) (T := TX9) (N := 11) (ix := 46) is_cv (pc := 17) rfl rfl (by decide +kernel) (by omega) (ct_X9_advance l) rfl (fun _ => rfl) ce_fV_rec wd_291 wd_293 wd_0 wd_58) ?_
  refine ok_c (j := 11) rfl (ok_goto (off := 106) (tg := 126) (pc := 20) rfl (by decide +kernel) rfl (by decide)) ?_
  refine ok_c (j := 12) rfl (ok_aload_n (j := ⟨0, by decide⟩) (pc := 23) rfl rfl (by decide +kernel)) ?_
  refine ok_c (j := 13) rfl (ok_getI (ci := 9) (C := RX9) (T := TX9) (N := 11) (ix := 25) (pc := 24) rfl rfl (by decide +kernel) rfl (fun _ => rfl) rfl cw_X9 (by decide) rfl wd_101) ?_
  refine ok_c (j := 14) rfl (ok_iconst (n := (-1)) (pc := 27) rfl rfl (by decide +kernel) (by decide)) ?_
  refine ok_c (j := 15) rfl (ok_cmpgt (off := 27) (tg := 55) (pc := 28) rfl rfl (by decide +kernel) rfl (by decide)) ?_
  refine ok_c (j := 16) rfl (ok_aload_n (j := ⟨0, by decide⟩) (pc := 31) rfl rfl (by decide +kernel)) ?_
  refine ok_c (j := 17) rfl (ok_getI (ci := 9) (C := RX9) (T := TX9) (N := 11) (ix := 25) (pc := 32) rfl rfl (by decide +kernel) rfl (fun _ => rfl) rfl cw_X9 (by decide) rfl wd_101) ?_
  refine ok_c (j := 18) rfl (ok_bipush (n := (-6)) (pc := 35) rfl rfl (by decide +kernel) (by decide)) ?_
  refine ok_c (j := 19) rfl (ok_cmplt (off := 18) (tg := 55) (pc := 37) rfl rfl (by decide +kernel) rfl (by decide)) ?_
  refine ok_c (j := 20) rfl (ok_aload_n (j := ⟨0, by decide⟩) (pc := 40) rfl rfl (by decide +kernel)) ?_
  refine ok_c (j := 21) rfl (ok_aload_n (j := ⟨0, by decide⟩) (pc := 41) rfl rfl (by decide +kernel)) ?_
  refine ok_c (j := 22) rfl (ok_getI (ci := 9) (C := RX9) (T := TX9) (N := 11) (ix := 25) (pc := 42) rfl rfl (by decide +kernel) rfl (fun _ => rfl) rfl cw_X9 (by decide) rfl wd_101) ?_
  refine ok_c (j := 23) rfl (ok_virtual (y := yX9_emit) (n := 1) (d' := 1) (t := 7) (T := TX9) (N := 11) (ix := 70) is_cv (pc := 45) rfl rfl (by decide +kernel) (by omega) (ct_X9_emit l) rfl (fun _ => rfl) ce_fV_rec wd_357 wd_359 wd_10 wd_58) ?_
  refine ok_c (j := 24) rfl (ok_aload_n (j := ⟨0, by decide⟩) (pc := 48) rfl rfl (by decide +kernel)) ?_
  refine ok_c (j := 25) rfl (ok_virtual (y := yX9_advance) (n := 0) (d' := 7) (t := 7) (T := TX9) (N := 11) (ix := 46) is_cv (pc := 49) rfl rfl (by decide +kernel) (by omega) (ct_X9_advance l) rfl (fun _ => rfl) ce_fV_rec wd_291 wd_293 wd_0 wd_58) ?_
  refine ok_c (j := 26) rfl (ok_goto (off := 74) (tg := 126) (pc := 52) rfl (by decide +kernel) rfl (by decide)) ?_
  refine ok_c (j := 27) rfl (ok_aload_n (j := ⟨0, by decide⟩) (pc := 55) rfl rfl (by decide +kernel)) ?_
  refine ok_c (j := 28) rfl (ok_getI (ci := 9) (C := RX9) (T := TX9) (N := 11) (ix := 25) (pc := 56) rfl rfl (by decide +kernel) rfl (fun _ => rfl) rfl cw_X9 (by decide) rfl wd_101) ?_
  refine ok_c (j := 29) rfl (ok_bipush (n := (-14)) (pc := 59) rfl rfl (by decide +kernel) (by decide)) ?_
  refine ok_c (j := 30) rfl (ok_cmpne (off := 28) (tg := 89) (pc := 61) rfl rfl (by decide +kernel) rfl (by decide)) ?_
  refine ok_c (j := 31) rfl (ok_iload_n (j := ⟨1, by decide⟩) (pc := 64) rfl rfl (by decide +kernel)) ?_
  refine ok_c (j := 32) rfl (ok_iconst (n := 5) (pc := 65) rfl rfl (by decide +kernel) (by decide)) ?_
  refine ok_c (j := 33) rfl (ok_cmpge (off := 23) (tg := 89) (pc := 66) rfl rfl (by decide +kernel) rfl (by decide)) ?_
  refine ok_c (j := 34) rfl (ok_aload_n (j := ⟨0, by decide⟩) (pc := 69) rfl rfl (by decide +kernel)) ?_
  refine ok_c (j := 35) rfl (ok_virtual (y := yX9_advance) (n := 0) (d' := 7) (t := 7) (T := TX9) (N := 11) (ix := 46) is_cv (pc := 70) rfl rfl (by decide +kernel) (by omega) (ct_X9_advance l) rfl (fun _ => rfl) ce_fV_rec wd_291 wd_293 wd_0 wd_58) ?_
  refine ok_c (j := 36) rfl (ok_aload_n (j := ⟨0, by decide⟩) (pc := 73) rfl rfl (by decide +kernel)) ?_
  refine ok_c (j := 37) rfl (ok_iload_n (j := ⟨1, by decide⟩) (pc := 74) rfl rfl (by decide +kernel)) ?_
  refine ok_c (j := 38) rfl (ok_iconst (n := 1) (pc := 75) rfl rfl (by decide +kernel) (by decide)) ?_
  refine ok_c (j := 39) rfl (ok_iadd (pc := 76) rfl rfl (by decide +kernel)) ?_
  refine ok_c (j := 40) rfl (ok_virtual (y := yX9_one) (n := 1) (d' := 8 + g) (t := 7) (T := TX9) (N := 11) (ix := 82) is_cv (pc := 77) rfl rfl (by decide +kernel) (by omega) h.2.2.2.2.2 rfl (fun _ => rfl) hr.2.2.2.2.2 wd_369 wd_371 wd_13 wd_58) ?_
  refine ok_c (j := 41) rfl (ok_aload_n (j := ⟨0, by decide⟩) (pc := 80) rfl rfl (by decide +kernel)) ?_
  refine ok_c (j := 42) rfl (ok_bipush (n := (-8)) (pc := 81) rfl rfl (by decide +kernel) (by decide)) ?_
  refine ok_c (j := 43) rfl (ok_virtual (y := yX9_emit) (n := 1) (d' := 1) (t := 7) (T := TX9) (N := 11) (ix := 70) is_cv (pc := 83) rfl rfl (by decide +kernel) (by omega) (ct_X9_emit l) rfl (fun _ => rfl) ce_fV_rec wd_357 wd_359 wd_10 wd_58) ?_
  refine ok_c (j := 44) rfl (ok_goto (off := 40) (tg := 126) (pc := 86) rfl (by decide +kernel) rfl (by decide)) ?_
  refine ok_c (j := 45) rfl (ok_aload_n (j := ⟨0, by decide⟩) (pc := 89) rfl rfl (by decide +kernel)) ?_
  refine ok_c (j := 46) rfl (ok_getI (ci := 9) (C := RX9) (T := TX9) (N := 11) (ix := 25) (pc := 90) rfl rfl (by decide +kernel) rfl (fun _ => rfl) rfl cw_X9 (by decide) rfl wd_101) ?_
  refine ok_c (j := 47) rfl (ok_iconst (n := 5) (pc := 93) rfl rfl (by decide +kernel) (by decide)) ?_
  refine ok_c (j := 48) rfl (ok_cmpne (off := 28) (tg := 122) (pc := 94) rfl rfl (by decide +kernel) rfl (by decide)) ?_
  refine ok_c (j := 49) rfl (ok_iload_n (j := ⟨1, by decide⟩) (pc := 97) rfl rfl (by decide +kernel)) ?_
  refine ok_c (j := 50) rfl (ok_iconst (n := 5) (pc := 98) rfl rfl (by decide +kernel) (by decide)) ?_
  refine ok_c (j := 51) rfl (ok_cmpge (off := 23) (tg := 122) (pc := 99) rfl rfl (by decide +kernel) rfl (by decide)) ?_
  refine ok_c (j := 52) rfl (ok_aload_n (j := ⟨0, by decide⟩) (pc := 102) rfl rfl (by decide +kernel)) ?_
  refine ok_c (j := 53) rfl (ok_virtual (y := yX9_advance) (n := 0) (d' := 7) (t := 7) (T := TX9) (N := 11) (ix := 46) is_cv (pc := 103) rfl rfl (by decide +kernel) (by omega) (ct_X9_advance l) rfl (fun _ => rfl) ce_fV_rec wd_291 wd_293 wd_0 wd_58) ?_
  refine ok_c (j := 54) rfl (ok_aload_n (j := ⟨0, by decide⟩) (pc := 106) rfl rfl (by decide +kernel)) ?_
  refine ok_c (j := 55) rfl (ok_iload_n (j := ⟨1, by decide⟩) (pc := 107) rfl rfl (by decide +kernel)) ?_
  refine ok_c (j := 56) rfl (ok_iconst (n := 1) (pc := 108) rfl rfl (by decide +kernel) (by decide)) ?_
  refine ok_c (j := 57) rfl (ok_iadd (pc := 109) rfl rfl (by decide +kernel)) ?_
  refine ok_c (j := 58) rfl (ok_virtual (y := yX9_either) (n := 1) (d' := 8 + g) (t := 7) (T := TX9) (N := 11) (ix := 64) is_cv (pc := 110) rfl rfl (by decide +kernel) (by omega) h.1 rfl (fun _ => rfl) hr.1 wd_345 wd_347 wd_7 wd_58) ?_
  refine ok_c (j := 59) rfl (ok_aload_n (j := ⟨0, by decide⟩) (pc := 113) rfl rfl (by decide +kernel)) ?_
  refine ok_c (j := 60) rfl (ok_bipush (n := 6) (pc := 114) rfl rfl (by decide +kernel) (by decide)) ?_
  refine ok_c (j := 61) rfl (ok_virtual (y := yX9_expect) (n := 1) (d' := 8) (t := 7) (T := TX9) (N := 11) (ix := 61) is_cv (pc := 116) rfl rfl (by decide +kernel) (by omega) (ct_X9_expect l) rfl (fun _ => rfl) ce_fV_rec wd_337 wd_339 wd_5 wd_58) ?_
  refine ok_c (j := 62) rfl (ok_goto (off := 7) (tg := 126) (pc := 119) rfl (by decide +kernel) rfl (by decide)) ?_
  refine ok_c (j := 63) rfl (ok_aload_n (j := ⟨0, by decide⟩) (pc := 122) rfl rfl (by decide +kernel)) ?_
  refine ok_c (j := 64) rfl (ok_virtual (y := yX9_fail) (n := 0) (d' := 1) (t := 7) (T := TX9) (N := 11) (ix := 53) is_cv (pc := 123) rfl rfl (by decide +kernel) (by omega) (ct_X9_fail l) rfl (fun _ => rfl) ce_fV_rec wd_341 wd_343 wd_6 wd_58) ?_
  refine ok_c (j := 65) rfl (ok_vret (pc := 126) rfl (by decide +kernel) rfl) ?_
  exact trivial
noncomputable def F_X9_one (f : ce_F6) := ce_fV (tb_X9_one f) 2 (some 7)
theorem ct_X9_one (l : Launch) (f : ce_F6) (g : Nat) (h : ce_c6 l (8 + g) f) (hr : ce_r6 f) : ce_callee l yX9_one 1 (8 + g + 1) 0 0 (ce_wV (F_X9_one f)) := ⟨_, _, _, ce_ctr_of (pcs := pc_X9_one) (by decide +kernel) rfl (ok_X9_one l f g h hr) ce_fV_run, ce_tw_at wd_372 rfl, by decide, by decide +kernel, by decide +kernel, by decide +kernel⟩
noncomputable def ce_tp (g : Nat) : ce_F6 := Nat.rec (motive := fun _ => ce_F6) (fun _ _ => none, fun _ _ => none, fun _ _ => none, fun _ _ => none, fun _ _ => none, fun _ _ => none) (fun _ f => (F_X9_either f, F_X9_both f, F_X9_denied f, F_X9_sum f, F_X9_term f, F_X9_one f)) g
theorem ce_tp_r (g : Nat) : ce_r6 (ce_tp g) := by
  cases g with
  | zero => exact ⟨(fun _ _ _ h => by cases h), (fun _ _ _ h => by cases h), (fun _ _ _ h => by cases h), (fun _ _ _ h => by cases h), (fun _ _ _ h => by cases h), (fun _ _ _ h => by cases h)⟩
  | succ g => exact ⟨ce_fV_rec, ce_fV_rec, ce_fV_rec, ce_fV_rec, ce_fV_rec, ce_fV_rec⟩
theorem ce_tp_c (l : Launch) (g : Nat) : ce_c6 l (8 + g) (ce_tp g) := by
  induction g with
  | zero => exact ⟨⟨cX9_either, 3, none, fun _ _ _ _ _ _ _ h => (by cases h), ce_tw_at wd_348 rfl, by decide, by decide +kernel, by decide +kernel, by decide +kernel⟩, ⟨cX9_both, 3, none, fun _ _ _ _ _ _ _ h => (by cases h), ce_tw_at wd_352 rfl, by decide, by decide +kernel, by decide +kernel, by decide +kernel⟩, ⟨cX9_denied, 3, none, fun _ _ _ _ _ _ _ h => (by cases h), ce_tw_at wd_356 rfl, by decide, by decide +kernel, by decide +kernel, by decide +kernel⟩, ⟨cX9_sum, 4, none, fun _ _ _ _ _ _ _ h => (by cases h), ce_tw_at wd_364 rfl, by decide, by decide +kernel, by decide +kernel, by decide +kernel⟩, ⟨cX9_term, 3, none, fun _ _ _ _ _ _ _ h => (by cases h), ce_tw_at wd_368 rfl, by decide, by decide +kernel, by decide +kernel, by decide +kernel⟩, ⟨cX9_one, 2, none, fun _ _ _ _ _ _ _ h => (by cases h), ce_tw_at wd_372 rfl, by decide, by decide +kernel, by decide +kernel, by decide +kernel⟩⟩
  | succ g ih => exact ⟨ct_X9_either l (ce_tp g) g ih (ce_tp_r g), ct_X9_both l (ce_tp g) g ih (ce_tp_r g), ct_X9_denied l (ce_tp g) g ih (ce_tp_r g), ct_X9_sum l (ce_tp g) g ih (ce_tp_r g), ct_X9_term l (ce_tp g) g ih (ce_tp_r g), ct_X9_one l (ce_tp g) g ih (ce_tp_r g)⟩
def pc_X9_part : List Nat := [0, 1, 2, 5, 6, 7, 10, 11, 13, 16]
noncomputable def tb_X9_part : List ce_Op := [o_aload 0, o_iload 1, o_cv 2 F_X9_expect 0 0 0 0, o_aload 0, o_int 0, o_cv 2 (ce_tp 40).1 0 0 0 0, o_aload 0, o_int 7, o_cv 2 F_X9_expect 0 0 0 0, o_vret]
theorem tl_X9_part : ce_TL tb_X9_part := by
  unfold tb_X9_part
  refine tl_c ta_aload ?_
  refine tl_c ta_iload ?_
  refine tl_c ta_cv ?_
  refine tl_c ta_aload ?_
  refine tl_c ta_int ?_
  refine tl_c ta_cv ?_
  refine tl_c ta_aload ?_
  refine tl_c ta_int ?_
  refine tl_c ta_cv ?_
  refine tl_c ta_vret ?_
  exact trivial
set_option maxRecDepth 20000 in
theorem ok_X9_part (l : Launch) : ce_OkL l cX9_part RX9 2 none 49 0 0 pc_X9_part 0 tb_X9_part := by
  unfold tb_X9_part
  refine ok_c (j := 1) rfl (ok_aload_n (j := ⟨0, by decide⟩) (pc := 0) rfl rfl (by decide +kernel)) ?_
  refine ok_c (j := 2) rfl (ok_iload_n (j := ⟨1, by decide⟩) (pc := 1) rfl rfl (by decide +kernel)) ?_
  refine ok_c (j := 3) rfl (ok_virtual (y := yX9_expect) (n := 1) (d' := 8) (t := 7) (T := TX9) (N := 11) (ix := 61) is_cv (pc := 2) rfl rfl (by decide +kernel) (by decide) (ct_X9_expect l) rfl (fun _ => rfl) ce_fV_rec wd_337 wd_339 wd_5 wd_58) ?_
  refine ok_c (j := 4) rfl (ok_aload_n (j := ⟨0, by decide⟩) (pc := 5) rfl rfl (by decide +kernel)) ?_
  refine ok_c (j := 5) rfl (ok_iconst (n := 0) (pc := 6) rfl rfl (by decide +kernel) (by decide)) ?_
  refine ok_c (j := 6) rfl (ok_virtual (y := yX9_either) (n := 1) (d' := 48) (t := 7) (T := TX9) (N := 11) (ix := 64) is_cv (pc := 7) rfl rfl (by decide +kernel) (by decide) (ce_tp_c l 40).1 rfl (fun _ => rfl) (ce_tp_r 40).1 wd_345 wd_347 wd_7 wd_58) ?_
  refine ok_c (j := 7) rfl (ok_aload_n (j := ⟨0, by decide⟩) (pc := 10) rfl rfl (by decide +kernel)) ?_
  refine ok_c (j := 8) rfl (ok_bipush (n := 7) (pc := 11) rfl rfl (by decide +kernel) (by decide)) ?_
  refine ok_c (j := 9) rfl (ok_virtual (y := yX9_expect) (n := 1) (d' := 8) (t := 7) (T := TX9) (N := 11) (ix := 61) is_cv (pc := 13) rfl rfl (by decide +kernel) (by decide) (ct_X9_expect l) rfl (fun _ => rfl) ce_fV_rec wd_337 wd_339 wd_5 wd_58) ?_
  refine ok_c (j := 10) rfl (ok_vret (pc := 16) rfl (by decide +kernel) rfl) ?_
  exact trivial
noncomputable def F_X9_part := ce_fV tb_X9_part 2 (some 7)
theorem ct_X9_part (l : Launch) : ce_callee l yX9_part 1 49 0 0 (ce_wV F_X9_part) := ⟨_, _, _, ce_ctr_of (pcs := pc_X9_part) (by decide +kernel) rfl (ok_X9_part l ) ce_fV_run, ce_tw_at wd_336 rfl, by decide, by decide +kernel, by decide +kernel, by decide +kernel⟩
def pc_X9_read : List Nat := [0, 1, 2, 5, 6, 7, 10, 11, 12, 15, 16, 19, 20, 21, 24, 25, 26, 29, 32, 33, 34, 37, 38, 39, 42, 45, 46, 47, 50, 51, 54, 57, 58, 61, 62, 63, 66, 67, 70]
noncomputable def tb_X9_read : List ce_Op := [o_aload 0, o_int 0, o_putI 7 3, o_aload 0, o_int 0, o_putI 7 7, o_aload 0, o_int (-1), o_putI 7 10, o_aload 0, o_cv 1 F_X9_advance 0 0 0 0, o_aload 0, o_int 2, o_cv 2 F_X9_part 0 0 0 0, o_aload 0, o_aload 0, o_getI 7 7, o_putI 7 8, o_aload 0, o_int 3, o_cv 2 F_X9_part 0 0 0 0, o_aload 0, o_aload 0, o_getI 7 7, o_putI 7 9, o_aload 0, o_int 4, o_cv 2 F_X9_part 0 0 0 0, o_aload 0, o_getI 7 4, o_ifeq 33, o_aload 0, o_cv 1 F_X9_fail 0 0 0 0, o_aload 0, o_int 0, o_putI 7 0, o_aload 0, o_getI 7 10, o_iret]
theorem tl_X9_read : ce_TL tb_X9_read := by
  unfold tb_X9_read
  refine tl_c ta_aload ?_
  refine tl_c ta_int ?_
  refine tl_c ta_putI ?_
  refine tl_c ta_aload ?_
  refine tl_c ta_int ?_
  refine tl_c ta_putI ?_
  refine tl_c ta_aload ?_
  refine tl_c ta_int ?_
  refine tl_c ta_putI ?_
  refine tl_c ta_aload ?_
  refine tl_c ta_cv ?_
  refine tl_c ta_aload ?_
  refine tl_c ta_int ?_
  refine tl_c ta_cv ?_
  refine tl_c ta_aload ?_
  refine tl_c ta_aload ?_
  refine tl_c ta_getI ?_
  refine tl_c ta_putI ?_
  refine tl_c ta_aload ?_
  refine tl_c ta_int ?_
  refine tl_c ta_cv ?_
  refine tl_c ta_aload ?_
  refine tl_c ta_aload ?_
  refine tl_c ta_getI ?_
  refine tl_c ta_putI ?_
  refine tl_c ta_aload ?_
  refine tl_c ta_int ?_
  refine tl_c ta_cv ?_
  refine tl_c ta_aload ?_
  refine tl_c ta_getI ?_
  refine tl_c ta_ifeq ?_
  refine tl_c ta_aload ?_
  refine tl_c ta_cv ?_
  refine tl_c ta_aload ?_
  refine tl_c ta_int ?_
  refine tl_c ta_putI ?_
  refine tl_c ta_aload ?_
  refine tl_c ta_getI ?_
  refine tl_c ta_iret ?_
  exact trivial
set_option maxRecDepth 20000 in
theorem ok_X9_read (l : Launch) : ce_OkL l cX9_read RX9 1 (some .int) 50 0 0 pc_X9_read 0 tb_X9_read := by
  unfold tb_X9_read
  refine ok_c (j := 1) rfl (ok_aload_n (j := ⟨0, by decide⟩) (pc := 0) rfl rfl (by decide +kernel)) ?_
  refine ok_c (j := 2) rfl (ok_iconst (n := 0) (pc := 1) rfl rfl (by decide +kernel) (by decide)) ?_
  refine ok_c (j := 3) rfl (ok_putI (ci := 9) (C := RX9) (T := TX9) (N := 11) (ty := tyX9) (ix := 22) (pc := 2) rfl rfl (by decide +kernel) rfl (fun _ => rfl) rfl cw_X9 tyX9_ok nmX9 (by decide) rfl rfl rfl wd_100) ?_
  refine ok_c (j := 4) rfl (ok_aload_n (j := ⟨0, by decide⟩) (pc := 5) rfl rfl (by decide +kernel)) ?_
  refine ok_c (j := 5) rfl (ok_iconst (n := 0) (pc := 6) rfl rfl (by decide +kernel) (by decide)) ?_
  refine ok_c (j := 6) rfl (ok_putI (ci := 9) (C := RX9) (T := TX9) (N := 11) (ty := tyX9) (ix := 34) (pc := 7) rfl rfl (by decide +kernel) rfl (fun _ => rfl) rfl cw_X9 tyX9_ok nmX9 (by decide) rfl rfl rfl wd_104) ?_
  refine ok_c (j := 7) rfl (ok_aload_n (j := ⟨0, by decide⟩) (pc := 10) rfl rfl (by decide +kernel)) ?_
  refine ok_c (j := 8) rfl (ok_iconst (n := (-1)) (pc := 11) rfl rfl (by decide +kernel) (by decide)) ?_
  refine ok_c (j := 9) rfl (ok_putI (ci := 9) (C := RX9) (T := TX9) (N := 11) (ty := tyX9) (ix := 43) (pc := 12) rfl rfl (by decide +kernel) rfl (fun _ => rfl) rfl cw_X9 tyX9_ok nmX9 (by decide) rfl rfl rfl wd_107) ?_
  refine ok_c (j := 10) rfl (ok_aload_n (j := ⟨0, by decide⟩) (pc := 15) rfl rfl (by decide +kernel)) ?_
  refine ok_c (j := 11) rfl (ok_virtual (y := yX9_advance) (n := 0) (d' := 7) (t := 7) (T := TX9) (N := 11) (ix := 46) is_cv (pc := 16) rfl rfl (by decide +kernel) (by decide) (ct_X9_advance l) rfl (fun _ => rfl) ce_fV_rec wd_291 wd_293 wd_0 wd_58) ?_
  refine ok_c (j := 12) rfl (ok_aload_n (j := ⟨0, by decide⟩) (pc := 19) rfl rfl (by decide +kernel)) ?_
  refine ok_c (j := 13) rfl (ok_iconst (n := 2) (pc := 20) rfl rfl (by decide +kernel) (by decide)) ?_
  refine ok_c (j := 14) rfl (ok_virtual (y := yX9_part) (n := 1) (d' := 49) (t := 7) (T := TX9) (N := 11) (ix := 49) is_cv (pc := 21) rfl rfl (by decide +kernel) (by decide) (ct_X9_part l) rfl (fun _ => rfl) ce_fV_rec wd_333 wd_335 wd_4 wd_58) ?_
  refine ok_c (j := 15) rfl (ok_aload_n (j := ⟨0, by decide⟩) (pc := 24) rfl rfl (by decide +kernel)) ?_
  refine ok_c (j := 16) rfl (ok_aload_n (j := ⟨0, by decide⟩) (pc := 25) rfl rfl (by decide +kernel)) ?_
  refine ok_c (j := 17) rfl (ok_getI (ci := 9) (C := RX9) (T := TX9) (N := 11) (ix := 34) (pc := 26) rfl rfl (by decide +kernel) rfl (fun _ => rfl) rfl cw_X9 (by decide) rfl wd_104) ?_
  refine ok_c (j := 18) rfl (ok_putI (ci := 9) (C := RX9) (T := TX9) (N := 11) (ty := tyX9) (ix := 37) (pc := 29) rfl rfl (by decide +kernel) rfl (fun _ => rfl) rfl cw_X9 tyX9_ok nmX9 (by decide) rfl rfl rfl wd_105) ?_
  refine ok_c (j := 19) rfl (ok_aload_n (j := ⟨0, by decide⟩) (pc := 32) rfl rfl (by decide +kernel)) ?_
  refine ok_c (j := 20) rfl (ok_iconst (n := 3) (pc := 33) rfl rfl (by decide +kernel) (by decide)) ?_
  refine ok_c (j := 21) rfl (ok_virtual (y := yX9_part) (n := 1) (d' := 49) (t := 7) (T := TX9) (N := 11) (ix := 49) is_cv (pc := 34) rfl rfl (by decide +kernel) (by decide) (ct_X9_part l) rfl (fun _ => rfl) ce_fV_rec wd_333 wd_335 wd_4 wd_58) ?_
  refine ok_c (j := 22) rfl (ok_aload_n (j := ⟨0, by decide⟩) (pc := 37) rfl rfl (by decide +kernel)) ?_
  refine ok_c (j := 23) rfl (ok_aload_n (j := ⟨0, by decide⟩) (pc := 38) rfl rfl (by decide +kernel)) ?_
  refine ok_c (j := 24) rfl (ok_getI (ci := 9) (C := RX9) (T := TX9) (N := 11) (ix := 34) (pc := 39) rfl rfl (by decide +kernel) rfl (fun _ => rfl) rfl cw_X9 (by decide) rfl wd_104) ?_
  refine ok_c (j := 25) rfl (ok_putI (ci := 9) (C := RX9) (T := TX9) (N := 11) (ty := tyX9) (ix := 40) (pc := 42) rfl rfl (by decide +kernel) rfl (fun _ => rfl) rfl cw_X9 tyX9_ok nmX9 (by decide) rfl rfl rfl wd_106) ?_
  refine ok_c (j := 26) rfl (ok_aload_n (j := ⟨0, by decide⟩) (pc := 45) rfl rfl (by decide +kernel)) ?_
  refine ok_c (j := 27) rfl (ok_iconst (n := 4) (pc := 46) rfl rfl (by decide +kernel) (by decide)) ?_
  refine ok_c (j := 28) rfl (ok_virtual (y := yX9_part) (n := 1) (d' := 49) (t := 7) (T := TX9) (N := 11) (ix := 49) is_cv (pc := 47) rfl rfl (by decide +kernel) (by decide) (ct_X9_part l) rfl (fun _ => rfl) ce_fV_rec wd_333 wd_335 wd_4 wd_58) ?_
  refine ok_c (j := 29) rfl (ok_aload_n (j := ⟨0, by decide⟩) (pc := 50) rfl rfl (by decide +kernel)) ?_
  refine ok_c (j := 30) rfl (ok_getI (ci := 9) (C := RX9) (T := TX9) (N := 11) (ix := 25) (pc := 51) rfl rfl (by decide +kernel) rfl (fun _ => rfl) rfl cw_X9 (by decide) rfl wd_101) ?_
  refine ok_c (j := 31) rfl (ok_ifeq (off := 7) (tg := 61) (pc := 54) rfl rfl (by decide +kernel) rfl (by decide)) ?_
  refine ok_c (j := 32) rfl (ok_aload_n (j := ⟨0, by decide⟩) (pc := 57) rfl rfl (by decide +kernel)) ?_
  refine ok_c (j := 33) rfl (ok_virtual (y := yX9_fail) (n := 0) (d' := 1) (t := 7) (T := TX9) (N := 11) (ix := 53) is_cv (pc := 58) rfl rfl (by decide +kernel) (by decide) (ct_X9_fail l) rfl (fun _ => rfl) ce_fV_rec wd_341 wd_343 wd_6 wd_58) ?_
  refine ok_c (j := 34) rfl (ok_aload_n (j := ⟨0, by decide⟩) (pc := 61) rfl rfl (by decide +kernel)) ?_
  refine ok_c (j := 35) rfl (ok_iconst (n := 0) (pc := 62) rfl rfl (by decide +kernel) (by decide)) ?_
  refine ok_c (j := 36) rfl (ok_putI (ci := 9) (C := RX9) (T := TX9) (N := 11) (ty := tyX9) (ix := 9) (pc := 63) rfl rfl (by decide +kernel) rfl (fun _ => rfl) rfl cw_X9 tyX9_ok nmX9 (by decide) rfl rfl rfl wd_96) ?_
  refine ok_c (j := 37) rfl (ok_aload_n (j := ⟨0, by decide⟩) (pc := 66) rfl rfl (by decide +kernel)) ?_
  refine ok_c (j := 38) rfl (ok_getI (ci := 9) (C := RX9) (T := TX9) (N := 11) (ix := 43) (pc := 67) rfl rfl (by decide +kernel) rfl (fun _ => rfl) rfl cw_X9 (by decide) rfl wd_107) ?_
  refine ok_c (j := 39) rfl (ok_iret (pc := 70) rfl (by decide +kernel) rfl) ?_
  exact trivial
noncomputable def F_X9_read := ce_fI tb_X9_read 1 (some 7)
theorem ct_X9_read (l : Launch) : ce_callee l yX9_read 0 50 0 0 (ce_wI F_X9_read) := ⟨_, _, _, ce_ctr_of (pcs := pc_X9_read) (by decide +kernel) rfl (ok_X9_read l ) ce_fI_run, ce_tw_at wd_290 rfl, by decide, by decide +kernel, by decide +kernel, by decide +kernel⟩
