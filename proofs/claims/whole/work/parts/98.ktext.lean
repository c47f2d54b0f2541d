/-! the K-machine: a text is made; text() -/
def kP6 (t : Nat) : Bool := decide (t = 61) || decide (t = 62)
def kPt (t : Nat) : Bool := decide (t = 7) || decide (t = 8) || decide (t = 9) || decide (t = 61) || decide (t = 62)
def kPa (_ : Nat) : Bool := true
theorem kE_Q : ∀ v r, vwCl[ce_ci 13 v]? = some r → r.1 = RX10 ∨ (RX10 = RX3 ∧ r.1 ∈ [RX0, RX1, RX2, RX7, RX8]) := fun v r h => by
  cases h; exact Or.inl rfl
def pc_X10_init : List Nat := [0, 1, 4, 5, 6, 7, 8, 11, 13, 14, 16, 18, 21, 22, 24, 26, 29, 30, 31, 34, 35, 37, 40, 41, 42, 43, 46, 47, 49, 52]
noncomputable def tb_X10_init : List ce_Op := [o_aload 0, o_kinit, o_iload 2, o_int 0, o_aload 1, o_alen 9, o_kp kP6 3 (ce_wI F_X11_within), o_istore 5, o_aload 0, o_iload 5, o_knewa 14 2 320, o_kputS 13 0 14 (ce_k0), o_aload 0, o_iload 5, o_knewa 17 2 320, o_kputS 13 3 17 (ce_k0), o_aload 0, o_iload 3, o_kputI 13 1, o_aload 0, o_iload 4, o_kputI 13 2, o_aload 1, o_int 0, o_aload 0, o_kgetS 13 0 14 (ce_k0), o_int 0, o_iload 5, o_copy 9 14, o_vret]
theorem tl_X10_init : ce_TL tb_X10_init := by
  unfold tb_X10_init
  refine tl_c ta_aload ?_
  refine tl_c ta_kinit ?_
  refine tl_c ta_iload ?_
  refine tl_c ta_int ?_
  refine tl_c ta_aload ?_
  refine tl_c ta_alen ?_
  refine tl_c ta_kp ?_
  refine tl_c ta_istore ?_
  refine tl_c ta_aload ?_
  refine tl_c ta_iload ?_
  refine tl_c ta_knewa ?_
  refine tl_c ta_kputS ?_
  refine tl_c ta_aload ?_
  refine tl_c ta_iload ?_
  refine tl_c ta_knewa ?_
  refine tl_c ta_kputS ?_
  refine tl_c ta_aload ?_
  refine tl_c ta_iload ?_
  refine tl_c ta_kputI ?_
  refine tl_c ta_aload ?_
  refine tl_c ta_iload ?_
  refine tl_c ta_kputI ?_
  refine tl_c ta_aload ?_
  refine tl_c ta_int ?_
  refine tl_c ta_aload ?_
  refine tl_c ta_kgetS ?_
  refine tl_c ta_int ?_
  refine tl_c ta_iload ?_
  refine tl_c ta_copy ?_
  refine tl_c ta_vret ?_
  exact trivial
set_option maxRecDepth 20000 in
theorem ok_X10_init (l : Launch) : ce_OkLK l cX10_init RX10 6 none 4 2 320 pc_X10_init 0 tb_X10_init := by
  unfold tb_X10_init
  refine kk_c (j := 1) rfl (kk_aload_n (j := ⟨0, by decide⟩) (pc := 0) rfl rfl (by decide +kernel)) ?_
  refine kk_c (j := 2) rfl (kk_oinit (ix := 1) (pc := 1) rfl rfl (by decide +kernel) (by decide) wd_382 wd_82 wd_83 rfl rfl rfl) ?_
  refine kk_c (j := 3) rfl (kk_iload_n (j := ⟨2, by decide⟩) (pc := 4) rfl rfl (by decide +kernel)) ?_
  refine kk_c (j := 4) rfl (kk_iconst (n := 0) (pc := 5) rfl rfl (by decide +kernel) (by decide)) ?_
  refine kk_c (j := 5) rfl (kk_aload_n (j := ⟨1, by decide⟩) (pc := 6) rfl rfl (by decide +kernel)) ?_
  refine kk_c (j := 6) rfl (kk_alen (pc := 7) rfl rfl (by decide +kernel) (by decide)) ?_
  refine kk_c (j := 7) rfl (kk_pnest (y := yX11_within) (host := RX11) (n := 3) (d' := 2) (ix := 7) (pc := 8) rfl rfl (by decide +kernel) (by decide) (ct_X11_within l) (fun _ _ _ h => h.2.1.1) wd_384 wd_57) ?_
  refine kk_c (j := 8) rfl (kk_istore (j := 5) (pc := 11) rfl rfl (by decide +kernel) (by decide)) ?_
  refine kk_c (j := 9) rfl (kk_aload_n (j := ⟨0, by decide⟩) (pc := 13) rfl rfl (by decide +kernel)) ?_
  refine kk_c (j := 10) rfl (kk_iload (j := 5) (pc := 14) rfl rfl (by decide +kernel)) ?_
  refine kk_c (j := 11) rfl (kk_newa (pc := 16) rfl rfl (by decide +kernel) rfl wd_131) ?_
  refine kk_c (j := 12) rfl (kk_putSF (zz := 0) (f := 0) (ci := 10) (C := RX10) (T := TX10) (N := 4) (ty := tyX10) (ix := 13) (pc := 18) rfl rfl (by decide +kernel) rfl (fun _ => rfl) rfl cw_X10 tyX10_ok nmX10 (by decide) rfl rfl rfl rfl (fun _ => ⟨rfl, rfl⟩) wd_395) ?_
  refine kk_c (j := 13) rfl (kk_aload_n (j := ⟨0, by decide⟩) (pc := 21) rfl rfl (by decide +kernel)) ?_
  refine kk_c (j := 14) rfl (kk_iload (j := 5) (pc := 22) rfl rfl (by decide +kernel)) ?_
  refine kk_c (j := 15) rfl (kk_newa (pc := 24) rfl rfl (by decide +kernel) rfl wd_131) ?_
  refine kk_c (j := 16) rfl (kk_putSF (zz := 0) (f := 3) (ci := 10) (C := RX10) (T := TX10) (N := 4) (ty := tyX10) (ix := 19) (pc := 26) rfl rfl (by decide +kernel) rfl (fun _ => rfl) rfl cw_X10 tyX10_ok nmX10 (by decide) rfl rfl rfl rfl (fun _ => ⟨rfl, rfl⟩) wd_401) ?_
  refine kk_c (j := 17) rfl (kk_aload_n (j := ⟨0, by decide⟩) (pc := 29) rfl rfl (by decide +kernel)) ?_
  refine kk_c (j := 18) rfl (kk_iload_n (j := ⟨3, by decide⟩) (pc := 30) rfl rfl (by decide +kernel)) ?_
  refine kk_c (j := 19) rfl (kk_putIF (f := 1) (ci := 10) (C := RX10) (T := TX10) (N := 4) (ty := tyX10) (ix := 22) (pc := 31) rfl rfl (by decide +kernel) rfl (fun _ => rfl) rfl cw_X10 tyX10_ok nmX10 (by decide) rfl rfl rfl rfl rfl wd_397) ?_
  refine kk_c (j := 20) rfl (kk_aload_n (j := ⟨0, by decide⟩) (pc := 34) rfl rfl (by decide +kernel)) ?_
  refine kk_c (j := 21) rfl (kk_iload (j := 4) (pc := 35) rfl rfl (by decide +kernel)) ?_
  refine kk_c (j := 22) rfl (kk_putIF (f := 2) (ci := 10) (C := RX10) (T := TX10) (N := 4) (ty := tyX10) (ix := 26) (pc := 37) rfl rfl (by decide +kernel) rfl (fun _ => rfl) rfl cw_X10 tyX10_ok nmX10 (by decide) rfl rfl rfl rfl rfl wd_399) ?_
  refine kk_c (j := 23) rfl (kk_aload_n (j := ⟨1, by decide⟩) (pc := 40) rfl rfl (by decide +kernel)) ?_
  refine kk_c (j := 24) rfl (kk_iconst (n := 0) (pc := 41) rfl rfl (by decide +kernel) (by decide)) ?_
  refine kk_c (j := 25) rfl (kk_aload_n (j := ⟨0, by decide⟩) (pc := 42) rfl rfl (by decide +kernel)) ?_
  refine kk_c (j := 26) rfl (kk_getS (f := 0) (ci := 10) (C := RX10) (T := TX10) (N := 4) (ix := 13) (pc := 43) rfl rfl (by decide +kernel) rfl (fun _ => rfl) rfl cw_X10 (by decide) rfl wd_395) ?_
  refine kk_c (j := 27) rfl (kk_iconst (n := 0) (pc := 46) rfl rfl (by decide +kernel) (by decide)) ?_
  refine kk_c (j := 28) rfl (kk_iload (j := 5) (pc := 47) rfl rfl (by decide +kernel)) ?_
  refine kk_c (j := 29) rfl (kk_copy (ix := 29) (pc := 49) rfl rfl (by decide +kernel) (by decide) rfl rfl wd_392 wd_394 wd_393 wd_73) ?_
  refine kk_c (j := 30) rfl (kk_vret (pc := 52) rfl (by decide +kernel) rfl) ?_
  exact trivial
noncomputable def F_X10_init := ce_fV tb_X10_init 6 (some 13)
theorem ct_X10_init (l : Launch) : ce_ini l yX10_init 4 4 2 320 (ce_wV F_X10_init) := ⟨_, _, ce_ctr_ofK (pcs := pc_X10_init) (by decide +kernel) (fun _ => rfl) rfl (ok_X10_init l) ce_fV_run, ce_tw_at wd_381 rfl, by decide, by decide +kernel, by decide +kernel, by decide +kernel⟩
def pc_X9_made : List Nat := [0, 3, 4, 5, 8, 9, 12, 13, 16, 17, 20, 23]
noncomputable def tb_X9_made : List ce_Op := [o_knew 13 10 4 3 324, o_dup, o_aload 0, o_kgetS 7 2 9 (fun _ => 0), o_aload 0, o_getI 7 7, o_aload 0, o_getI 7 8, o_aload 0, o_getI 7 9, o_cv 5 F_X10_init 2 320 3 324, o_aret]
theorem tl_X9_made : ce_TL tb_X9_made := by
  unfold tb_X9_made
  refine tl_c ta_knew ?_
  refine tl_c ta_dup ?_
  refine tl_c ta_aload ?_
  refine tl_c ta_kgetS ?_
  refine tl_c ta_aload ?_
  refine tl_c ta_getI ?_
  refine tl_c ta_aload ?_
  refine tl_c ta_getI ?_
  refine tl_c ta_aload ?_
  refine tl_c ta_getI ?_
  refine tl_c ta_cv ?_
  refine tl_c ta_aret ?_
  exact trivial
set_option maxRecDepth 20000 in
theorem ok_X9_made (l : Launch) : ce_OkLK l cX9_made RX9 1 (some (.object RX10)) 5 3 324 pc_X9_made 0 tb_X9_made := by
  unfold tb_X9_made
  refine kk_c (j := 1) rfl (kk_new (t := 13) (ix := 56) (N := 4) (ci := 10) (C := RX10) (T := TX10) (pc := 0) rfl rfl (by decide +kernel) rfl rfl cw_X10 tyX10 tyX10_ok (by decide) wd_377 wd_378 wd_71 rfl rfl rfl) ?_
  refine kk_c (j := 2) rfl (kk_dup (pc := 3) rfl rfl (by decide +kernel)) ?_
  refine kk_c (j := 3) rfl (kk_aload_n (j := ⟨0, by decide⟩) (pc := 4) rfl rfl (by decide +kernel)) ?_
  refine kk_c (j := 4) rfl (kk_getS (f := 2) (ci := 9) (C := RX9) (T := TX9) (N := 11) (ix := 19) (pc := 5) rfl rfl (by decide +kernel) rfl (fun _ => rfl) rfl cw_X9 (by decide) rfl wd_99) ?_
  refine kk_c (j := 5) rfl (kk_aload_n (j := ⟨0, by decide⟩) (pc := 8) rfl rfl (by decide +kernel)) ?_
  refine kk_c (j := 6) rfl (kk_getI (f := 7) (ci := 9) (C := RX9) (T := TX9) (N := 11) (ix := 34) (pc := 9) rfl rfl (by decide +kernel) rfl (fun _ => rfl) rfl cw_X9 (by decide) rfl wd_104) ?_
  refine kk_c (j := 7) rfl (kk_aload_n (j := ⟨0, by decide⟩) (pc := 12) rfl rfl (by decide +kernel)) ?_
  refine kk_c (j := 8) rfl (kk_getI (f := 8) (ci := 9) (C := RX9) (T := TX9) (N := 11) (ix := 37) (pc := 13) rfl rfl (by decide +kernel) rfl (fun _ => rfl) rfl cw_X9 (by decide) rfl wd_105) ?_
  refine kk_c (j := 9) rfl (kk_aload_n (j := ⟨0, by decide⟩) (pc := 16) rfl rfl (by decide +kernel)) ?_
  refine kk_c (j := 10) rfl (kk_getI (f := 9) (ci := 9) (C := RX9) (T := TX9) (N := 11) (ix := 40) (pc := 17) rfl rfl (by decide +kernel) rfl (fun _ => rfl) rfl cw_X9 (by decide) rfl wd_106) ?_
  refine kk_c (j := 11) rfl (kk_init (y := yX10_init) (n := 4) (d' := 4) (ix := 58) is_cv (pc := 20) rfl rfl (by decide +kernel) (by decide) (ct_X10_init l) rfl kV_rec wd_379 wd_380 wd_71) ?_
  refine kk_c (j := 12) rfl (kk_aret (pc := 23) rfl (by decide +kernel) rfl) ?_
  exact trivial
noncomputable def F_X9_made := ce_fR tb_X9_made 1 (some 7) 13
theorem ct_X9_made (l : Launch) : ce_calleeK l yX9_made 0 5 3 324 (ce_wR 13 F_X9_made) := ⟨_, _, _, ce_ctr_ofK (pcs := pc_X9_made) (by decide +kernel) (fun z => by cases z) rfl (ok_X9_made l) ce_fR_run, ce_tw_at wd_376 rfl, by decide, by decide +kernel, by decide +kernel, by decide +kernel⟩
def pc_X11_text : List Nat := [0, 1, 4, 6, 9, 11, 12, 13, 16, 19, 20, 21, 22, 25, 27, 28, 29, 30, 31, 34, 35, 38, 39, 42, 45, 46, 47, 48, 51, 52, 53, 56, 57, 60, 61, 62]
noncomputable def tb_X11_text : List ce_Op := [o_aload 0, o_getI 0 7, o_int 6, o_cmplt 6, o_int (-4), o_iret, o_aload 0, o_kgetS 0 4 7 (fun _ => 0), o_kp kPt 1 (ce_wI F_X9_read), o_istore 1, o_iload 1, o_int (-1), o_cmpeq 17, o_int (-100), o_iload 1, o_bin q_sub, o_iret, o_aload 0, o_kgetS 0 3 5 (fun _ => 0), o_aload 0, o_getI 0 7, o_aload 0, o_kgetS 0 4 7 (fun _ => 0), o_cr 1 13 F_X9_made 3 324 3 324, o_kaastQ, o_aload 0, o_dup, o_getI 0 7, o_int 1, o_bin q_add, o_kputI 0 7, o_aload 0, o_getI 0 7, o_int 1, o_bin q_sub, o_iret]
theorem tl_X11_text : ce_TL tb_X11_text := by
  unfold tb_X11_text
  refine tl_c ta_aload ?_
  refine tl_c ta_getI ?_
  refine tl_c ta_int ?_
  refine tl_c ta_cmplt ?_
  refine tl_c ta_int ?_
  refine tl_c ta_iret ?_
  refine tl_c ta_aload ?_
  refine tl_c ta_kgetS ?_
  refine tl_c ta_kp ?_
  refine tl_c ta_istore ?_
  refine tl_c ta_iload ?_
  refine tl_c ta_int ?_
  refine tl_c ta_cmpeq ?_
  refine tl_c ta_int ?_
  refine tl_c ta_iload ?_
  refine tl_c ta_bin ?_
  refine tl_c ta_iret ?_
  refine tl_c ta_aload ?_
  refine tl_c ta_kgetS ?_
  refine tl_c ta_aload ?_
  refine tl_c ta_getI ?_
  refine tl_c ta_aload ?_
  refine tl_c ta_kgetS ?_
  refine tl_c ta_cr ?_
  refine tl_c ta_kaastQ ?_
  refine tl_c ta_aload ?_
  refine tl_c ta_dup ?_
  refine tl_c ta_getI ?_
  refine tl_c ta_int ?_
  refine tl_c ta_bin ?_
  refine tl_c ta_kputI ?_
  refine tl_c ta_aload ?_
  refine tl_c ta_getI ?_
  refine tl_c ta_int ?_
  refine tl_c ta_bin ?_
  refine tl_c ta_iret ?_
  exact trivial
set_option maxRecDepth 20000 in
theorem ok_X11_text (l : Launch) : ce_OkLK l cX11_text RX11 2 (some .int) 51 3 324 pc_X11_text 0 tb_X11_text := by
  unfold tb_X11_text
  refine kk_c (j := 1) rfl (kk_aload_n (j := ⟨0, by decide⟩) (pc := 0) rfl rfl (by decide +kernel)) ?_
  refine kk_c (j := 2) rfl (kk_getI (f := 7) (ci := 11) (C := RX11) (T := TX11) (N := 14) (ix := 44) (pc := 1) rfl rfl (by decide +kernel) rfl (fun _ => rfl) rfl cw_X11 (by decide) rfl wd_450) ?_
  refine kk_c (j := 3) rfl (kk_bipush (n := 6) (pc := 4) rfl rfl (by decide +kernel) (by decide)) ?_
  refine kk_c (j := 4) rfl (kk_cmplt (off := 6) (tg := 12) (pc := 6) rfl rfl (by decide +kernel) rfl (by decide)) ?_
  refine kk_c (j := 5) rfl (kk_bipush (n := (-4)) (pc := 9) rfl rfl (by decide +kernel) (by decide)) ?_
  refine kk_c (j := 6) rfl (kk_iret (pc := 11) rfl (by decide +kernel) rfl) ?_
  refine kk_c (j := 7) rfl (kk_aload_n (j := ⟨0, by decide⟩) (pc := 12) rfl rfl (by decide +kernel)) ?_
  refine kk_c (j := 8) rfl (kk_getS (f := 4) (ci := 11) (C := RX11) (T := TX11) (N := 14) (ix := 30) (pc := 13) rfl rfl (by decide +kernel) rfl (fun _ => rfl) rfl cw_X11 (by decide) rfl wd_447) ?_
  refine kk_c (j := 9) rfl (kk_pvirtual (y := yX9_read) (n := 0) (d' := 50) (t := 7) (T := TX9) (N := 11) (ix := 96) (pc := 16) rfl rfl (by decide +kernel) (by decide) (ct_X9_read l) rfl (fun _ => rfl) ce_fI_rec wd_287 wd_288 wd_289 wd_58) ?_
  refine kk_c (j := 10) rfl (kk_istore_n (j := ⟨1, by decide⟩) (pc := 19) rfl rfl (by decide +kernel) (by decide)) ?_
  refine kk_c (j := 11) rfl (kk_iload_n (j := ⟨1, by decide⟩) (pc := 20) rfl rfl (by decide +kernel)) ?_
  refine kk_c (j := 12) rfl (kk_iconst (n := (-1)) (pc := 21) rfl rfl (by decide +kernel) (by decide)) ?_
  refine kk_c (j := 13) rfl (kk_cmpeq (off := 8) (tg := 30) (pc := 22) rfl rfl (by decide +kernel) rfl (by decide)) ?_
  refine kk_c (j := 14) rfl (kk_bipush (n := (-100)) (pc := 25) rfl rfl (by decide +kernel) (by decide)) ?_
  refine kk_c (j := 15) rfl (kk_iload_n (j := ⟨1, by decide⟩) (pc := 27) rfl rfl (by decide +kernel)) ?_
  refine kk_c (j := 16) rfl (kk_isub (pc := 28) rfl rfl (by decide +kernel)) ?_
  refine kk_c (j := 17) rfl (kk_iret (pc := 29) rfl (by decide +kernel) rfl) ?_
  refine kk_c (j := 18) rfl (kk_aload_n (j := ⟨0, by decide⟩) (pc := 30) rfl rfl (by decide +kernel)) ?_
  refine kk_c (j := 19) rfl (kk_getS (f := 3) (ci := 11) (C := RX11) (T := TX11) (N := 14) (ix := 23) (pc := 31) rfl rfl (by decide +kernel) rfl (fun _ => rfl) rfl cw_X11 (by decide) rfl wd_446) ?_
  refine kk_c (j := 20) rfl (kk_aload_n (j := ⟨0, by decide⟩) (pc := 34) rfl rfl (by decide +kernel)) ?_
  refine kk_c (j := 21) rfl (kk_getI (f := 7) (ci := 11) (C := RX11) (T := TX11) (N := 14) (ix := 44) (pc := 35) rfl rfl (by decide +kernel) rfl (fun _ => rfl) rfl cw_X11 (by decide) rfl wd_450) ?_
  refine kk_c (j := 22) rfl (kk_aload_n (j := ⟨0, by decide⟩) (pc := 38) rfl rfl (by decide +kernel)) ?_
  refine kk_c (j := 23) rfl (kk_getS (f := 4) (ci := 11) (C := RX11) (T := TX11) (N := 14) (ix := 30) (pc := 39) rfl rfl (by decide +kernel) rfl (fun _ => rfl) rfl cw_X11 (by decide) rfl wd_447) ?_
  refine kk_c (j := 24) rfl (kk_virtual (y := yX9_made) (n := 0) (d' := 5) (t := 7) (T := TX9) (N := 11) (ix := 99) is_cr (pc := 42) rfl rfl (by decide +kernel) (by decide) (ct_X9_made l) rfl (fun _ => rfl) ce_fR_rec wd_373 wd_374 wd_375 wd_58) ?_
  refine kk_c (j := 25) rfl (kk_aastQ (pc := 45) rfl rfl (by decide +kernel) (fun _ => List.mem_of_getElem? (i := 3) rfl) kE_Q) ?_
  refine kk_c (j := 26) rfl (kk_aload_n (j := ⟨0, by decide⟩) (pc := 46) rfl rfl (by decide +kernel)) ?_
  refine kk_c (j := 27) rfl (kk_dup (pc := 47) rfl rfl (by decide +kernel)) ?_
  refine kk_c (j := 28) rfl (kk_getI (f := 7) (ci := 11) (C := RX11) (T := TX11) (N := 14) (ix := 44) (pc := 48) rfl rfl (by decide +kernel) rfl (fun _ => rfl) rfl cw_X11 (by decide) rfl wd_450) ?_
  refine kk_c (j := 29) rfl (kk_iconst (n := 1) (pc := 51) rfl rfl (by decide +kernel) (by decide)) ?_
  refine kk_c (j := 30) rfl (kk_iadd (pc := 52) rfl rfl (by decide +kernel)) ?_
  refine kk_c (j := 31) rfl (kk_putI (f := 7) (ci := 11) (C := RX11) (T := TX11) (N := 14) (ty := tyX11) (ix := 44) (pc := 53) rfl rfl (by decide +kernel) rfl (fun _ => rfl) rfl cw_X11 tyX11_ok nmX11 (by decide) rfl rfl rfl wd_450) ?_
  refine kk_c (j := 32) rfl (kk_aload_n (j := ⟨0, by decide⟩) (pc := 56) rfl rfl (by decide +kernel)) ?_
  refine kk_c (j := 33) rfl (kk_getI (f := 7) (ci := 11) (C := RX11) (T := TX11) (N := 14) (ix := 44) (pc := 57) rfl rfl (by decide +kernel) rfl (fun _ => rfl) rfl cw_X11 (by decide) rfl wd_450) ?_
  refine kk_c (j := 34) rfl (kk_iconst (n := 1) (pc := 60) rfl rfl (by decide +kernel) (by decide)) ?_
  refine kk_c (j := 35) rfl (kk_isub (pc := 61) rfl rfl (by decide +kernel)) ?_
  refine kk_c (j := 36) rfl (kk_iret (pc := 62) rfl (by decide +kernel) rfl) ?_
  exact trivial
noncomputable def F_X11_text := ce_fI tb_X11_text 2 (some 0)
theorem ct_X11_text (l : Launch) : ce_calleeK l yX11_text 0 51 3 324 (ce_wI F_X11_text) := ⟨_, _, _, ce_ctr_ofK (pcs := pc_X11_text) (by decide +kernel) (fun z => by cases z) rfl (ok_X11_text l) ce_fI_run, ce_tw_at wd_571 rfl, by decide, by decide +kernel, by decide +kernel, by decide +kernel⟩
