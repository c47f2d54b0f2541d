theorem kk_c {l : Launch} {cc : ByteArray} {own : String} {nL : Nat} {rt : Option FieldType} {d MC MS : Nat} {pcs : List Nat} {i j : Nat} {o : ce_Op} {r : List ce_Op} (hj : i + 1 = j) (h : ce_OkK l cc own nL rt d MC MS pcs i o) (hr : ce_OkLK l cc own nL rt d MC MS pcs j r) : ce_OkLK l cc own nL rt d MC MS pcs i (o :: r) := ⟨h, hj ▸ hr⟩
theorem kV_rec {tb : List ce_Op} {nL t : Nat} (a : List ce_V) (S : ce_S) (res : Option ce_V × ce_S) (h : ce_wV (ce_fV tb nL (some t)) a S = some res) : ∃ q as, a = .inr (.inl q) :: as := by
  obtain ⟨j, as, e⟩ := ce_fV_rec a S res h
  exact ⟨(t, j), as, e⟩
def pc_X3_init : List Nat := [0, 1, 4]
noncomputable def tb_X3_init : List ce_Op := [o_aload 0, o_kinit, o_vret]
theorem tl_X3_init : ce_TL tb_X3_init := by
  unfold tb_X3_init
  refine tl_c ta_aload ?_
  refine tl_c ta_kinit ?_
  refine tl_c ta_vret ?_
  exact trivial
set_option maxRecDepth 20000 in
theorem ok_X3_init (l : Launch) : ce_OkLK l cX3_init RX3 1 none 2 0 0 pc_X3_init 0 tb_X3_init := by
  unfold tb_X3_init
  refine kk_c (j := 1) rfl (kk_aload_n (j := ⟨0, by decide⟩) (pc := 0) rfl rfl (by decide +kernel)) ?_
  refine kk_c (j := 2) rfl (kk_oinit (ix := 1) (pc := 1) rfl rfl (by decide +kernel) (by decide) wd_138 wd_82 wd_83 rfl rfl rfl) ?_
  refine kk_c (j := 3) rfl (kk_vret (pc := 4) rfl (by decide +kernel) rfl) ?_
  exact trivial
noncomputable def F_X3_init := ce_fV tb_X3_init 1 (some 10)
theorem ct_X3_init (l : Launch) : ce_ini l yX3_init 0 2 0 0 (ce_wV F_X3_init) := ⟨_, _, ce_ctr_ofK (pcs := pc_X3_init) (by decide +kernel) (fun _ => rfl) rfl (ok_X3_init l) ce_fV_run, ce_tw_at wd_137 rfl, by decide, by decide +kernel, by decide +kernel, by decide +kernel⟩
def pc_X2_init : List Nat := [0, 1, 4]
noncomputable def tb_X2_init : List ce_Op := [o_aload 0, o_cv 1 F_X3_init 0 0 0 0, o_vret]
theorem tl_X2_init : ce_TL tb_X2_init := by
  unfold tb_X2_init
  refine tl_c ta_aload ?_
  refine tl_c ta_cv ?_
  refine tl_c ta_vret ?_
  exact trivial
set_option maxRecDepth 20000 in
theorem ok_X2_init (l : Launch) : ce_OkLK l cX2_init RX2 1 none 3 0 0 pc_X2_init 0 tb_X2_init := by
  unfold tb_X2_init
  refine kk_c (j := 1) rfl (kk_aload_n (j := ⟨0, by decide⟩) (pc := 0) rfl rfl (by decide +kernel)) ?_
  refine kk_c (j := 2) rfl (kk_initN (y := yX3_init) (n := 0) (d' := 2) (ix := 1) is_cv (pc := 1) rfl rfl (by decide +kernel) (by decide) (ct_X3_init l) rfl kV_rec (by decide) wd_136 wd_59) ?_
  refine kk_c (j := 3) rfl (kk_vret (pc := 4) rfl (by decide +kernel) rfl) ?_
  exact trivial
noncomputable def F_X2_init := ce_fV tb_X2_init 1 (some 10)
theorem ct_X2_init (l : Launch) : ce_ini l yX2_init 0 3 0 0 (ce_wV F_X2_init) := ⟨_, _, ce_ctr_ofK (pcs := pc_X2_init) (by decide +kernel) (fun _ => rfl) rfl (ok_X2_init l) ce_fV_run, ce_tw_at wd_144 rfl, by decide, by decide +kernel, by decide +kernel, by decide +kernel⟩
def pc_X8_init : List Nat := [0, 1, 4]
noncomputable def tb_X8_init : List ce_Op := [o_aload 0, o_cv 1 F_X3_init 0 0 0 0, o_vret]
theorem tl_X8_init : ce_TL tb_X8_init := by
  unfold tb_X8_init
  refine tl_c ta_aload ?_
  refine tl_c ta_cv ?_
  refine tl_c ta_vret ?_
  exact trivial
set_option maxRecDepth 20000 in
theorem ok_X8_init (l : Launch) : ce_OkLK l cX8_init RX8 1 none 3 0 0 pc_X8_init 0 tb_X8_init := by
  unfold tb_X8_init
  refine kk_c (j := 1) rfl (kk_aload_n (j := ⟨0, by decide⟩) (pc := 0) rfl rfl (by decide +kernel)) ?_
  refine kk_c (j := 2) rfl (kk_initN (y := yX3_init) (n := 0) (d' := 2) (ix := 1) is_cv (pc := 1) rfl rfl (by decide +kernel) (by decide) (ct_X3_init l) rfl kV_rec (by decide) wd_136 wd_59) ?_
  refine kk_c (j := 3) rfl (kk_vret (pc := 4) rfl (by decide +kernel) rfl) ?_
  exact trivial
noncomputable def F_X8_init := ce_fV tb_X8_init 1 (some 10)
theorem ct_X8_init (l : Launch) : ce_ini l yX8_init 0 3 0 0 (ce_wV F_X8_init) := ⟨_, _, ce_ctr_ofK (pcs := pc_X8_init) (by decide +kernel) (fun _ => rfl) rfl (ok_X8_init l) ce_fV_run, ce_tw_at wd_151 rfl, by decide, by decide +kernel, by decide +kernel, by decide +kernel⟩
def pc_X7_init : List Nat := [0, 1, 4]
noncomputable def tb_X7_init : List ce_Op := [o_aload 0, o_cv 1 F_X8_init 0 0 0 0, o_vret]
theorem tl_X7_init : ce_TL tb_X7_init := by
  unfold tb_X7_init
  refine tl_c ta_aload ?_
  refine tl_c ta_cv ?_
  refine tl_c ta_vret ?_
  exact trivial
set_option maxRecDepth 20000 in
theorem ok_X7_init (l : Launch) : ce_OkLK l cX7_init RX7 1 none 4 0 0 pc_X7_init 0 tb_X7_init := by
  unfold tb_X7_init
  refine kk_c (j := 1) rfl (kk_aload_n (j := ⟨0, by decide⟩) (pc := 0) rfl rfl (by decide +kernel)) ?_
  refine kk_c (j := 2) rfl (kk_initN (y := yX8_init) (n := 0) (d' := 3) (ix := 1) is_cv (pc := 1) rfl rfl (by decide +kernel) (by decide) (ct_X8_init l) rfl kV_rec (by decide) wd_150 wd_61) ?_
  refine kk_c (j := 3) rfl (kk_vret (pc := 4) rfl (by decide +kernel) rfl) ?_
  exact trivial
noncomputable def F_X7_init := ce_fV tb_X7_init 1 (some 10)
theorem ct_X7_init (l : Launch) : ce_ini l yX7_init 0 4 0 0 (ce_wV F_X7_init) := ⟨_, _, ce_ctr_ofK (pcs := pc_X7_init) (by decide +kernel) (fun _ => rfl) rfl (ok_X7_init l) ce_fV_run, ce_tw_at wd_158 rfl, by decide, by decide +kernel, by decide +kernel, by decide +kernel⟩
def pc_X0_init : List Nat := [0, 1, 4]
noncomputable def tb_X0_init : List ce_Op := [o_aload 0, o_cv 1 F_X2_init 0 0 0 0, o_vret]
theorem tl_X0_init : ce_TL tb_X0_init := by
  unfold tb_X0_init
  refine tl_c ta_aload ?_
  refine tl_c ta_cv ?_
  refine tl_c ta_vret ?_
  exact trivial
set_option maxRecDepth 20000 in
theorem ok_X0_init (l : Launch) : ce_OkLK l cX0_init RX0 1 none 4 0 0 pc_X0_init 0 tb_X0_init := by
  unfold tb_X0_init
  refine kk_c (j := 1) rfl (kk_aload_n (j := ⟨0, by decide⟩) (pc := 0) rfl rfl (by decide +kernel)) ?_
  refine kk_c (j := 2) rfl (kk_initN (y := yX2_init) (n := 0) (d' := 3) (ix := 1) is_cv (pc := 1) rfl rfl (by decide +kernel) (by decide) (ct_X2_init l) rfl kV_rec (by decide) wd_143 wd_60) ?_
  refine kk_c (j := 3) rfl (kk_vret (pc := 4) rfl (by decide +kernel) rfl) ?_
  exact trivial
noncomputable def F_X0_init := ce_fV tb_X0_init 1 (some 10)
theorem ct_X0_init (l : Launch) : ce_ini l yX0_init 0 4 0 0 (ce_wV F_X0_init) := ⟨_, _, ce_ctr_ofK (pcs := pc_X0_init) (by decide +kernel) (fun _ => rfl) rfl (ok_X0_init l) ce_fV_run, ce_tw_at wd_165 rfl, by decide, by decide +kernel, by decide +kernel, by decide +kernel⟩
def pc_X1_init : List Nat := [0, 1, 4]
noncomputable def tb_X1_init : List ce_Op := [o_aload 0, o_cv 1 F_X2_init 0 0 0 0, o_vret]
theorem tl_X1_init : ce_TL tb_X1_init := by
  unfold tb_X1_init
  refine tl_c ta_aload ?_
  refine tl_c ta_cv ?_
  refine tl_c ta_vret ?_
  exact trivial
set_option maxRecDepth 20000 in
theorem ok_X1_init (l : Launch) : ce_OkLK l cX1_init RX1 1 none 4 0 0 pc_X1_init 0 tb_X1_init := by
  unfold tb_X1_init
  refine kk_c (j := 1) rfl (kk_aload_n (j := ⟨0, by decide⟩) (pc := 0) rfl rfl (by decide +kernel)) ?_
  refine kk_c (j := 2) rfl (kk_initN (y := yX2_init) (n := 0) (d' := 3) (ix := 1) is_cv (pc := 1) rfl rfl (by decide +kernel) (by decide) (ct_X2_init l) rfl kV_rec (by decide) wd_143 wd_60) ?_
  refine kk_c (j := 3) rfl (kk_vret (pc := 4) rfl (by decide +kernel) rfl) ?_
  exact trivial
noncomputable def F_X1_init := ce_fV tb_X1_init 1 (some 10)
theorem ct_X1_init (l : Launch) : ce_ini l yX1_init 0 4 0 0 (ce_wV F_X1_init) := ⟨_, _, ce_ctr_ofK (pcs := pc_X1_init) (by decide +kernel) (fun _ => rfl) rfl (ok_X1_init l) ce_fV_run, ce_tw_at wd_172 rfl, by decide, by decide +kernel, by decide +kernel, by decide +kernel⟩
def pc_X4_init : List Nat := [0, 1, 4, 5, 6, 9, 10, 12, 15, 16, 19, 22, 23, 24, 27, 28, 29, 32]
noncomputable def tb_X4_init : List ce_Op := [o_aload 0, o_kinit, o_aload 0, o_int 4, o_kputI 12 0, o_aload 0, o_int 12, o_kputI 12 1, o_aload 0, o_int 250, o_kputI 12 2, o_aload 0, o_int 0, o_kputI 12 3, o_aload 0, o_aload 1, o_kputM 12 4 13, o_vret]
theorem tl_X4_init : ce_TL tb_X4_init := by
  unfold tb_X4_init
  refine tl_c ta_aload ?_
  refine tl_c ta_kinit ?_
  refine tl_c ta_aload ?_
  refine tl_c ta_int ?_
  refine tl_c ta_kputI ?_
  refine tl_c ta_aload ?_
  refine tl_c ta_int ?_
  refine tl_c ta_kputI ?_
  refine tl_c ta_aload ?_
  refine tl_c ta_int ?_
  refine tl_c ta_kputI ?_
  refine tl_c ta_aload ?_
  refine tl_c ta_int ?_
  refine tl_c ta_kputI ?_
  refine tl_c ta_aload ?_
  refine tl_c ta_aload ?_
  refine tl_c ta_kputM ?_
  refine tl_c ta_vret ?_
  exact trivial
set_option maxRecDepth 20000 in
theorem ok_X4_init (l : Launch) : ce_OkLK l cX4_init RX4 2 none 2 0 0 pc_X4_init 0 tb_X4_init := by
  unfold tb_X4_init
  refine kk_c (j := 1) rfl (kk_aload_n (j := ⟨0, by decide⟩) (pc := 0) rfl rfl (by decide +kernel)) ?_
  refine kk_c (j := 2) rfl (kk_oinit (ix := 3) (pc := 1) rfl rfl (by decide +kernel) (by decide) wd_417 wd_82 wd_83 rfl rfl rfl) ?_
  refine kk_c (j := 3) rfl (kk_aload_n (j := ⟨0, by decide⟩) (pc := 4) rfl rfl (by decide +kernel)) ?_
  refine kk_c (j := 4) rfl (kk_iconst (n := 4) (pc := 5) rfl rfl (by decide +kernel) (by decide)) ?_
  refine kk_c (j := 5) rfl (kk_putI (f := 0) (ci := 4) (C := RX4) (T := TX4) (N := 5) (ty := tyX4) (ix := 9) (pc := 6) rfl rfl (by decide +kernel) rfl (fun _ => rfl) rfl cw_X4 tyX4_ok nmX4 (by decide) rfl rfl rfl wd_418) ?_
  refine kk_c (j := 6) rfl (kk_aload_n (j := ⟨0, by decide⟩) (pc := 9) rfl rfl (by decide +kernel)) ?_
  refine kk_c (j := 7) rfl (kk_bipush (n := 12) (pc := 10) rfl rfl (by decide +kernel) (by decide)) ?_
  refine kk_c (j := 8) rfl (kk_putI (f := 1) (ci := 4) (C := RX4) (T := TX4) (N := 5) (ty := tyX4) (ix := 15) (pc := 12) rfl rfl (by decide +kernel) rfl (fun _ => rfl) rfl cw_X4 tyX4_ok nmX4 (by decide) rfl rfl rfl wd_421) ?_
  refine kk_c (j := 9) rfl (kk_aload_n (j := ⟨0, by decide⟩) (pc := 15) rfl rfl (by decide +kernel)) ?_
  refine kk_c (j := 10) rfl (kk_sipush (n := 250) (pc := 16) rfl rfl (by decide +kernel) (by decide)) ?_
  refine kk_c (j := 11) rfl (kk_putI (f := 2) (ci := 4) (C := RX4) (T := TX4) (N := 5) (ty := tyX4) (ix := 18) (pc := 19) rfl rfl (by decide +kernel) rfl (fun _ => rfl) rfl cw_X4 tyX4_ok nmX4 (by decide) rfl rfl rfl wd_425) ?_
  refine kk_c (j := 12) rfl (kk_aload_n (j := ⟨0, by decide⟩) (pc := 22) rfl rfl (by decide +kernel)) ?_
  refine kk_c (j := 13) rfl (kk_iconst (n := 0) (pc := 23) rfl rfl (by decide +kernel) (by decide)) ?_
  refine kk_c (j := 14) rfl (kk_putI (f := 3) (ci := 4) (C := RX4) (T := TX4) (N := 5) (ty := tyX4) (ix := 21) (pc := 24) rfl rfl (by decide +kernel) rfl (fun _ => rfl) rfl cw_X4 tyX4_ok nmX4 (by decide) rfl rfl rfl wd_428) ?_
  refine kk_c (j := 15) rfl (kk_aload_n (j := ⟨0, by decide⟩) (pc := 27) rfl rfl (by decide +kernel)) ?_
  refine kk_c (j := 16) rfl (kk_aload_n (j := ⟨1, by decide⟩) (pc := 28) rfl rfl (by decide +kernel)) ?_
  refine kk_c (j := 17) rfl (kk_putM (f := 4) (ci := 4) (C := RX4) (T := TX4) (N := 5) (ty := tyX4) (ix := 24) (pc := 29) rfl rfl (by decide +kernel) rfl (fun _ => rfl) rfl cw_X4 tyX4_ok nmX4 (by decide) rfl rfl (fun _ => ⟨rfl, rfl⟩) wd_430) ?_
  refine kk_c (j := 18) rfl (kk_vret (pc := 32) rfl (by decide +kernel) rfl) ?_
  exact trivial
noncomputable def F_X4_init := ce_fV tb_X4_init 2 (some 12)
theorem ct_X4_init (l : Launch) : ce_ini l yX4_init 1 2 0 0 (ce_wV F_X4_init) := ⟨_, _, ce_ctr_ofK (pcs := pc_X4_init) (by decide +kernel) (fun _ => rfl) rfl (ok_X4_init l) ce_fV_run, ce_tw_at wd_416 rfl, by decide, by decide +kernel, by decide +kernel, by decide +kernel⟩
def pc_X5_init : List Nat := [0, 1, 4, 5, 6, 9, 10, 11, 14, 15, 16, 19, 20, 21, 24, 25, 26, 29, 30, 31, 34, 35, 36, 39, 40, 41, 44]
noncomputable def tb_X5_init : List ce_Op := [o_aload 0, o_kinit, o_aload 0, o_int 0, o_kputI 11 1, o_aload 0, o_int 0, o_kputI 11 2, o_aload 0, o_int 0, o_kputI 11 3, o_aload 0, o_int 0, o_kputI 11 4, o_aload 0, o_int 0, o_kputI 11 5, o_aload 0, o_int 0, o_kputI 11 6, o_aload 0, o_int (-1), o_kputI 11 7, o_aload 0, o_aload 1, o_kputM 11 0 10, o_vret]
theorem tl_X5_init : ce_TL tb_X5_init := by
  unfold tb_X5_init
  refine tl_c ta_aload ?_
  refine tl_c ta_kinit ?_
  refine tl_c ta_aload ?_
  refine tl_c ta_int ?_
  refine tl_c ta_kputI ?_
  refine tl_c ta_aload ?_
  refine tl_c ta_int ?_
  refine tl_c ta_kputI ?_
  refine tl_c ta_aload ?_
  refine tl_c ta_int ?_
  refine tl_c ta_kputI ?_
  refine tl_c ta_aload ?_
  refine tl_c ta_int ?_
  refine tl_c ta_kputI ?_
  refine tl_c ta_aload ?_
  refine tl_c ta_int ?_
  refine tl_c ta_kputI ?_
  refine tl_c ta_aload ?_
  refine tl_c ta_int ?_
  refine tl_c ta_kputI ?_
  refine tl_c ta_aload ?_
  refine tl_c ta_int ?_
  refine tl_c ta_kputI ?_
  refine tl_c ta_aload ?_
  refine tl_c ta_aload ?_
  refine tl_c ta_kputM ?_
  refine tl_c ta_vret ?_
  exact trivial
set_option maxRecDepth 20000 in
theorem ok_X5_init (l : Launch) : ce_OkLK l cX5_init RX5 2 none 2 0 0 pc_X5_init 0 tb_X5_init := by
  unfold tb_X5_init
  refine kk_c (j := 1) rfl (kk_aload_n (j := ⟨0, by decide⟩) (pc := 0) rfl rfl (by decide +kernel)) ?_
  refine kk_c (j := 2) rfl (kk_oinit (ix := 3) (pc := 1) rfl rfl (by decide +kernel) (by decide) wd_179 wd_82 wd_83 rfl rfl rfl) ?_
  refine kk_c (j := 3) rfl (kk_aload_n (j := ⟨0, by decide⟩) (pc := 4) rfl rfl (by decide +kernel)) ?_
  refine kk_c (j := 4) rfl (kk_iconst (n := 0) (pc := 5) rfl rfl (by decide +kernel) (by decide)) ?_
  refine kk_c (j := 5) rfl (kk_putI (f := 1) (ci := 5) (C := RX5) (T := TX5) (N := 8) (ty := tyX5) (ix := 9) (pc := 6) rfl rfl (by decide +kernel) rfl (fun _ => rfl) rfl cw_X5 tyX5_ok nmX5 (by decide) rfl rfl rfl wd_182) ?_
  refine kk_c (j := 6) rfl (kk_aload_n (j := ⟨0, by decide⟩) (pc := 9) rfl rfl (by decide +kernel)) ?_
  refine kk_c (j := 7) rfl (kk_iconst (n := 0) (pc := 10) rfl rfl (by decide +kernel) (by decide)) ?_
  refine kk_c (j := 8) rfl (kk_putI (f := 2) (ci := 5) (C := RX5) (T := TX5) (N := 8) (ty := tyX5) (ix := 15) (pc := 11) rfl rfl (by decide +kernel) rfl (fun _ => rfl) rfl cw_X5 tyX5_ok nmX5 (by decide) rfl rfl rfl wd_184) ?_
  refine kk_c (j := 9) rfl (kk_aload_n (j := ⟨0, by decide⟩) (pc := 14) rfl rfl (by decide +kernel)) ?_
  refine kk_c (j := 10) rfl (kk_iconst (n := 0) (pc := 15) rfl rfl (by decide +kernel) (by decide)) ?_
  refine kk_c (j := 11) rfl (kk_putI (f := 3) (ci := 5) (C := RX5) (T := TX5) (N := 8) (ty := tyX5) (ix := 18) (pc := 16) rfl rfl (by decide +kernel) rfl (fun _ => rfl) rfl cw_X5 tyX5_ok nmX5 (by decide) rfl rfl rfl wd_187) ?_
  refine kk_c (j := 12) rfl (kk_aload_n (j := ⟨0, by decide⟩) (pc := 19) rfl rfl (by decide +kernel)) ?_
  refine kk_c (j := 13) rfl (kk_iconst (n := 0) (pc := 20) rfl rfl (by decide +kernel) (by decide)) ?_
  refine kk_c (j := 14) rfl (kk_putI (f := 4) (ci := 5) (C := RX5) (T := TX5) (N := 8) (ty := tyX5) (ix := 21) (pc := 21) rfl rfl (by decide +kernel) rfl (fun _ => rfl) rfl cw_X5 tyX5_ok nmX5 (by decide) rfl rfl rfl wd_189) ?_
  refine kk_c (j := 15) rfl (kk_aload_n (j := ⟨0, by decide⟩) (pc := 24) rfl rfl (by decide +kernel)) ?_
  refine kk_c (j := 16) rfl (kk_iconst (n := 0) (pc := 25) rfl rfl (by decide +kernel) (by decide)) ?_
  refine kk_c (j := 17) rfl (kk_putI (f := 5) (ci := 5) (C := RX5) (T := TX5) (N := 8) (ty := tyX5) (ix := 24) (pc := 26) rfl rfl (by decide +kernel) rfl (fun _ => rfl) rfl cw_X5 tyX5_ok nmX5 (by decide) rfl rfl rfl wd_192) ?_
  refine kk_c (j := 18) rfl (kk_aload_n (j := ⟨0, by decide⟩) (pc := 29) rfl rfl (by decide +kernel)) ?_
  refine kk_c (j := 19) rfl (kk_iconst (n := 0) (pc := 30) rfl rfl (by decide +kernel) (by decide)) ?_
  refine kk_c (j := 20) rfl (kk_putI (f := 6) (ci := 5) (C := RX5) (T := TX5) (N := 8) (ty := tyX5) (ix := 27) (pc := 31) rfl rfl (by decide +kernel) rfl (fun _ => rfl) rfl cw_X5 tyX5_ok nmX5 (by decide) rfl rfl rfl wd_195) ?_
  refine kk_c (j := 21) rfl (kk_aload_n (j := ⟨0, by decide⟩) (pc := 34) rfl rfl (by decide +kernel)) ?_
  refine kk_c (j := 22) rfl (kk_iconst (n := (-1)) (pc := 35) rfl rfl (by decide +kernel) (by decide)) ?_
  refine kk_c (j := 23) rfl (kk_putI (f := 7) (ci := 5) (C := RX5) (T := TX5) (N := 8) (ty := tyX5) (ix := 30) (pc := 36) rfl rfl (by decide +kernel) rfl (fun _ => rfl) rfl cw_X5 tyX5_ok nmX5 (by decide) rfl rfl rfl wd_197) ?_
  refine kk_c (j := 24) rfl (kk_aload_n (j := ⟨0, by decide⟩) (pc := 39) rfl rfl (by decide +kernel)) ?_
  refine kk_c (j := 25) rfl (kk_aload_n (j := ⟨1, by decide⟩) (pc := 40) rfl rfl (by decide +kernel)) ?_
  refine kk_c (j := 26) rfl (kk_putM (f := 0) (ci := 5) (C := RX5) (T := TX5) (N := 8) (ty := tyX5) (ix := 33) (pc := 41) rfl rfl (by decide +kernel) rfl (fun _ => rfl) rfl cw_X5 tyX5_ok nmX5 (by decide) rfl rfl (fun _ => ⟨rfl, rfl⟩) wd_180) ?_
  refine kk_c (j := 27) rfl (kk_vret (pc := 44) rfl (by decide +kernel) rfl) ?_
  exact trivial
noncomputable def F_X5_init := ce_fV tb_X5_init 2 (some 11)
theorem ct_X5_init (l : Launch) : ce_ini l yX5_init 1 2 0 0 (ce_wV F_X5_init) := ⟨_, _, ce_ctr_ofK (pcs := pc_X5_init) (by decide +kernel) (fun _ => rfl) rfl (ok_X5_init l) ce_fV_run, ce_tw_at wd_178 rfl, by decide, by decide +kernel, by decide +kernel, by decide +kernel⟩
def pc_X6_init : List Nat := [0, 1, 4, 5, 7, 9, 12, 13, 14, 17, 18, 19, 22]
noncomputable def tb_X6_init : List ce_Op := [o_aload 0, o_kinit, o_aload 0, o_int 40, o_knewa 16 1 40, o_kputS 15 0 16 (ce_k0), o_aload 0, o_int (-1), o_kputI 15 1, o_aload 0, o_int 0, o_kputI 15 2, o_vret]
theorem tl_X6_init : ce_TL tb_X6_init := by
  unfold tb_X6_init
  refine tl_c ta_aload ?_
  refine tl_c ta_kinit ?_
  refine tl_c ta_aload ?_
  refine tl_c ta_int ?_
  refine tl_c ta_knewa ?_
  refine tl_c ta_kputS ?_
  refine tl_c ta_aload ?_
  refine tl_c ta_int ?_
  refine tl_c ta_kputI ?_
  refine tl_c ta_aload ?_
  refine tl_c ta_int ?_
  refine tl_c ta_kputI ?_
  refine tl_c ta_vret ?_
  exact trivial
set_option maxRecDepth 20000 in
theorem ok_X6_init (l : Launch) : ce_OkLK l cX6_init RX6 1 none 2 1 40 pc_X6_init 0 tb_X6_init := by
  unfold tb_X6_init
  refine kk_c (j := 1) rfl (kk_aload_n (j := ⟨0, by decide⟩) (pc := 0) rfl rfl (by decide +kernel)) ?_
  refine kk_c (j := 2) rfl (kk_oinit (ix := 3) (pc := 1) rfl rfl (by decide +kernel) (by decide) wd_220 wd_82 wd_83 rfl rfl rfl) ?_
  refine kk_c (j := 3) rfl (kk_aload_n (j := ⟨0, by decide⟩) (pc := 4) rfl rfl (by decide +kernel)) ?_
  refine kk_c (j := 4) rfl (kk_bipush (n := 40) (pc := 5) rfl rfl (by decide +kernel) (by decide)) ?_
  refine kk_c (j := 5) rfl (kk_newa (pc := 7) rfl rfl (by decide +kernel) rfl wd_131) ?_
  refine kk_c (j := 6) rfl (kk_putSF (zz := 0) (f := 0) (ci := 6) (C := RX6) (T := TX6) (N := 3) (ty := tyX6) (ix := 9) (pc := 9) rfl rfl (by decide +kernel) rfl (fun _ => rfl) rfl cw_X6 tyX6_ok nmX6 (by decide) rfl rfl rfl rfl (fun _ => ⟨rfl, rfl⟩) wd_221) ?_
  refine kk_c (j := 7) rfl (kk_aload_n (j := ⟨0, by decide⟩) (pc := 12) rfl rfl (by decide +kernel)) ?_
  refine kk_c (j := 8) rfl (kk_iconst (n := (-1)) (pc := 13) rfl rfl (by decide +kernel) (by decide)) ?_
  refine kk_c (j := 9) rfl (kk_putI (f := 1) (ci := 6) (C := RX6) (T := TX6) (N := 3) (ty := tyX6) (ix := 15) (pc := 14) rfl rfl (by decide +kernel) rfl (fun _ => rfl) rfl cw_X6 tyX6_ok nmX6 (by decide) rfl rfl rfl wd_223) ?_
  refine kk_c (j := 10) rfl (kk_aload_n (j := ⟨0, by decide⟩) (pc := 17) rfl rfl (by decide +kernel)) ?_
  refine kk_c (j := 11) rfl (kk_iconst (n := 0) (pc := 18) rfl rfl (by decide +kernel) (by decide)) ?_
  refine kk_c (j := 12) rfl (kk_putI (f := 2) (ci := 6) (C := RX6) (T := TX6) (N := 3) (ty := tyX6) (ix := 19) (pc := 19) rfl rfl (by decide +kernel) rfl (fun _ => rfl) rfl cw_X6 tyX6_ok nmX6 (by decide) rfl rfl rfl wd_225) ?_
  refine kk_c (j := 13) rfl (kk_vret (pc := 22) rfl (by decide +kernel) rfl) ?_
  exact trivial
noncomputable def F_X6_init := ce_fV tb_X6_init 1 (some 15)
theorem ct_X6_init (l : Launch) : ce_ini l yX6_init 0 2 1 40 (ce_wV F_X6_init) := ⟨_, _, ce_ctr_ofK (pcs := pc_X6_init) (by decide +kernel) (fun _ => rfl) rfl (ok_X6_init l) ce_fV_run, ce_tw_at wd_219 rfl, by decide, by decide +kernel, by decide +kernel, by decide +kernel⟩
def pc_X9_init : List Nat := [0, 1, 4, 5, 6, 9, 10, 13, 15, 18, 19, 22, 24, 27, 28, 29, 32, 33, 34, 37, 38, 39, 42, 43, 44, 47, 48, 49, 52, 53, 54, 57, 58, 59, 62, 63, 64, 67]
noncomputable def tb_X9_init : List ce_Op := [o_aload 0, o_kinit, o_aload 0, o_int 0, o_kputI 7 0, o_aload 0, o_int 160, o_knewa 8 2 320, o_kputS 7 1 8 (fun _ => 0), o_aload 0, o_int 160, o_knewa 9 2 320, o_kputS 7 2 9 (fun _ => 0), o_aload 0, o_int 0, o_kputI 7 3, o_aload 0, o_int 0, o_kputI 7 4, o_aload 0, o_int 0, o_kputI 7 5, o_aload 0, o_int 0, o_kputI 7 6, o_aload 0, o_int 0, o_kputI 7 7, o_aload 0, o_int 0, o_kputI 7 8, o_aload 0, o_int 0, o_kputI 7 9, o_aload 0, o_int (-1), o_kputI 7 10, o_vret]
theorem tl_X9_init : ce_TL tb_X9_init := by
  unfold tb_X9_init
  refine tl_c ta_aload ?_
  refine tl_c ta_kinit ?_
  refine tl_c ta_aload ?_
  refine tl_c ta_int ?_
  refine tl_c ta_kputI ?_
  refine tl_c ta_aload ?_
  refine tl_c ta_int ?_
  refine tl_c ta_knewa ?_
  refine tl_c ta_kputS ?_
  refine tl_c ta_aload ?_
  refine tl_c ta_int ?_
  refine tl_c ta_knewa ?_
  refine tl_c ta_kputS ?_
  refine tl_c ta_aload ?_
  refine tl_c ta_int ?_
  refine tl_c ta_kputI ?_
  refine tl_c ta_aload ?_
  refine tl_c ta_int ?_
  refine tl_c ta_kputI ?_
  refine tl_c ta_aload ?_
  refine tl_c ta_int ?_
  refine tl_c ta_kputI ?_
  refine tl_c ta_aload ?_
  refine tl_c ta_int ?_
  refine tl_c ta_kputI ?_
  refine tl_c ta_aload ?_
  refine tl_c ta_int ?_
  refine tl_c ta_kputI ?_
  refine tl_c ta_aload ?_
  refine tl_c ta_int ?_
  refine tl_c ta_kputI ?_
  refine tl_c ta_aload ?_
  refine tl_c ta_int ?_
  refine tl_c ta_kputI ?_
  refine tl_c ta_aload ?_
  refine tl_c ta_int ?_
  refine tl_c ta_kputI ?_
  refine tl_c ta_vret ?_
  exact trivial
set_option maxRecDepth 20000 in
theorem ok_X9_init (l : Launch) : ce_OkLK l cX9_init RX9 1 none 2 2 320 pc_X9_init 0 tb_X9_init := by
  unfold tb_X9_init
  refine kk_c (j := 1) rfl (kk_aload_n (j := ⟨0, by decide⟩) (pc := 0) rfl rfl (by decide +kernel)) ?_
  refine kk_c (j := 2) rfl (kk_oinit (ix := 3) (pc := 1) rfl rfl (by decide +kernel) (by decide) wd_95 wd_82 wd_83 rfl rfl rfl) ?_
  refine kk_c (j := 3) rfl (kk_aload_n (j := ⟨0, by decide⟩) (pc := 4) rfl rfl (by decide +kernel)) ?_
  refine kk_c (j := 4) rfl (kk_iconst (n := 0) (pc := 5) rfl rfl (by decide +kernel) (by decide)) ?_
  refine kk_c (j := 5) rfl (kk_putI (f := 0) (ci := 9) (C := RX9) (T := TX9) (N := 11) (ty := tyX9) (ix := 9) (pc := 6) rfl rfl (by decide +kernel) rfl (fun _ => rfl) rfl cw_X9 tyX9_ok nmX9 (by decide) rfl rfl rfl wd_96) ?_
  refine kk_c (j := 6) rfl (kk_aload_n (j := ⟨0, by decide⟩) (pc := 9) rfl rfl (by decide +kernel)) ?_
  refine kk_c (j := 7) rfl (kk_sipush (n := 160) (pc := 10) rfl rfl (by decide +kernel) (by decide)) ?_
  refine kk_c (j := 8) rfl (kk_newa (pc := 13) rfl rfl (by decide +kernel) rfl wd_131) ?_
  refine kk_c (j := 9) rfl (kk_putSF (zz := 0) (f := 1) (ci := 9) (C := RX9) (T := TX9) (N := 11) (ty := tyX9) (ix := 15) (pc := 15) rfl rfl (by decide +kernel) rfl (fun _ => rfl) rfl cw_X9 tyX9_ok nmX9 (by decide) rfl rfl rfl rfl (fun _ => ⟨rfl, rfl⟩) wd_98) ?_
  refine kk_c (j := 10) rfl (kk_aload_n (j := ⟨0, by decide⟩) (pc := 18) rfl rfl (by decide +kernel)) ?_
  refine kk_c (j := 11) rfl (kk_sipush (n := 160) (pc := 19) rfl rfl (by decide +kernel) (by decide)) ?_
  refine kk_c (j := 12) rfl (kk_newa (pc := 22) rfl rfl (by decide +kernel) rfl wd_131) ?_
  refine kk_c (j := 13) rfl (kk_putSF (zz := 0) (f := 2) (ci := 9) (C := RX9) (T := TX9) (N := 11) (ty := tyX9) (ix := 19) (pc := 24) rfl rfl (by decide +kernel) rfl (fun _ => rfl) rfl cw_X9 tyX9_ok nmX9 (by decide) rfl rfl rfl rfl (fun _ => ⟨rfl, rfl⟩) wd_99) ?_
  refine kk_c (j := 14) rfl (kk_aload_n (j := ⟨0, by decide⟩) (pc := 27) rfl rfl (by decide +kernel)) ?_
  refine kk_c (j := 15) rfl (kk_iconst (n := 0) (pc := 28) rfl rfl (by decide +kernel) (by decide)) ?_
  refine kk_c (j := 16) rfl (kk_putI (f := 3) (ci := 9) (C := RX9) (T := TX9) (N := 11) (ty := tyX9) (ix := 22) (pc := 29) rfl rfl (by decide +kernel) rfl (fun _ => rfl) rfl cw_X9 tyX9_ok nmX9 (by decide) rfl rfl rfl wd_100) ?_
  refine kk_c (j := 17) rfl (kk_aload_n (j := ⟨0, by decide⟩) (pc := 32) rfl rfl (by decide +kernel)) ?_
  refine kk_c (j := 18) rfl (kk_iconst (n := 0) (pc := 33) rfl rfl (by decide +kernel) (by decide)) ?_
  refine kk_c (j := 19) rfl (kk_putI (f := 4) (ci := 9) (C := RX9) (T := TX9) (N := 11) (ty := tyX9) (ix := 25) (pc := 34) rfl rfl (by decide +kernel) rfl (fun _ => rfl) rfl cw_X9 tyX9_ok nmX9 (by decide) rfl rfl rfl wd_101) ?_
  refine kk_c (j := 20) rfl (kk_aload_n (j := ⟨0, by decide⟩) (pc := 37) rfl rfl (by decide +kernel)) ?_
  refine kk_c (j := 21) rfl (kk_iconst (n := 0) (pc := 38) rfl rfl (by decide +kernel) (by decide)) ?_
  refine kk_c (j := 22) rfl (kk_putI (f := 5) (ci := 9) (C := RX9) (T := TX9) (N := 11) (ty := tyX9) (ix := 28) (pc := 39) rfl rfl (by decide +kernel) rfl (fun _ => rfl) rfl cw_X9 tyX9_ok nmX9 (by decide) rfl rfl rfl wd_102) ?_
  refine kk_c (j := 23) rfl (kk_aload_n (j := ⟨0, by decide⟩) (pc := 42) rfl rfl (by decide +kernel)) ?_
  refine kk_c (j := 24) rfl (kk_iconst (n := 0) (pc := 43) rfl rfl (by decide +kernel) (by decide)) ?_
  refine kk_c (j := 25) rfl (kk_putI (f := 6) (ci := 9) (C := RX9) (T := TX9) (N := 11) (ty := tyX9) (ix := 31) (pc := 44) rfl rfl (by decide +kernel) rfl (fun _ => rfl) rfl cw_X9 tyX9_ok nmX9 (by decide) rfl rfl rfl wd_103) ?_
  refine kk_c (j := 26) rfl (kk_aload_n (j := ⟨0, by decide⟩) (pc := 47) rfl rfl (by decide +kernel)) ?_
  refine kk_c (j := 27) rfl (kk_iconst (n := 0) (pc := 48) rfl rfl (by decide +kernel) (by decide)) ?_
  refine kk_c (j := 28) rfl (kk_putI (f := 7) (ci := 9) (C := RX9) (T := TX9) (N := 11) (ty := tyX9) (ix := 34) (pc := 49) rfl rfl (by decide +kernel) rfl (fun _ => rfl) rfl cw_X9 tyX9_ok nmX9 (by decide) rfl rfl rfl wd_104) ?_
  refine kk_c (j := 29) rfl (kk_aload_n (j := ⟨0, by decide⟩) (pc := 52) rfl rfl (by decide +kernel)) ?_
  refine kk_c (j := 30) rfl (kk_iconst (n := 0) (pc := 53) rfl rfl (by decide +kernel) (by decide)) ?_
  refine kk_c (j := 31) rfl (kk_putI (f := 8) (ci := 9) (C := RX9) (T := TX9) (N := 11) (ty := tyX9) (ix := 37) (pc := 54) rfl rfl (by decide +kernel) rfl (fun _ => rfl) rfl cw_X9 tyX9_ok nmX9 (by decide) rfl rfl rfl wd_105) ?_
  refine kk_c (j := 32) rfl (kk_aload_n (j := ⟨0, by decide⟩) (pc := 57) rfl rfl (by decide +kernel)) ?_
  refine kk_c (j := 33) rfl (kk_iconst (n := 0) (pc := 58) rfl rfl (by decide +kernel) (by decide)) ?_
  refine kk_c (j := 34) rfl (kk_putI (f := 9) (ci := 9) (C := RX9) (T := TX9) (N := 11) (ty := tyX9) (ix := 40) (pc := 59) rfl rfl (by decide +kernel) rfl (fun _ => rfl) rfl cw_X9 tyX9_ok nmX9 (by decide) rfl rfl rfl wd_106) ?_
  refine kk_c (j := 35) rfl (kk_aload_n (j := ⟨0, by decide⟩) (pc := 62) rfl rfl (by decide +kernel)) ?_
  refine kk_c (j := 36) rfl (kk_iconst (n := (-1)) (pc := 63) rfl rfl (by decide +kernel) (by decide)) ?_
  refine kk_c (j := 37) rfl (kk_putI (f := 10) (ci := 9) (C := RX9) (T := TX9) (N := 11) (ty := tyX9) (ix := 43) (pc := 64) rfl rfl (by decide +kernel) rfl (fun _ => rfl) rfl cw_X9 tyX9_ok nmX9 (by decide) rfl rfl rfl wd_107) ?_
  refine kk_c (j := 38) rfl (kk_vret (pc := 67) rfl (by decide +kernel) rfl) ?_
  exact trivial
noncomputable def F_X9_init := ce_fV tb_X9_init 1 (some 7)
theorem ct_X9_init (l : Launch) : ce_ini l yX9_init 0 2 2 320 (ce_wV F_X9_init) := ⟨_, _, ce_ctr_ofK (pcs := pc_X9_init) (by decide +kernel) (fun _ => rfl) rfl (ok_X9_init l) ce_fV_run, ce_tw_at wd_94 rfl, by decide, by decide +kernel, by decide +kernel, by decide +kernel⟩
