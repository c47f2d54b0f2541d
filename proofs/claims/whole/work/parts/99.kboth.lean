/-! the K-machine: the two objects' constructors -/
theorem kE_1 : ∀ v r, vwCl[ce_ci 10 v]? = some r → r.1 = RX3 ∨ (RX3 = RX3 ∧ r.1 ∈ [RX0, RX1, RX2, RX7, RX8]) := fun v r h => by
  match v, h with
  | 0, h => cases h; exact Or.inl rfl
  | 1, h => cases h; exact Or.inr ⟨rfl, by decide⟩
  | 2, h => cases h; exact Or.inr ⟨rfl, by decide⟩
  | 3, h => cases h; exact Or.inr ⟨rfl, by decide⟩
  | 4, h => cases h; exact Or.inr ⟨rfl, by decide⟩
  | n + 5, h => cases h; exact Or.inr ⟨rfl, by decide⟩
theorem kE_2 : ∀ v r, vwCl[ce_ci 11 v]? = some r → r.1 = RX5 ∨ (RX5 = RX3 ∧ r.1 ∈ [RX0, RX1, RX2, RX7, RX8]) := fun v r h => by
  cases h; exact Or.inl rfl
theorem kE_3 : ∀ v r, vwCl[ce_ci 11 v]? = some r → r.1 = RX5 ∨ (RX5 = RX3 ∧ r.1 ∈ [RX0, RX1, RX2, RX7, RX8]) := fun v r h => by
  cases h; exact Or.inl rfl
theorem kE_4 : ∀ v r, vwCl[ce_ci 11 v]? = some r → r.1 = RX5 ∨ (RX5 = RX3 ∧ r.1 ∈ [RX0, RX1, RX2, RX7, RX8]) := fun v r h => by
  cases h; exact Or.inl rfl
theorem kE_6 : ∀ v r, vwCl[ce_ci 15 v]? = some r → r.1 = RX6 ∨ (RX6 = RX3 ∧ r.1 ∈ [RX0, RX1, RX2, RX7, RX8]) := fun v r h => by
  cases h; exact Or.inl rfl
def pc_X11_init : List Nat := [0, 1, 4, 5, 7, 10, 13, 14, 16, 19, 22, 23, 25, 28, 31, 32, 35, 36, 39, 42, 43, 44, 47, 50, 51, 52, 55, 56, 57, 60, 61, 63, 66, 69, 70, 72, 75, 78, 79, 80, 83, 84, 87, 88, 91, 92, 95, 96, 97, 100, 101, 104, 105, 108, 109, 110, 113, 114, 117, 118, 121, 122, 123, 126, 127, 130, 131, 134, 135, 136, 139, 140, 143, 144, 147, 148, 149, 152, 153, 156, 157, 160, 161, 162, 163, 164, 166, 169, 170, 173, 174, 177, 178, 179, 182, 183, 184, 187, 188, 189, 192, 193, 196, 197, 198, 201, 202, 203, 206, 207, 208, 211, 212, 215, 216, 217, 220, 221, 222, 225, 226, 229, 232, 233, 236, 237, 238, 241, 242, 243, 246, 249, 250, 251, 252, 253, 256, 257, 260, 261, 264, 265, 268, 269, 272, 275, 276, 277, 278, 280, 283, 286, 287, 290, 292, 293, 296, 299, 302, 305, 306, 309, 312, 313, 314, 317, 318, 319, 322, 325, 326, 327, 328, 331, 332, 335, 336, 337, 340, 341, 342, 345, 348, 349, 352, 353, 354, 357, 358, 359, 362, 365, 366, 369, 370, 371, 374, 375, 376, 379, 382]
noncomputable def tb_X11_init : List ce_Op := [o_aload 0, o_kinit, o_aload 0, o_int 6, o_kanew 1 48 1028, o_kputS 0 0 1 (fun _ => 0), o_aload 0, o_int 6, o_kanew 2 48 1028, o_kputS 0 1 2 (fun _ => 0), o_aload 0, o_int 6, o_kanew 5 48 1028, o_kputS 0 3 5 (fun _ => 0), o_aload 0, o_knew 7 9 11 48 1028, o_dup, o_cv 1 F_X9_init 2 320 48 1028, o_kputS 0 4 7 (fun _ => 0), o_aload 0, o_int 4, o_kanew 6 48 1028, o_kputS 0 5 6 (fun _ => 0), o_aload 0, o_int 0, o_kputI 0 6, o_aload 0, o_int 0, o_kputI 0 7, o_aload 0, o_int 6, o_kanew 3 48 1028, o_kputS 0 9 3 (fun _ => 0), o_aload 0, o_int 6, o_kanew 4 48 1028, o_kputS 0 11 4 (fun _ => 0), o_aload 0, o_int (-1), o_kputI 0 13, o_aload 0, o_kgetS 0 0 1 (fun _ => 0), o_int 0, o_knew 10 3 0 48 1028, o_dup, o_cv 1 F_X3_init 0 0 48 1028, o_kaast 1 ce_k0, o_aload 0, o_kgetS 0 0 1 (fun _ => 0), o_int 1, o_knew 10 2 0 48 1028, o_dup, o_cv 1 F_X2_init 0 0 48 1028, o_kaast 1 ce_k0, o_aload 0, o_kgetS 0 0 1 (fun _ => 0), o_int 2, o_knew 10 8 0 48 1028, o_dup, o_cv 1 F_X8_init 0 0 48 1028, o_kaast 1 ce_k0, o_aload 0, o_kgetS 0 0 1 (fun _ => 0), o_int 3, o_knew 10 7 0 48 1028, o_dup, o_cv 1 F_X7_init 0 0 48 1028, o_kaast 1 ce_k0, o_aload 0, o_kgetS 0 0 1 (fun _ => 0), o_int 4, o_knew 10 0 0 48 1028, o_dup, o_cv 1 F_X0_init 0 0 48 1028, o_kaast 1 ce_k0, o_aload 0, o_kgetS 0 0 1 (fun _ => 0), o_int 5, o_knew 10 1 0 48 1028, o_dup, o_cv 1 F_X1_init 0 0 48 1028, o_kaast 1 ce_k0, o_int 0, o_istore 1, o_iload 1, o_int 6, o_cmpge 122, o_aload 0, o_kgetS 0 1 2 (fun _ => 0), o_iload 1, o_knew 11 5 8 48 1028, o_dup, o_aload 0, o_kgetS 0 0 1 (fun _ => 0), o_int 0, o_kald 1 10 ce_k0, o_cv 2 F_X5_init 0 0 48 1028, o_kaast 2 ce_k3, o_aload 0, o_kgetS 0 9 3 (fun _ => 0), o_iload 1, o_knew 11 5 8 48 1028, o_dup, o_aload 0, o_kgetS 0 0 1 (fun _ => 0), o_int 0, o_kald 1 10 ce_k0, o_cv 2 F_X5_init 0 0 48 1028, o_kaast 3 ce_k31, o_aload 0, o_kgetS 0 11 4 (fun _ => 0), o_iload 1, o_knew 11 5 8 48 1028, o_dup, o_aload 0, o_kgetS 0 0 1 (fun _ => 0), o_int 0, o_kald 1 10 ce_k0, o_cv 2 F_X5_init 0 0 48 1028, o_kaast 4 ce_k32, o_iinc 1 1, o_goto 84, o_aload 0, o_knew 11 5 8 48 1028, o_dup, o_aload 0, o_kgetS 0 0 1 (fun _ => 0), o_int 0, o_kald 1 10 ce_k0, o_cv 2 F_X5_init 0 0 48 1028, o_kputS 0 8 11 (fun _ => 18), o_int 0, o_istore 1, o_iload 1, o_int 4, o_cmpge 145, o_aload 0, o_kgetS 0 5 6 (fun _ => 0), o_iload 1, o_knew 15 6 3 48 1028, o_dup, o_cv 1 F_X6_init 1 40 48 1028, o_kaast 6 ce_k0, o_iinc 1 1, o_goto 133, o_int 0, o_istore 1, o_iload 1, o_ldcS 12, o_kp kP6 1 (ce_wI (ce_str F_J0_length_8abf5)), o_cmpge 159, o_aload 0, o_kgetS 0 4 7 (fun _ => 0), o_ldcS 12, o_iload 1, o_kp kP6 2 (ce_wI (ce_str F_J0_charAt_5068e)), o_kp kPt 2 (ce_wV F_X9_add), o_iinc 1 1, o_goto 147, o_aload 0, o_kgetS 0 4 7 (fun _ => 0), o_kp kPt 1 (ce_wI F_X9_read), o_pop, o_aload 0, o_kgetS 0 3 5 (fun _ => 0), o_int 0, o_aload 0, o_kgetS 0 4 7 (fun _ => 0), o_cr 1 13 F_X9_made 3 324 48 1028, o_kaastQ, o_aload 0, o_int 1, o_kputI 0 7, o_aload 0, o_knew 12 4 5 48 1028, o_dup, o_aload 0, o_kgetS 0 3 5 (fun _ => 0), o_int 0, o_kaldQ, o_cv 2 F_X4_init 0 0 48 1028, o_kputS 0 2 12 (fun _ => 0), o_aload 0, o_knew 12 4 5 48 1028, o_dup, o_aload 0, o_kgetS 0 3 5 (fun _ => 0), o_int 0, o_kaldQ, o_cv 2 F_X4_init 0 0 48 1028, o_kputS 0 10 12 (fun _ => 1), o_aload 0, o_knew 12 4 5 48 1028, o_dup, o_aload 0, o_kgetS 0 3 5 (fun _ => 0), o_int 0, o_kaldQ, o_cv 2 F_X4_init 0 0 48 1028, o_kputS 0 12 12 (fun _ => 2), o_vret]
theorem tl_X11_init : ce_TL tb_X11_init := by
  unfold tb_X11_init
  refine tl_c ta_aload ?_
  refine tl_c ta_kinit ?_
  refine tl_c ta_aload ?_
  refine tl_c ta_int ?_
  refine tl_c ta_kanew ?_
  refine tl_c ta_kputS ?_
  refine tl_c ta_aload ?_
  refine tl_c ta_int ?_
  refine tl_c ta_kanew ?_
  refine tl_c ta_kputS ?_
  refine tl_c ta_aload ?_
  refine tl_c ta_int ?_
  refine tl_c ta_kanew ?_
  refine tl_c ta_kputS ?_
  refine tl_c ta_aload ?_
  refine tl_c ta_knew ?_
  refine tl_c ta_dup ?_
  refine tl_c ta_cv ?_
  refine tl_c ta_kputS ?_
  refine tl_c ta_aload ?_
  refine tl_c ta_int ?_
  refine tl_c ta_kanew ?_
  refine tl_c ta_kputS ?_
  refine tl_c ta_aload ?_
  refine tl_c ta_int ?_
  refine tl_c ta_kputI ?_
  refine tl_c ta_aload ?_
  refine tl_c ta_int ?_
  refine tl_c ta_kputI ?_
  refine tl_c ta_aload ?_
  refine tl_c ta_int ?_
  refine tl_c ta_kanew ?_
  refine tl_c ta_kputS ?_
  refine tl_c ta_aload ?_
  refine tl_c ta_int ?_
  refine tl_c ta_kanew ?_
  refine tl_c ta_kputS ?_
  refine tl_c ta_aload ?_
  refine tl_c ta_int ?_
  refine tl_c ta_kputI ?_
  refine tl_c ta_aload ?_
  refine tl_c ta_kgetS ?_
  refine tl_c ta_int ?_
  refine tl_c ta_knew ?_
  refine tl_c ta_dup ?_
  refine tl_c ta_cv ?_
  refine tl_c ta_kaast ?_
  refine tl_c ta_aload ?_
  refine tl_c ta_kgetS ?_
  refine tl_c ta_int ?_
  refine tl_c ta_knew ?_
  refine tl_c ta_dup ?_
  refine tl_c ta_cv ?_
  refine tl_c ta_kaast ?_
  refine tl_c ta_aload ?_
  refine tl_c ta_kgetS ?_
  refine tl_c ta_int ?_
  refine tl_c ta_knew ?_
  refine tl_c ta_dup ?_
  refine tl_c ta_cv ?_
  refine tl_c ta_kaast ?_
  refine tl_c ta_aload ?_
  refine tl_c ta_kgetS ?_
  refine tl_c ta_int ?_
  refine tl_c ta_knew ?_
  refine tl_c ta_dup ?_
  refine tl_c ta_cv ?_
  refine tl_c ta_kaast ?_
  refine tl_c ta_aload ?_
  refine tl_c ta_kgetS ?_
  refine tl_c ta_int ?_
  refine tl_c ta_knew ?_
  refine tl_c ta_dup ?_
  refine tl_c ta_cv ?_
  refine tl_c ta_kaast ?_
  refine tl_c ta_aload ?_
  refine tl_c ta_kgetS ?_
  refine tl_c ta_int ?_
  refine tl_c ta_knew ?_
  refine tl_c ta_dup ?_
  refine tl_c ta_cv ?_
  refine tl_c ta_kaast ?_
  refine tl_c ta_int ?_
  refine tl_c ta_istore ?_
  refine tl_c ta_iload ?_
  refine tl_c ta_int ?_
  refine tl_c ta_cmpge ?_
  refine tl_c ta_aload ?_
  refine tl_c ta_kgetS ?_
  refine tl_c ta_iload ?_
  refine tl_c ta_knew ?_
  refine tl_c ta_dup ?_
  refine tl_c ta_aload ?_
  refine tl_c ta_kgetS ?_
  refine tl_c ta_int ?_
  refine tl_c ta_kald ?_
  refine tl_c ta_cv ?_
  refine tl_c ta_kaast ?_
  refine tl_c ta_aload ?_
  refine tl_c ta_kgetS ?_
  refine tl_c ta_iload ?_
  refine tl_c ta_knew ?_
  refine tl_c ta_dup ?_
  refine tl_c ta_aload ?_
  refine tl_c ta_kgetS ?_
  refine tl_c ta_int ?_
  refine tl_c ta_kald ?_
  refine tl_c ta_cv ?_
  refine tl_c ta_kaast ?_
  refine tl_c ta_aload ?_
  refine tl_c ta_kgetS ?_
  refine tl_c ta_iload ?_
  refine tl_c ta_knew ?_
  refine tl_c ta_dup ?_
  refine tl_c ta_aload ?_
  refine tl_c ta_kgetS ?_
  refine tl_c ta_int ?_
  refine tl_c ta_kald ?_
  refine tl_c ta_cv ?_
  refine tl_c ta_kaast ?_
  refine tl_c ta_iinc ?_
  refine tl_c ta_goto ?_
  refine tl_c ta_aload ?_
  refine tl_c ta_knew ?_
  refine tl_c ta_dup ?_
  refine tl_c ta_aload ?_
  refine tl_c ta_kgetS ?_
  refine tl_c ta_int ?_
  refine tl_c ta_kald ?_
  refine tl_c ta_cv ?_
  refine tl_c ta_kputS ?_
  refine tl_c ta_int ?_
  refine tl_c ta_istore ?_
  refine tl_c ta_iload ?_
  refine tl_c ta_int ?_
  refine tl_c ta_cmpge ?_
  refine tl_c ta_aload ?_
  refine tl_c ta_kgetS ?_
  refine tl_c ta_iload ?_
  refine tl_c ta_knew ?_
  refine tl_c ta_dup ?_
  refine tl_c ta_cv ?_
  refine tl_c ta_kaast ?_
  refine tl_c ta_iinc ?_
  refine tl_c ta_goto ?_
  refine tl_c ta_int ?_
  refine tl_c ta_istore ?_
  refine tl_c ta_iload ?_
  refine tl_c ta_ldcS ?_
  refine tl_c ta_kp ?_
  refine tl_c ta_cmpge ?_
  refine tl_c ta_aload ?_
  refine tl_c ta_kgetS ?_
  refine tl_c ta_ldcS ?_
  refine tl_c ta_iload ?_
  refine tl_c ta_kp ?_
  refine tl_c ta_kp ?_
  refine tl_c ta_iinc ?_
  refine tl_c ta_goto ?_
  refine tl_c ta_aload ?_
  refine tl_c ta_kgetS ?_
  refine tl_c ta_kp ?_
  refine tl_c ta_pop ?_
  refine tl_c ta_aload ?_
  refine tl_c ta_kgetS ?_
  refine tl_c ta_int ?_
  refine tl_c ta_aload ?_
  refine tl_c ta_kgetS ?_
  refine tl_c ta_cr ?_
  refine tl_c ta_kaastQ ?_
  refine tl_c ta_aload ?_
  refine tl_c ta_int ?_
  refine tl_c ta_kputI ?_
  refine tl_c ta_aload ?_
  refine tl_c ta_knew ?_
  refine tl_c ta_dup ?_
  refine tl_c ta_aload ?_
  refine tl_c ta_kgetS ?_
  refine tl_c ta_int ?_
  refine tl_c ta_kaldQ ?_
  refine tl_c ta_cv ?_
  refine tl_c ta_kputS ?_
  refine tl_c ta_aload ?_
  refine tl_c ta_knew ?_
  refine tl_c ta_dup ?_
  refine tl_c ta_aload ?_
  refine tl_c ta_kgetS ?_
  refine tl_c ta_int ?_
  refine tl_c ta_kaldQ ?_
  refine tl_c ta_cv ?_
  refine tl_c ta_kputS ?_
  refine tl_c ta_aload ?_
  refine tl_c ta_knew ?_
  refine tl_c ta_dup ?_
  refine tl_c ta_aload ?_
  refine tl_c ta_kgetS ?_
  refine tl_c ta_int ?_
  refine tl_c ta_kaldQ ?_
  refine tl_c ta_cv ?_
  refine tl_c ta_kputS ?_
  refine tl_c ta_vret ?_
  exact trivial
set_option maxRecDepth 20000 in
theorem ok_X11_init (l : Launch) : ce_OkLK l cX11_init RX11 2 none 51 48 1028 pc_X11_init 0 tb_X11_init := by
  unfold tb_X11_init
  refine kk_c (j := 1) rfl (kk_aload_n (j := ⟨0, by decide⟩) (pc := 0) rfl rfl (by decide +kernel)) ?_
  refine kk_c (j := 2) rfl (kk_oinit (ix := 1) (pc := 1) rfl rfl (by decide +kernel) (by decide) wd_81 wd_82 wd_83 rfl rfl rfl) ?_
  refine kk_c (j := 3) rfl (kk_aload_n (j := ⟨0, by decide⟩) (pc := 4) rfl rfl (by decide +kernel)) ?_
  refine kk_c (j := 4) rfl (kk_bipush (n := 6) (pc := 5) rfl rfl (by decide +kernel) (by decide)) ?_
  refine kk_c (j := 5) rfl (kk_anew (ix := 9) (C := RX3) (pc := 7) rfl rfl (by decide +kernel) rfl (by decide) (fun _ => List.mem_of_getElem? (i := 1) rfl) wd_84 rfl) ?_
  refine kk_c (j := 6) rfl (kk_putSF (zz := 0) (f := 0) (ci := 11) (C := RX11) (T := TX11) (N := 14) (ty := tyX11) (ix := 11) (pc := 10) rfl rfl (by decide +kernel) rfl (fun _ => rfl) rfl cw_X11 tyX11_ok nmX11 (by decide) rfl rfl rfl rfl (fun _ => ⟨rfl, rfl⟩) wd_443) ?_
  refine kk_c (j := 7) rfl (kk_aload_n (j := ⟨0, by decide⟩) (pc := 13) rfl rfl (by decide +kernel)) ?_
  refine kk_c (j := 8) rfl (kk_bipush (n := 6) (pc := 14) rfl rfl (by decide +kernel) (by decide)) ?_
  refine kk_c (j := 9) rfl (kk_anew (ix := 15) (C := RX5) (pc := 16) rfl rfl (by decide +kernel) rfl (by decide) (fun _ => List.mem_of_getElem? (i := 2) rfl) wd_86 rfl) ?_
  refine kk_c (j := 10) rfl (kk_putSF (zz := 0) (f := 1) (ci := 11) (C := RX11) (T := TX11) (N := 14) (ty := tyX11) (ix := 17) (pc := 19) rfl rfl (by decide +kernel) rfl (fun _ => rfl) rfl cw_X11 tyX11_ok nmX11 (by decide) rfl rfl rfl rfl (fun _ => ⟨rfl, rfl⟩) wd_444) ?_
  refine kk_c (j := 11) rfl (kk_aload_n (j := ⟨0, by decide⟩) (pc := 22) rfl rfl (by decide +kernel)) ?_
  refine kk_c (j := 12) rfl (kk_bipush (n := 6) (pc := 23) rfl rfl (by decide +kernel) (by decide)) ?_
  refine kk_c (j := 13) rfl (kk_anew (ix := 21) (C := RX10) (pc := 25) rfl rfl (by decide +kernel) rfl (by decide) (fun _ => List.mem_of_getElem? (i := 3) rfl) wd_88 rfl) ?_
  refine kk_c (j := 14) rfl (kk_putSF (zz := 0) (f := 3) (ci := 11) (C := RX11) (T := TX11) (N := 14) (ty := tyX11) (ix := 23) (pc := 28) rfl rfl (by decide +kernel) rfl (fun _ => rfl) rfl cw_X11 tyX11_ok nmX11 (by decide) rfl rfl rfl rfl (fun _ => ⟨rfl, rfl⟩) wd_446) ?_
  refine kk_c (j := 15) rfl (kk_aload_n (j := ⟨0, by decide⟩) (pc := 31) rfl rfl (by decide +kernel)) ?_
  refine kk_c (j := 16) rfl (kk_new (t := 7) (ix := 27) (N := 11) (ci := 9) (C := RX9) (T := TX9) (pc := 32) rfl rfl (by decide +kernel) rfl rfl cw_X9 tyX9 tyX9_ok (by decide) wd_90 wd_91 wd_58 rfl rfl rfl) ?_
  refine kk_c (j := 17) rfl (kk_dup (pc := 35) rfl rfl (by decide +kernel)) ?_
  refine kk_c (j := 18) rfl (kk_initN (y := yX9_init) (n := 0) (d' := 2) (ix := 29) is_cv (pc := 36) rfl rfl (by decide +kernel) (by decide) (ct_X9_init l) rfl kV_rec (by decide) wd_93 wd_58) ?_
  refine kk_c (j := 19) rfl (kk_putSF (zz := 0) (f := 4) (ci := 11) (C := RX11) (T := TX11) (N := 14) (ty := tyX11) (ix := 30) (pc := 39) rfl rfl (by decide +kernel) rfl (fun _ => rfl) rfl cw_X11 tyX11_ok nmX11 (by decide) rfl rfl rfl rfl (fun _ => ⟨rfl, rfl⟩) wd_447) ?_
  refine kk_c (j := 20) rfl (kk_aload_n (j := ⟨0, by decide⟩) (pc := 42) rfl rfl (by decide +kernel)) ?_
  refine kk_c (j := 21) rfl (kk_iconst (n := 4) (pc := 43) rfl rfl (by decide +kernel) (by decide)) ?_
  refine kk_c (j := 22) rfl (kk_anew (ix := 34) (C := RX6) (pc := 44) rfl rfl (by decide +kernel) rfl (by decide) (fun _ => List.mem_of_getElem? (i := 4) rfl) wd_132 rfl) ?_
  refine kk_c (j := 23) rfl (kk_putSF (zz := 0) (f := 5) (ci := 11) (C := RX11) (T := TX11) (N := 14) (ty := tyX11) (ix := 36) (pc := 47) rfl rfl (by decide +kernel) rfl (fun _ => rfl) rfl cw_X11 tyX11_ok nmX11 (by decide) rfl rfl rfl rfl (fun _ => ⟨rfl, rfl⟩) wd_448) ?_
  refine kk_c (j := 24) rfl (kk_aload_n (j := ⟨0, by decide⟩) (pc := 50) rfl rfl (by decide +kernel)) ?_
  refine kk_c (j := 25) rfl (kk_iconst (n := 0) (pc := 51) rfl rfl (by decide +kernel) (by decide)) ?_
  refine kk_c (j := 26) rfl (kk_putI (f := 6) (ci := 11) (C := RX11) (T := TX11) (N := 14) (ty := tyX11) (ix := 40) (pc := 52) rfl rfl (by decide +kernel) rfl (fun _ => rfl) rfl cw_X11 tyX11_ok nmX11 (by decide) rfl rfl rfl wd_449) ?_
  refine kk_c (j := 27) rfl (kk_aload_n (j := ⟨0, by decide⟩) (pc := 55) rfl rfl (by decide +kernel)) ?_
  refine kk_c (j := 28) rfl (kk_iconst (n := 0) (pc := 56) rfl rfl (by decide +kernel) (by decide)) ?_
  refine kk_c (j := 29) rfl (kk_putI (f := 7) (ci := 11) (C := RX11) (T := TX11) (N := 14) (ty := tyX11) (ix := 44) (pc := 57) rfl rfl (by decide +kernel) rfl (fun _ => rfl) rfl cw_X11 tyX11_ok nmX11 (by decide) rfl rfl rfl wd_450) ?_
  refine kk_c (j := 30) rfl (kk_aload_n (j := ⟨0, by decide⟩) (pc := 60) rfl rfl (by decide +kernel)) ?_
  refine kk_c (j := 31) rfl (kk_bipush (n := 6) (pc := 61) rfl rfl (by decide +kernel) (by decide)) ?_
  refine kk_c (j := 32) rfl (kk_anew (ix := 15) (C := RX5) (pc := 63) rfl rfl (by decide +kernel) rfl (by decide) (fun _ => List.mem_of_getElem? (i := 2) rfl) wd_86 rfl) ?_
  refine kk_c (j := 33) rfl (kk_putSF (zz := 0) (f := 9) (ci := 11) (C := RX11) (T := TX11) (N := 14) (ty := tyX11) (ix := 47) (pc := 66) rfl rfl (by decide +kernel) rfl (fun _ => rfl) rfl cw_X11 tyX11_ok nmX11 (by decide) rfl rfl rfl rfl (fun _ => ⟨rfl, rfl⟩) wd_452) ?_
  refine kk_c (j := 34) rfl (kk_aload_n (j := ⟨0, by decide⟩) (pc := 69) rfl rfl (by decide +kernel)) ?_
  refine kk_c (j := 35) rfl (kk_bipush (n := 6) (pc := 70) rfl rfl (by decide +kernel) (by decide)) ?_
  refine kk_c (j := 36) rfl (kk_anew (ix := 15) (C := RX5) (pc := 72) rfl rfl (by decide +kernel) rfl (by decide) (fun _ => List.mem_of_getElem? (i := 2) rfl) wd_86 rfl) ?_
  refine kk_c (j := 37) rfl (kk_putSF (zz := 0) (f := 11) (ci := 11) (C := RX11) (T := TX11) (N := 14) (ty := tyX11) (ix := 50) (pc := 75) rfl rfl (by decide +kernel) rfl (fun _ => rfl) rfl cw_X11 tyX11_ok nmX11 (by decide) rfl rfl rfl rfl (fun _ => ⟨rfl, rfl⟩) wd_454) ?_
  refine kk_c (j := 38) rfl (kk_aload_n (j := ⟨0, by decide⟩) (pc := 78) rfl rfl (by decide +kernel)) ?_
  refine kk_c (j := 39) rfl (kk_iconst (n := (-1)) (pc := 79) rfl rfl (by decide +kernel) (by decide)) ?_
  refine kk_c (j := 40) rfl (kk_putI (f := 13) (ci := 11) (C := RX11) (T := TX11) (N := 14) (ty := tyX11) (ix := 53) (pc := 80) rfl rfl (by decide +kernel) rfl (fun _ => rfl) rfl cw_X11 tyX11_ok nmX11 (by decide) rfl rfl rfl wd_456) ?_
  refine kk_c (j := 41) rfl (kk_aload_n (j := ⟨0, by decide⟩) (pc := 83) rfl rfl (by decide +kernel)) ?_
  refine kk_c (j := 42) rfl (kk_getS (f := 0) (ci := 11) (C := RX11) (T := TX11) (N := 14) (ix := 11) (pc := 84) rfl rfl (by decide +kernel) rfl (fun _ => rfl) rfl cw_X11 (by decide) rfl wd_443) ?_
  refine kk_c (j := 43) rfl (kk_iconst (n := 0) (pc := 87) rfl rfl (by decide +kernel) (by decide)) ?_
  refine kk_c (j := 44) rfl (kk_new (t := 10) (ix := 9) (N := 0) (ci := 3) (C := RX3) (T := TX3) (pc := 88) rfl rfl (by decide +kernel) rfl rfl (fun w hw => by cases hw) (fun _ => .int) (fun k h => absurd h (Nat.not_lt_zero _)) (fun k h => absurd h (Nat.not_lt_zero _)) wd_84 wd_134 wd_59 rfl rfl rfl) ?_
  refine kk_c (j := 45) rfl (kk_dup (pc := 91) rfl rfl (by decide +kernel)) ?_
  refine kk_c (j := 46) rfl (kk_initN (y := yX3_init) (n := 0) (d' := 2) (ix := 56) is_cv (pc := 92) rfl rfl (by decide +kernel) (by decide) (ct_X3_init l) rfl kV_rec (by decide) wd_136 wd_59) ?_
  refine kk_c (j := 47) rfl (kk_aast (E := RX3) (pc := 95) rfl rfl (by decide +kernel) rfl rfl rfl (fun _ => List.mem_of_getElem? (i := 1) rfl) kE_1) ?_
  refine kk_c (j := 48) rfl (kk_aload_n (j := ⟨0, by decide⟩) (pc := 96) rfl rfl (by decide +kernel)) ?_
  refine kk_c (j := 49) rfl (kk_getS (f := 0) (ci := 11) (C := RX11) (T := TX11) (N := 14) (ix := 11) (pc := 97) rfl rfl (by decide +kernel) rfl (fun _ => rfl) rfl cw_X11 (by decide) rfl wd_443) ?_
  refine kk_c (j := 50) rfl (kk_iconst (n := 1) (pc := 100) rfl rfl (by decide +kernel) (by decide)) ?_
  refine kk_c (j := 51) rfl (kk_new (t := 10) (ix := 57) (N := 0) (ci := 2) (C := RX2) (T := TX2) (pc := 101) rfl rfl (by decide +kernel) rfl rfl (fun w hw => by cases hw) (fun _ => .int) (fun k h => absurd h (Nat.not_lt_zero _)) (fun k h => absurd h (Nat.not_lt_zero _)) wd_140 wd_141 wd_60 rfl rfl rfl) ?_
  refine kk_c (j := 52) rfl (kk_dup (pc := 104) rfl rfl (by decide +kernel)) ?_
  refine kk_c (j := 53) rfl (kk_initN (y := yX2_init) (n := 0) (d' := 3) (ix := 59) is_cv (pc := 105) rfl rfl (by decide +kernel) (by decide) (ct_X2_init l) rfl kV_rec (by decide) wd_143 wd_60) ?_
  refine kk_c (j := 54) rfl (kk_aast (E := RX3) (pc := 108) rfl rfl (by decide +kernel) rfl rfl rfl (fun _ => List.mem_of_getElem? (i := 1) rfl) kE_1) ?_
  refine kk_c (j := 55) rfl (kk_aload_n (j := ⟨0, by decide⟩) (pc := 109) rfl rfl (by decide +kernel)) ?_
  refine kk_c (j := 56) rfl (kk_getS (f := 0) (ci := 11) (C := RX11) (T := TX11) (N := 14) (ix := 11) (pc := 110) rfl rfl (by decide +kernel) rfl (fun _ => rfl) rfl cw_X11 (by decide) rfl wd_443) ?_
  refine kk_c (j := 57) rfl (kk_iconst (n := 2) (pc := 113) rfl rfl (by decide +kernel) (by decide)) ?_
  refine kk_c (j := 58) rfl (kk_new (t := 10) (ix := 60) (N := 0) (ci := 8) (C := RX8) (T := TX8) (pc := 114) rfl rfl (by decide +kernel) rfl rfl (fun w hw => by cases hw) (fun _ => .int) (fun k h => absurd h (Nat.not_lt_zero _)) (fun k h => absurd h (Nat.not_lt_zero _)) wd_147 wd_148 wd_61 rfl rfl rfl) ?_
  refine kk_c (j := 59) rfl (kk_dup (pc := 117) rfl rfl (by decide +kernel)) ?_
  refine kk_c (j := 60) rfl (kk_initN (y := yX8_init) (n := 0) (d' := 3) (ix := 62) is_cv (pc := 118) rfl rfl (by decide +kernel) (by decide) (ct_X8_init l) rfl kV_rec (by decide) wd_150 wd_61) ?_
  refine kk_c (j := 61) rfl (kk_aast (E := RX3) (pc := 121) rfl rfl (by decide +kernel) rfl rfl rfl (fun _ => List.mem_of_getElem? (i := 1) rfl) kE_1) ?_
  refine kk_c (j := 62) rfl (kk_aload_n (j := ⟨0, by decide⟩) (pc := 122) rfl rfl (by decide +kernel)) ?_
  refine kk_c (j := 63) rfl (kk_getS (f := 0) (ci := 11) (C := RX11) (T := TX11) (N := 14) (ix := 11) (pc := 123) rfl rfl (by decide +kernel) rfl (fun _ => rfl) rfl cw_X11 (by decide) rfl wd_443) ?_
  refine kk_c (j := 64) rfl (kk_iconst (n := 3) (pc := 126) rfl rfl (by decide +kernel) (by decide)) ?_
  refine kk_c (j := 65) rfl (kk_new (t := 10) (ix := 63) (N := 0) (ci := 7) (C := RX7) (T := TX7) (pc := 127) rfl rfl (by decide +kernel) rfl rfl (fun w hw => by cases hw) (fun _ => .int) (fun k h => absurd h (Nat.not_lt_zero _)) (fun k h => absurd h (Nat.not_lt_zero _)) wd_154 wd_155 wd_62 rfl rfl rfl) ?_
  refine kk_c (j := 66) rfl (kk_dup (pc := 130) rfl rfl (by decide +kernel)) ?_
  refine kk_c (j := 67) rfl (kk_initN (y := yX7_init) (n := 0) (d' := 4) (ix := 65) is_cv (pc := 131) rfl rfl (by decide +kernel) (by decide) (ct_X7_init l) rfl kV_rec (by decide) wd_157 wd_62) ?_
  refine kk_c (j := 68) rfl (kk_aast (E := RX3) (pc := 134) rfl rfl (by decide +kernel) rfl rfl rfl (fun _ => List.mem_of_getElem? (i := 1) rfl) kE_1) ?_
  refine kk_c (j := 69) rfl (kk_aload_n (j := ⟨0, by decide⟩) (pc := 135) rfl rfl (by decide +kernel)) ?_
  refine kk_c (j := 70) rfl (kk_getS (f := 0) (ci := 11) (C := RX11) (T := TX11) (N := 14) (ix := 11) (pc := 136) rfl rfl (by decide +kernel) rfl (fun _ => rfl) rfl cw_X11 (by decide) rfl wd_443) ?_
  refine kk_c (j := 71) rfl (kk_iconst (n := 4) (pc := 139) rfl rfl (by decide +kernel) (by decide)) ?_
  refine kk_c (j := 72) rfl (kk_new (t := 10) (ix := 66) (N := 0) (ci := 0) (C := RX0) (T := TX0) (pc := 140) rfl rfl (by decide +kernel) rfl rfl (fun w hw => by cases hw) (fun _ => .int) (fun k h => absurd h (Nat.not_lt_zero _)) (fun k h => absurd h (Nat.not_lt_zero _)) wd_161 wd_162 wd_63 rfl rfl rfl) ?_
  refine kk_c (j := 73) rfl (kk_dup (pc := 143) rfl rfl (by decide +kernel)) ?_
  refine kk_c (j := 74) rfl (kk_initN (y := yX0_init) (n := 0) (d' := 4) (ix := 68) is_cv (pc := 144) rfl rfl (by decide +kernel) (by decide) (ct_X0_init l) rfl kV_rec (by decide) wd_164 wd_63) ?_
  refine kk_c (j := 75) rfl (kk_aast (E := RX3) (pc := 147) rfl rfl (by decide +kernel) rfl rfl rfl (fun _ => List.mem_of_getElem? (i := 1) rfl) kE_1) ?_
  refine kk_c (j := 76) rfl (kk_aload_n (j := ⟨0, by decide⟩) (pc := 148) rfl rfl (by decide +kernel)) ?_
  refine kk_c (j := 77) rfl (kk_getS (f := 0) (ci := 11) (C := RX11) (T := TX11) (N := 14) (ix := 11) (pc := 149) rfl rfl (by decide +kernel) rfl (fun _ => rfl) rfl cw_X11 (by decide) rfl wd_443) ?_
  refine kk_c (j := 78) rfl (kk_iconst (n := 5) (pc := 152) rfl rfl (by decide +kernel) (by decide)) ?_
  refine kk_c (j := 79) rfl (kk_new (t := 10) (ix := 69) (N := 0) (ci := 1) (C := RX1) (T := TX1) (pc := 153) rfl rfl (by decide +kernel) rfl rfl (fun w hw => by cases hw) (fun _ => .int) (fun k h => absurd h (Nat.not_lt_zero _)) (fun k h => absurd h (Nat.not_lt_zero _)) wd_168 wd_169 wd_64 rfl rfl rfl) ?_
  refine kk_c (j := 80) rfl (kk_dup (pc := 156) rfl rfl (by decide +kernel)) ?_
  refine kk_c (j := 81) rfl (kk_initN (y := yX1_init) (n := 0) (d' := 4) (ix := 71) is_cv (pc := 157) rfl rfl (by decide +kernel) (by decide) (ct_X1_init l) rfl kV_rec (by decide) wd_171 wd_64) ?_
  refine kk_c (j := 82) rfl (kk_aast (E := RX3) (pc := 160) rfl rfl (by decide +kernel) rfl rfl rfl (fun _ => List.mem_of_getElem? (i := 1) rfl) kE_1) ?_
  refine kk_c (j := 83) rfl (kk_iconst (n := 0) (pc := 161) rfl rfl (by decide +kernel) (by decide)) ?_
  refine kk_c (j := 84) rfl (kk_istore_n (j := ⟨1, by decide⟩) (pc := 162) rfl rfl (by decide +kernel) (by decide)) ?_
  refine kk_c (j := 85) rfl (kk_iload_n (j := ⟨1, by decide⟩) (pc := 163) rfl rfl (by decide +kernel)) ?_
  refine kk_c (j := 86) rfl (kk_bipush (n := 6) (pc := 164) rfl rfl (by decide +kernel) (by decide)) ?_
  refine kk_c (j := 87) rfl (kk_cmpge (off := 66) (tg := 232) (pc := 166) rfl rfl (by decide +kernel) rfl (by decide)) ?_
  refine kk_c (j := 88) rfl (kk_aload_n (j := ⟨0, by decide⟩) (pc := 169) rfl rfl (by decide +kernel)) ?_
  refine kk_c (j := 89) rfl (kk_getS (f := 1) (ci := 11) (C := RX11) (T := TX11) (N := 14) (ix := 17) (pc := 170) rfl rfl (by decide +kernel) rfl (fun _ => rfl) rfl cw_X11 (by decide) rfl wd_444) ?_
  refine kk_c (j := 90) rfl (kk_iload_n (j := ⟨1, by decide⟩) (pc := 173) rfl rfl (by decide +kernel)) ?_
  refine kk_c (j := 91) rfl (kk_new (t := 11) (ix := 15) (N := 8) (ci := 5) (C := RX5) (T := TX5) (pc := 174) rfl rfl (by decide +kernel) rfl rfl cw_X5 tyX5 tyX5_ok (by decide) wd_86 wd_175 wd_65 rfl rfl rfl) ?_
  refine kk_c (j := 92) rfl (kk_dup (pc := 177) rfl rfl (by decide +kernel)) ?_
  refine kk_c (j := 93) rfl (kk_aload_n (j := ⟨0, by decide⟩) (pc := 178) rfl rfl (by decide +kernel)) ?_
  refine kk_c (j := 94) rfl (kk_getS (f := 0) (ci := 11) (C := RX11) (T := TX11) (N := 14) (ix := 11) (pc := 179) rfl rfl (by decide +kernel) rfl (fun _ => rfl) rfl cw_X11 (by decide) rfl wd_443) ?_
  refine kk_c (j := 95) rfl (kk_iconst (n := 0) (pc := 182) rfl rfl (by decide +kernel) (by decide)) ?_
  refine kk_c (j := 96) rfl (kk_ald (ty := .object RX3) (pc := 183) rfl rfl (by decide +kernel) rfl rfl rfl (fun _ => rfl) rfl) ?_
  refine kk_c (j := 97) rfl (kk_init (y := yX5_init) (n := 1) (d' := 2) (ix := 72) is_cv (pc := 184) rfl rfl (by decide +kernel) (by decide) (ct_X5_init l) rfl kV_rec wd_176 wd_177 wd_65) ?_
  refine kk_c (j := 98) rfl (kk_aast (E := RX5) (pc := 187) rfl rfl (by decide +kernel) rfl rfl rfl (fun _ => List.mem_of_getElem? (i := 2) rfl) kE_2) ?_
  refine kk_c (j := 99) rfl (kk_aload_n (j := ⟨0, by decide⟩) (pc := 188) rfl rfl (by decide +kernel)) ?_
  refine kk_c (j := 100) rfl (kk_getS (f := 9) (ci := 11) (C := RX11) (T := TX11) (N := 14) (ix := 47) (pc := 189) rfl rfl (by decide +kernel) rfl (fun _ => rfl) rfl cw_X11 (by decide) rfl wd_452) ?_
  refine kk_c (j := 101) rfl (kk_iload_n (j := ⟨1, by decide⟩) (pc := 192) rfl rfl (by decide +kernel)) ?_
  refine kk_c (j := 102) rfl (kk_new (t := 11) (ix := 15) (N := 8) (ci := 5) (C := RX5) (T := TX5) (pc := 193) rfl rfl (by decide +kernel) rfl rfl cw_X5 tyX5 tyX5_ok (by decide) wd_86 wd_175 wd_65 rfl rfl rfl) ?_
  refine kk_c (j := 103) rfl (kk_dup (pc := 196) rfl rfl (by decide +kernel)) ?_
  refine kk_c (j := 104) rfl (kk_aload_n (j := ⟨0, by decide⟩) (pc := 197) rfl rfl (by decide +kernel)) ?_
  refine kk_c (j := 105) rfl (kk_getS (f := 0) (ci := 11) (C := RX11) (T := TX11) (N := 14) (ix := 11) (pc := 198) rfl rfl (by decide +kernel) rfl (fun _ => rfl) rfl cw_X11 (by decide) rfl wd_443) ?_
  refine kk_c (j := 106) rfl (kk_iconst (n := 0) (pc := 201) rfl rfl (by decide +kernel) (by decide)) ?_
  refine kk_c (j := 107) rfl (kk_ald (ty := .object RX3) (pc := 202) rfl rfl (by decide +kernel) rfl rfl rfl (fun _ => rfl) rfl) ?_
  refine kk_c (j := 108) rfl (kk_init (y := yX5_init) (n := 1) (d' := 2) (ix := 72) is_cv (pc := 203) rfl rfl (by decide +kernel) (by decide) (ct_X5_init l) rfl kV_rec wd_176 wd_177 wd_65) ?_
  refine kk_c (j := 109) rfl (kk_aast (E := RX5) (pc := 206) rfl rfl (by decide +kernel) rfl rfl rfl (fun _ => List.mem_of_getElem? (i := 2) rfl) kE_3) ?_
  refine kk_c (j := 110) rfl (kk_aload_n (j := ⟨0, by decide⟩) (pc := 207) rfl rfl (by decide +kernel)) ?_
  refine kk_c (j := 111) rfl (kk_getS (f := 11) (ci := 11) (C := RX11) (T := TX11) (N := 14) (ix := 50) (pc := 208) rfl rfl (by decide +kernel) rfl (fun _ => rfl) rfl cw_X11 (by decide) rfl wd_454) ?_
  refine kk_c (j := 112) rfl (kk_iload_n (j := ⟨1, by decide⟩) (pc := 211) rfl rfl (by decide +kernel)) ?_
  refine kk_c (j := 113) rfl (kk_new (t := 11) (ix := 15) (N := 8) (ci := 5) (C := RX5) (T := TX5) (pc := 212) rfl rfl (by decide +kernel) rfl rfl cw_X5 tyX5 tyX5_ok (by decide) wd_86 wd_175 wd_65 rfl rfl rfl) ?_
  refine kk_c (j := 114) rfl (kk_dup (pc := 215) rfl rfl (by decide +kernel)) ?_
  refine kk_c (j := 115) rfl (kk_aload_n (j := ⟨0, by decide⟩) (pc := 216) rfl rfl (by decide +kernel)) ?_
  refine kk_c (j := 116) rfl (kk_getS (f := 0) (ci := 11) (C := RX11) (T := TX11) (N := 14) (ix := 11) (pc := 217) rfl rfl (by decide +kernel) rfl (fun _ => rfl) rfl cw_X11 (by decide) rfl wd_443) ?_
  refine kk_c (j := 117) rfl (kk_iconst (n := 0) (pc := 220) rfl rfl (by decide +kernel) (by decide)) ?_
  refine kk_c (j := 118) rfl (kk_ald (ty := .object RX3) (pc := 221) rfl rfl (by decide +kernel) rfl rfl rfl (fun _ => rfl) rfl) ?_
  refine kk_c (j := 119) rfl (kk_init (y := yX5_init) (n := 1) (d' := 2) (ix := 72) is_cv (pc := 222) rfl rfl (by decide +kernel) (by decide) (ct_X5_init l) rfl kV_rec wd_176 wd_177 wd_65) ?_
  refine kk_c (j := 120) rfl (kk_aast (E := RX5) (pc := 225) rfl rfl (by decide +kernel) rfl rfl rfl (fun _ => List.mem_of_getElem? (i := 2) rfl) kE_4) ?_
  refine kk_c (j := 121) rfl (kk_iinc (n := 1) (pc := 226) rfl rfl (by decide +kernel) (by decide) (by decide)) ?_
  refine kk_c (j := 122) rfl (kk_goto (off := (-66)) (tg := 163) (pc := 229) rfl (by decide +kernel) rfl (by decide)) ?_
  refine kk_c (j := 123) rfl (kk_aload_n (j := ⟨0, by decide⟩) (pc := 232) rfl rfl (by decide +kernel)) ?_
  refine kk_c (j := 124) rfl (kk_new (t := 11) (ix := 15) (N := 8) (ci := 5) (C := RX5) (T := TX5) (pc := 233) rfl rfl (by decide +kernel) rfl rfl cw_X5 tyX5 tyX5_ok (by decide) wd_86 wd_175 wd_65 rfl rfl rfl) ?_
  refine kk_c (j := 125) rfl (kk_dup (pc := 236) rfl rfl (by decide +kernel)) ?_
  refine kk_c (j := 126) rfl (kk_aload_n (j := ⟨0, by decide⟩) (pc := 237) rfl rfl (by decide +kernel)) ?_
  refine kk_c (j := 127) rfl (kk_getS (f := 0) (ci := 11) (C := RX11) (T := TX11) (N := 14) (ix := 11) (pc := 238) rfl rfl (by decide +kernel) rfl (fun _ => rfl) rfl cw_X11 (by decide) rfl wd_443) ?_
  refine kk_c (j := 128) rfl (kk_iconst (n := 0) (pc := 241) rfl rfl (by decide +kernel) (by decide)) ?_
  refine kk_c (j := 129) rfl (kk_ald (ty := .object RX3) (pc := 242) rfl rfl (by decide +kernel) rfl rfl rfl (fun _ => rfl) rfl) ?_
  refine kk_c (j := 130) rfl (kk_init (y := yX5_init) (n := 1) (d' := 2) (ix := 72) is_cv (pc := 243) rfl rfl (by decide +kernel) (by decide) (ct_X5_init l) rfl kV_rec wd_176 wd_177 wd_65) ?_
  refine kk_c (j := 131) rfl (kk_putSF (zz := 0) (f := 8) (ci := 11) (C := RX11) (T := TX11) (N := 14) (ty := tyX11) (ix := 75) (pc := 246) rfl rfl (by decide +kernel) rfl (fun _ => rfl) rfl cw_X11 tyX11_ok nmX11 (by decide) rfl rfl rfl rfl (fun _ => ⟨rfl, rfl⟩) wd_451) ?_
  refine kk_c (j := 132) rfl (kk_iconst (n := 0) (pc := 249) rfl rfl (by decide +kernel) (by decide)) ?_
  refine kk_c (j := 133) rfl (kk_istore_n (j := ⟨1, by decide⟩) (pc := 250) rfl rfl (by decide +kernel) (by decide)) ?_
  refine kk_c (j := 134) rfl (kk_iload_n (j := ⟨1, by decide⟩) (pc := 251) rfl rfl (by decide +kernel)) ?_
  refine kk_c (j := 135) rfl (kk_iconst (n := 4) (pc := 252) rfl rfl (by decide +kernel) (by decide)) ?_
  refine kk_c (j := 136) rfl (kk_cmpge (off := 22) (tg := 275) (pc := 253) rfl rfl (by decide +kernel) rfl (by decide)) ?_
  refine kk_c (j := 137) rfl (kk_aload_n (j := ⟨0, by decide⟩) (pc := 256) rfl rfl (by decide +kernel)) ?_
  refine kk_c (j := 138) rfl (kk_getS (f := 5) (ci := 11) (C := RX11) (T := TX11) (N := 14) (ix := 36) (pc := 257) rfl rfl (by decide +kernel) rfl (fun _ => rfl) rfl cw_X11 (by decide) rfl wd_448) ?_
  refine kk_c (j := 139) rfl (kk_iload_n (j := ⟨1, by decide⟩) (pc := 260) rfl rfl (by decide +kernel)) ?_
  refine kk_c (j := 140) rfl (kk_new (t := 15) (ix := 34) (N := 3) (ci := 6) (C := RX6) (T := TX6) (pc := 261) rfl rfl (by decide +kernel) rfl rfl cw_X6 tyX6 tyX6_ok (by decide) wd_132 wd_216 wd_66 rfl rfl rfl) ?_
  refine kk_c (j := 141) rfl (kk_dup (pc := 264) rfl rfl (by decide +kernel)) ?_
  refine kk_c (j := 142) rfl (kk_initN (y := yX6_init) (n := 0) (d' := 2) (ix := 79) is_cv (pc := 265) rfl rfl (by decide +kernel) (by decide) (ct_X6_init l) rfl kV_rec (by decide) wd_218 wd_66) ?_
  refine kk_c (j := 143) rfl (kk_aast (E := RX6) (pc := 268) rfl rfl (by decide +kernel) rfl rfl rfl (fun _ => List.mem_of_getElem? (i := 4) rfl) kE_6) ?_
  refine kk_c (j := 144) rfl (kk_iinc (n := 1) (pc := 269) rfl rfl (by decide +kernel) (by decide) (by decide)) ?_
  refine kk_c (j := 145) rfl (kk_goto (off := (-21)) (tg := 251) (pc := 272) rfl (by decide +kernel) rfl (by decide)) ?_
  refine kk_c (j := 146) rfl (kk_iconst (n := 0) (pc := 275) rfl rfl (by decide +kernel) (by decide)) ?_
  refine kk_c (j := 147) rfl (kk_istore_n (j := ⟨1, by decide⟩) (pc := 276) rfl rfl (by decide +kernel) (by decide)) ?_
  refine kk_c (j := 148) rfl (kk_iload_n (j := ⟨1, by decide⟩) (pc := 277) rfl rfl (by decide +kernel)) ?_
  refine kk_c (j := 149) rfl (kk_ldcS (ix := 80) (pc := 278) rfl rfl (by decide +kernel) rfl) ?_
  refine kk_c (j := 150) rfl (kk_pstr (y := yJ0_length_8abf5) (n := 0) (d' := 2) (ix := 82) (pc := 280) rfl rfl (by decide +kernel) (by decide) (ce_strC (ct_J0_length_8abf5 l)) rfl ce_str_rec wd_235 wd_236 wd_237 wd_67) ?_
  refine kk_c (j := 151) rfl (kk_cmpge (off := 22) (tg := 305) (pc := 283) rfl rfl (by decide +kernel) rfl (by decide)) ?_
  refine kk_c (j := 152) rfl (kk_aload_n (j := ⟨0, by decide⟩) (pc := 286) rfl rfl (by decide +kernel)) ?_
  refine kk_c (j := 153) rfl (kk_getS (f := 4) (ci := 11) (C := RX11) (T := TX11) (N := 14) (ix := 30) (pc := 287) rfl rfl (by decide +kernel) rfl (fun _ => rfl) rfl cw_X11 (by decide) rfl wd_447) ?_
  refine kk_c (j := 154) rfl (kk_ldcS (ix := 80) (pc := 290) rfl rfl (by decide +kernel) rfl) ?_
  refine kk_c (j := 155) rfl (kk_iload_n (j := ⟨1, by decide⟩) (pc := 292) rfl rfl (by decide +kernel)) ?_
  refine kk_c (j := 156) rfl (kk_pstr (y := yJ0_charAt_5068e) (n := 1) (d' := 4) (ix := 88) (pc := 293) rfl rfl (by decide +kernel) (by decide) (ce_strC (ct_J0_charAt_5068e l)) rfl ce_str_rec wd_245 wd_246 wd_247 wd_67) ?_
  refine kk_c (j := 157) rfl (kk_pvirtual (y := yX9_add) (n := 1) (d' := 1) (t := 7) (T := TX9) (N := 11) (ix := 92) (pc := 296) rfl rfl (by decide +kernel) (by decide) (ct_X9_add l) rfl (fun _ => rfl) ce_fV_rec wd_283 wd_284 wd_285 wd_58) ?_
  refine kk_c (j := 158) rfl (kk_iinc (n := 1) (pc := 299) rfl rfl (by decide +kernel) (by decide) (by decide)) ?_
  refine kk_c (j := 159) rfl (kk_goto (off := (-25)) (tg := 277) (pc := 302) rfl (by decide +kernel) rfl (by decide)) ?_
  refine kk_c (j := 160) rfl (kk_aload_n (j := ⟨0, by decide⟩) (pc := 305) rfl rfl (by decide +kernel)) ?_
  refine kk_c (j := 161) rfl (kk_getS (f := 4) (ci := 11) (C := RX11) (T := TX11) (N := 14) (ix := 30) (pc := 306) rfl rfl (by decide +kernel) rfl (fun _ => rfl) rfl cw_X11 (by decide) rfl wd_447) ?_
  refine kk_c (j := 162) rfl (kk_pvirtual (y := yX9_read) (n := 0) (d' := 50) (t := 7) (T := TX9) (N := 11) (ix := 96) (pc := 309) rfl rfl (by decide +kernel) (by decide) (ct_X9_read l) rfl (fun _ => rfl) ce_fI_rec wd_287 wd_288 wd_289 wd_58) ?_
  refine kk_c (j := 163) rfl (kk_pop (pc := 312) rfl rfl (by decide +kernel)) ?_
  refine kk_c (j := 164) rfl (kk_aload_n (j := ⟨0, by decide⟩) (pc := 313) rfl rfl (by decide +kernel)) ?_
  refine kk_c (j := 165) rfl (kk_getS (f := 3) (ci := 11) (C := RX11) (T := TX11) (N := 14) (ix := 23) (pc := 314) rfl rfl (by decide +kernel) rfl (fun _ => rfl) rfl cw_X11 (by decide) rfl wd_446) ?_
  refine kk_c (j := 166) rfl (kk_iconst (n := 0) (pc := 317) rfl rfl (by decide +kernel) (by decide)) ?_
  refine kk_c (j := 167) rfl (kk_aload_n (j := ⟨0, by decide⟩) (pc := 318) rfl rfl (by decide +kernel)) ?_
  refine kk_c (j := 168) rfl (kk_getS (f := 4) (ci := 11) (C := RX11) (T := TX11) (N := 14) (ix := 30) (pc := 319) rfl rfl (by decide +kernel) rfl (fun _ => rfl) rfl cw_X11 (by decide) rfl wd_447) ?_
  refine kk_c (j := 169) rfl (kk_virtual (y := yX9_made) (n := 0) (d' := 5) (t := 7) (T := TX9) (N := 11) (ix := 99) is_cr (pc := 322) rfl rfl (by decide +kernel) (by decide) (ct_X9_made l) rfl (fun _ => rfl) ce_fR_rec wd_373 wd_374 wd_375 wd_58) ?_
  refine kk_c (j := 170) rfl (kk_aastQ (pc := 325) rfl rfl (by decide +kernel) (fun _ => List.mem_of_getElem? (i := 3) rfl) kE_Q) ?_
  refine kk_c (j := 171) rfl (kk_aload_n (j := ⟨0, by decide⟩) (pc := 326) rfl rfl (by decide +kernel)) ?_
  refine kk_c (j := 172) rfl (kk_iconst (n := 1) (pc := 327) rfl rfl (by decide +kernel) (by decide)) ?_
  refine kk_c (j := 173) rfl (kk_putI (f := 7) (ci := 11) (C := RX11) (T := TX11) (N := 14) (ty := tyX11) (ix := 44) (pc := 328) rfl rfl (by decide +kernel) rfl (fun _ => rfl) rfl cw_X11 tyX11_ok nmX11 (by decide) rfl rfl rfl wd_450) ?_
  refine kk_c (j := 174) rfl (kk_aload_n (j := ⟨0, by decide⟩) (pc := 331) rfl rfl (by decide +kernel)) ?_
  refine kk_c (j := 175) rfl (kk_new (t := 12) (ix := 103) (N := 5) (ci := 4) (C := RX4) (T := TX4) (pc := 332) rfl rfl (by decide +kernel) rfl rfl cw_X4 tyX4 tyX4_ok (by decide) wd_412 wd_413 wd_74 rfl rfl rfl) ?_
  refine kk_c (j := 176) rfl (kk_dup (pc := 335) rfl rfl (by decide +kernel)) ?_
  refine kk_c (j := 177) rfl (kk_aload_n (j := ⟨0, by decide⟩) (pc := 336) rfl rfl (by decide +kernel)) ?_
  refine kk_c (j := 178) rfl (kk_getS (f := 3) (ci := 11) (C := RX11) (T := TX11) (N := 14) (ix := 23) (pc := 337) rfl rfl (by decide +kernel) rfl (fun _ => rfl) rfl cw_X11 (by decide) rfl wd_446) ?_
  refine kk_c (j := 179) rfl (kk_iconst (n := 0) (pc := 340) rfl rfl (by decide +kernel) (by decide)) ?_
  refine kk_c (j := 180) rfl (kk_aldQ (pc := 341) rfl rfl (by decide +kernel)) ?_
  refine kk_c (j := 181) rfl (kk_init (y := yX4_init) (n := 1) (d' := 2) (ix := 105) is_cv (pc := 342) rfl rfl (by decide +kernel) (by decide) (ct_X4_init l) rfl kV_rec wd_414 wd_415 wd_74) ?_
  refine kk_c (j := 182) rfl (kk_putSF (zz := 0) (f := 2) (ci := 11) (C := RX11) (T := TX11) (N := 14) (ty := tyX11) (ix := 108) (pc := 345) rfl rfl (by decide +kernel) rfl (fun _ => rfl) rfl cw_X11 tyX11_ok nmX11 (by decide) rfl rfl rfl rfl (fun _ => ⟨rfl, rfl⟩) wd_445) ?_
  refine kk_c (j := 183) rfl (kk_aload_n (j := ⟨0, by decide⟩) (pc := 348) rfl rfl (by decide +kernel)) ?_
  refine kk_c (j := 184) rfl (kk_new (t := 12) (ix := 103) (N := 5) (ci := 4) (C := RX4) (T := TX4) (pc := 349) rfl rfl (by decide +kernel) rfl rfl cw_X4 tyX4 tyX4_ok (by decide) wd_412 wd_413 wd_74 rfl rfl rfl) ?_
  refine kk_c (j := 185) rfl (kk_dup (pc := 352) rfl rfl (by decide +kernel)) ?_
  refine kk_c (j := 186) rfl (kk_aload_n (j := ⟨0, by decide⟩) (pc := 353) rfl rfl (by decide +kernel)) ?_
  refine kk_c (j := 187) rfl (kk_getS (f := 3) (ci := 11) (C := RX11) (T := TX11) (N := 14) (ix := 23) (pc := 354) rfl rfl (by decide +kernel) rfl (fun _ => rfl) rfl cw_X11 (by decide) rfl wd_446) ?_
  refine kk_c (j := 188) rfl (kk_iconst (n := 0) (pc := 357) rfl rfl (by decide +kernel) (by decide)) ?_
  refine kk_c (j := 189) rfl (kk_aldQ (pc := 358) rfl rfl (by decide +kernel)) ?_
  refine kk_c (j := 190) rfl (kk_init (y := yX4_init) (n := 1) (d' := 2) (ix := 105) is_cv (pc := 359) rfl rfl (by decide +kernel) (by decide) (ct_X4_init l) rfl kV_rec wd_414 wd_415 wd_74) ?_
  refine kk_c (j := 191) rfl (kk_putSF (zz := 0) (f := 10) (ci := 11) (C := RX11) (T := TX11) (N := 14) (ty := tyX11) (ix := 112) (pc := 362) rfl rfl (by decide +kernel) rfl (fun _ => rfl) rfl cw_X11 tyX11_ok nmX11 (by decide) rfl rfl rfl rfl (fun _ => ⟨rfl, rfl⟩) wd_453) ?_
  refine kk_c (j := 192) rfl (kk_aload_n (j := ⟨0, by decide⟩) (pc := 365) rfl rfl (by decide +kernel)) ?_
  refine kk_c (j := 193) rfl (kk_new (t := 12) (ix := 103) (N := 5) (ci := 4) (C := RX4) (T := TX4) (pc := 366) rfl rfl (by decide +kernel) rfl rfl cw_X4 tyX4 tyX4_ok (by decide) wd_412 wd_413 wd_74 rfl rfl rfl) ?_
  refine kk_c (j := 194) rfl (kk_dup (pc := 369) rfl rfl (by decide +kernel)) ?_
  refine kk_c (j := 195) rfl (kk_aload_n (j := ⟨0, by decide⟩) (pc := 370) rfl rfl (by decide +kernel)) ?_
  refine kk_c (j := 196) rfl (kk_getS (f := 3) (ci := 11) (C := RX11) (T := TX11) (N := 14) (ix := 23) (pc := 371) rfl rfl (by decide +kernel) rfl (fun _ => rfl) rfl cw_X11 (by decide) rfl wd_446) ?_
  refine kk_c (j := 197) rfl (kk_iconst (n := 0) (pc := 374) rfl rfl (by decide +kernel) (by decide)) ?_
  refine kk_c (j := 198) rfl (kk_aldQ (pc := 375) rfl rfl (by decide +kernel)) ?_
  refine kk_c (j := 199) rfl (kk_init (y := yX4_init) (n := 1) (d' := 2) (ix := 105) is_cv (pc := 376) rfl rfl (by decide +kernel) (by decide) (ct_X4_init l) rfl kV_rec wd_414 wd_415 wd_74) ?_
  refine kk_c (j := 200) rfl (kk_putSF (zz := 0) (f := 12) (ci := 11) (C := RX11) (T := TX11) (N := 14) (ty := tyX11) (ix := 115) (pc := 379) rfl rfl (by decide +kernel) rfl (fun _ => rfl) rfl cw_X11 tyX11_ok nmX11 (by decide) rfl rfl rfl rfl (fun _ => ⟨rfl, rfl⟩) wd_455) ?_
  refine kk_c (j := 201) rfl (kk_vret (pc := 382) rfl (by decide +kernel) rfl) ?_
  exact trivial
noncomputable def F_X11_init := ce_fV tb_X11_init 2 (some 0)
theorem ct_X11_init (l : Launch) : ce_ini l yX11_init 0 51 48 1028 (ce_wV F_X11_init) := ⟨_, _, ce_ctr_ofK (pcs := pc_X11_init) (by decide +kernel) (fun _ => rfl) rfl (ok_X11_init l) ce_fV_run, ce_tw_at wd_80 rfl, by decide, by decide +kernel, by decide +kernel, by decide +kernel⟩
def pc_X12_init : List Nat := [0, 1, 4, 5, 7, 9, 12, 13, 15, 17, 20, 21, 23, 25, 28, 29, 31, 33, 36, 37, 39, 41, 44, 45, 47, 49, 52, 53, 55, 57, 60, 61, 62, 65, 66, 68, 71, 72, 75, 78, 79, 81, 84, 85, 86, 87, 89, 90, 91, 93, 94, 95, 96, 98, 99, 100, 101, 103, 104, 105, 106, 108, 109, 110, 111, 112, 113, 115, 116, 117, 119, 120, 121, 122, 124, 125, 126, 127, 129, 130, 131, 132, 134, 135, 136, 137, 139, 140, 141, 142, 143, 144, 146, 147, 148, 150, 151, 152, 153, 155, 156, 157, 158, 160, 161, 162, 163, 165, 166, 167, 168, 169, 170, 172, 173, 174, 176, 177, 178, 179, 181, 182, 183, 184, 186, 187, 188, 189, 190, 191, 193, 194, 195, 197, 198, 199, 200, 202, 203, 204, 205, 207, 208, 209, 210, 212, 213, 214, 215, 216, 217, 219, 220, 221, 223, 224, 225, 226, 228, 229, 230, 231, 233, 234, 235, 236, 238, 239, 240, 241, 243, 244, 246, 247, 248, 250, 251, 252, 253, 255, 256, 257, 258, 260, 261, 262, 263, 265, 266, 267, 268, 270, 271, 272, 273, 275, 276, 278, 279, 280, 282, 283, 284, 285, 287, 288, 289, 290, 292, 293, 294, 295, 297, 298, 299, 300, 302, 303, 304, 305, 307, 308, 310, 311, 312, 314, 315, 316, 317, 319, 320, 321, 322, 324, 325, 326, 327, 329, 330, 331, 332, 334, 335, 337, 338, 339, 341, 342, 343, 344, 346, 347, 348, 349, 351, 352, 354, 355, 356, 358, 359, 360, 361, 363, 364, 365, 366, 368, 369, 370, 371, 373, 374, 376, 377, 378, 380, 381, 382, 383, 385, 386, 387, 388, 390, 391, 392, 395, 396, 399, 401, 404, 405, 408, 410, 413, 414, 416, 418, 421, 422, 425, 427, 430, 431, 434, 436, 439, 440, 441, 444, 445, 448, 450, 453, 454, 455, 457, 460, 461, 462, 464, 467, 468, 471, 473, 476, 477, 479, 481, 484, 485, 486, 487, 488, 491, 492, 495, 496, 497, 498, 501, 504, 505, 508]
noncomputable def tb_X12_init : List ce_Op := [o_aload 0, o_kinit, o_aload 0, o_int 6, o_knewa 21 30 4126, o_kputS 20 0 21 (fun _ => 0), o_aload 0, o_int 6, o_knewa 22 30 4126, o_kputS 20 1 22 (fun _ => 0), o_aload 0, o_int 6, o_knewa 23 30 4126, o_kputS 20 2 23 (fun _ => 0), o_aload 0, o_int 6, o_knewa 24 30 4126, o_kputS 20 3 24 (fun _ => 0), o_aload 0, o_int 6, o_knewa 25 30 4126, o_kputS 20 4 25 (fun _ => 0), o_aload 0, o_int 6, o_knewa 26 30 4126, o_kputS 20 5 26 (fun _ => 0), o_aload 0, o_int 6, o_knewa 27 30 4126, o_kputS 20 6 27 (fun _ => 0), o_aload 0, o_int 4, o_kputI 20 8, o_aload 0, o_int 12, o_kputI 20 9, o_aload 0, o_int 250, o_kputI 20 10, o_aload 0, o_int 12, o_kanew 40 30 4126, o_dup, o_int 0, o_int 4, o_knewa 41 30 4126, o_dup, o_int 0, o_int 99, o_ist 41, o_dup, o_int 1, o_int 111, o_ist 41, o_dup, o_int 2, o_int 115, o_ist 41, o_dup, o_int 3, o_int 116, o_ist 41, o_kaast 40 ce_k0, o_dup, o_int 1, o_int 5, o_knewa 41 30 4126, o_dup, o_int 0, o_int 115, o_ist 41, o_dup, o_int 1, o_int 104, o_ist 41, o_dup, o_int 2, o_int 111, o_ist 41, o_dup, o_int 3, o_int 101, o_ist 41, o_dup, o_int 4, o_int 115, o_ist 41, o_kaast 40 ce_k0, o_dup, o_int 2, o_int 4, o_knewa 41 30 4126, o_dup, o_int 0, o_int 104, o_ist 41, o_dup, o_int 1, o_int 111, o_ist 41, o_dup, o_int 2, o_int 117, o_ist 41, o_dup, o_int 3, o_int 114, o_ist 41, o_kaast 40 ce_k0, o_dup, o_int 3, o_int 3, o_knewa 41 30 4126, o_dup, o_int 0, o_int 98, o_ist 41, o_dup, o_int 1, o_int 105, o_ist 41, o_dup, o_int 2, o_int 100, o_ist 41, o_kaast 40 ce_k0, o_dup, o_int 4, o_int 4, o_knewa 41 30 4126, o_dup, o_int 0, o_int 115, o_ist 41, o_dup, o_int 1, o_int 97, o_ist 41, o_dup, o_int 2, o_int 105, o_ist 41, o_dup, o_int 3, o_int 100, o_ist 41, o_kaast 40 ce_k0, o_dup, o_int 5, o_int 4, o_knewa 41 30 4126, o_dup, o_int 0, o_int 99, o_ist 41, o_dup, o_int 1, o_int 117, o_ist 41, o_dup, o_int 2, o_int 112, o_ist 41, o_dup, o_int 3, o_int 115, o_ist 41, o_kaast 40 ce_k0, o_dup, o_int 6, o_int 5, o_knewa 41 30 4126, o_dup, o_int 0, o_int 108, o_ist 41, o_dup, o_int 1, o_int 101, o_ist 41, o_dup, o_int 2, o_int 97, o_ist 41, o_dup, o_int 3, o_int 115, o_ist 41, o_dup, o_int 4, o_int 116, o_ist 41, o_kaast 40 ce_k0, o_dup, o_int 7, o_int 5, o_knewa 41 30 4126, o_dup, o_int 0, o_int 102, o_ist 41, o_dup, o_int 1, o_int 105, o_ist 41, o_dup, o_int 2, o_int 114, o_ist 41, o_dup, o_int 3, o_int 115, o_ist 41, o_dup, o_int 4, o_int 116, o_ist 41, o_kaast 40 ce_k0, o_dup, o_int 8, o_int 4, o_knewa 41 30 4126, o_dup, o_int 0, o_int 112, o_ist 41, o_dup, o_int 1, o_int 117, o_ist 41, o_dup, o_int 2, o_int 108, o_ist 41, o_dup, o_int 3, o_int 108, o_ist 41, o_kaast 40 ce_k0, o_dup, o_int 9, o_int 2, o_knewa 41 30 4126, o_dup, o_int 0, o_int 111, o_ist 41, o_dup, o_int 1, o_int 114, o_ist 41, o_kaast 40 ce_k0, o_dup, o_int 10, o_int 3, o_knewa 41 30 4126, o_dup, o_int 0, o_int 97, o_ist 41, o_dup, o_int 1, o_int 110, o_ist 41, o_dup, o_int 2, o_int 100, o_ist 41, o_kaast 40 ce_k0, o_dup, o_int 11, o_int 3, o_knewa 41 30 4126, o_dup, o_int 0, o_int 110, o_ist 41, o_dup, o_int 1, o_int 111, o_ist 41, o_dup, o_int 2, o_int 116, o_ist 41, o_kaast 40 ce_k0, o_kputS 20 12 40 (fun _ => 0), o_aload 0, o_int 160, o_knewa 28 30 4126, o_kputS 20 13 28 (fun _ => 0), o_aload 0, o_int 3060, o_knewa 29 30 4126, o_kputS 20 14 29 (fun _ => 0), o_aload 0, o_int 18, o_knewa 30 30 4126, o_kputS 20 15 30 (fun _ => 0), o_aload 0, o_int 200, o_knewa 31 30 4126, o_kputS 20 16 31 (fun _ => 0), o_aload 0, o_int 200, o_knewa 32 30 4126, o_kputS 20 17 32 (fun _ => 0), o_aload 0, o_int 1, o_kputI 20 19, o_aload 0, o_int 180, o_knewa 33 30 4126, o_kputS 20 27 33 (fun _ => 0), o_aload 0, o_int 4, o_knewa 34 30 4126, o_kputS 20 41 34 (fun _ => 0), o_aload 0, o_int 4, o_knewa 35 30 4126, o_kputS 20 42 35 (fun _ => 0), o_aload 0, o_int 160, o_knewa 36 30 4126, o_kputS 20 43 36 (fun _ => 0), o_aload 0, o_int 40, o_knewa 37 30 4126, o_kputS 20 44 37 (fun _ => 0), o_int 0, o_istore 1, o_iload 1, o_int 4, o_cmpge 342, o_aload 0, o_kgetS 20 41 34 (fun _ => 0), o_iload 1, o_int (-1), o_ist 34, o_iinc 1 1, o_goto 332, o_aload 0, o_kp kPa 1 (ce_wV F_X12_firstRule), o_vret]
theorem tl_X12_init : ce_TL tb_X12_init := by
  unfold tb_X12_init
  refine tl_c ta_aload ?_
  refine tl_c ta_kinit ?_
  refine tl_c ta_aload ?_
  refine tl_c ta_int ?_
  refine tl_c ta_knewa ?_
  refine tl_c ta_kputS ?_
  refine tl_c ta_aload ?_
  refine tl_c ta_int ?_
  refine tl_c ta_knewa ?_
  refine tl_c ta_kputS ?_
  refine tl_c ta_aload ?_
  refine tl_c ta_int ?_
  refine tl_c ta_knewa ?_
  refine tl_c ta_kputS ?_
  refine tl_c ta_aload ?_
  refine tl_c ta_int ?_
  refine tl_c ta_knewa ?_
  refine tl_c ta_kputS ?_
  refine tl_c ta_aload ?_
  refine tl_c ta_int ?_
  refine tl_c ta_knewa ?_
  refine tl_c ta_kputS ?_
  refine tl_c ta_aload ?_
  refine tl_c ta_int ?_
  refine tl_c ta_knewa ?_
  refine tl_c ta_kputS ?_
  refine tl_c ta_aload ?_
  refine tl_c ta_int ?_
  refine tl_c ta_knewa ?_
  refine tl_c ta_kputS ?_
  refine tl_c ta_aload ?_
  refine tl_c ta_int ?_
  refine tl_c ta_kputI ?_
  refine tl_c ta_aload ?_
  refine tl_c ta_int ?_
  refine tl_c ta_kputI ?_
  refine tl_c ta_aload ?_
  refine tl_c ta_int ?_
  refine tl_c ta_kputI ?_
  refine tl_c ta_aload ?_
  refine tl_c ta_int ?_
  refine tl_c ta_kanew ?_
  refine tl_c ta_dup ?_
  refine tl_c ta_int ?_
  refine tl_c ta_int ?_
  refine tl_c ta_knewa ?_
  refine tl_c ta_dup ?_
  refine tl_c ta_int ?_
  refine tl_c ta_int ?_
  refine tl_c ta_ist ?_
  refine tl_c ta_dup ?_
  refine tl_c ta_int ?_
  refine tl_c ta_int ?_
  refine tl_c ta_ist ?_
  refine tl_c ta_dup ?_
  refine tl_c ta_int ?_
  refine tl_c ta_int ?_
  refine tl_c ta_ist ?_
  refine tl_c ta_dup ?_
  refine tl_c ta_int ?_
  refine tl_c ta_int ?_
  refine tl_c ta_ist ?_
  refine tl_c ta_kaast ?_
  refine tl_c ta_dup ?_
  refine tl_c ta_int ?_
  refine tl_c ta_int ?_
  refine tl_c ta_knewa ?_
  refine tl_c ta_dup ?_
  refine tl_c ta_int ?_
  refine tl_c ta_int ?_
  refine tl_c ta_ist ?_
  refine tl_c ta_dup ?_
  refine tl_c ta_int ?_
  refine tl_c ta_int ?_
  refine tl_c ta_ist ?_
  refine tl_c ta_dup ?_
  refine tl_c ta_int ?_
  refine tl_c ta_int ?_
  refine tl_c ta_ist ?_
  refine tl_c ta_dup ?_
  refine tl_c ta_int ?_
  refine tl_c ta_int ?_
  refine tl_c ta_ist ?_
  refine tl_c ta_dup ?_
  refine tl_c ta_int ?_
  refine tl_c ta_int ?_
  refine tl_c ta_ist ?_
  refine tl_c ta_kaast ?_
  refine tl_c ta_dup ?_
  refine tl_c ta_int ?_
  refine tl_c ta_int ?_
  refine tl_c ta_knewa ?_
  refine tl_c ta_dup ?_
  refine tl_c ta_int ?_
  refine tl_c ta_int ?_
  refine tl_c ta_ist ?_
  refine tl_c ta_dup ?_
  refine tl_c ta_int ?_
  refine tl_c ta_int ?_
  refine tl_c ta_ist ?_
  refine tl_c ta_dup ?_
  refine tl_c ta_int ?_
  refine tl_c ta_int ?_
  refine tl_c ta_ist ?_
  refine tl_c ta_dup ?_
  refine tl_c ta_int ?_
  refine tl_c ta_int ?_
  refine tl_c ta_ist ?_
  refine tl_c ta_kaast ?_
  refine tl_c ta_dup ?_
  refine tl_c ta_int ?_
  refine tl_c ta_int ?_
  refine tl_c ta_knewa ?_
  refine tl_c ta_dup ?_
  refine tl_c ta_int ?_
  refine tl_c ta_int ?_
  refine tl_c ta_ist ?_
  refine tl_c ta_dup ?_
  refine tl_c ta_int ?_
  refine tl_c ta_int ?_
  refine tl_c ta_ist ?_
  refine tl_c ta_dup ?_
  refine tl_c ta_int ?_
  refine tl_c ta_int ?_
  refine tl_c ta_ist ?_
  refine tl_c ta_kaast ?_
  refine tl_c ta_dup ?_
  refine tl_c ta_int ?_
  refine tl_c ta_int ?_
  refine tl_c ta_knewa ?_
  refine tl_c ta_dup ?_
  refine tl_c ta_int ?_
  refine tl_c ta_int ?_
  refine tl_c ta_ist ?_
  refine tl_c ta_dup ?_
  refine tl_c ta_int ?_
  refine tl_c ta_int ?_
  refine tl_c ta_ist ?_
  refine tl_c ta_dup ?_
  refine tl_c ta_int ?_
  refine tl_c ta_int ?_
  refine tl_c ta_ist ?_
  refine tl_c ta_dup ?_
  refine tl_c ta_int ?_
  refine tl_c ta_int ?_
  refine tl_c ta_ist ?_
  refine tl_c ta_kaast ?_
  refine tl_c ta_dup ?_
  refine tl_c ta_int ?_
  refine tl_c ta_int ?_
  refine tl_c ta_knewa ?_
  refine tl_c ta_dup ?_
  refine tl_c ta_int ?_
  refine tl_c ta_int ?_
  refine tl_c ta_ist ?_
  refine tl_c ta_dup ?_
  refine tl_c ta_int ?_
  refine tl_c ta_int ?_
  refine tl_c ta_ist ?_
  refine tl_c ta_dup ?_
  refine tl_c ta_int ?_
  refine tl_c ta_int ?_
  refine tl_c ta_ist ?_
  refine tl_c ta_dup ?_
  refine tl_c ta_int ?_
  refine tl_c ta_int ?_
  refine tl_c ta_ist ?_
  refine tl_c ta_kaast ?_
  refine tl_c ta_dup ?_
  refine tl_c ta_int ?_
  refine tl_c ta_int ?_
  refine tl_c ta_knewa ?_
  refine tl_c ta_dup ?_
  refine tl_c ta_int ?_
  refine tl_c ta_int ?_
  refine tl_c ta_ist ?_
  refine tl_c ta_dup ?_
  refine tl_c ta_int ?_
  refine tl_c ta_int ?_
  refine tl_c ta_ist ?_
  refine tl_c ta_dup ?_
  refine tl_c ta_int ?_
  refine tl_c ta_int ?_
  refine tl_c ta_ist ?_
  refine tl_c ta_dup ?_
  refine tl_c ta_int ?_
  refine tl_c ta_int ?_
  refine tl_c ta_ist ?_
  refine tl_c ta_dup ?_
  refine tl_c ta_int ?_
  refine tl_c ta_int ?_
  refine tl_c ta_ist ?_
  refine tl_c ta_kaast ?_
  refine tl_c ta_dup ?_
  refine tl_c ta_int ?_
  refine tl_c ta_int ?_
  refine tl_c ta_knewa ?_
  refine tl_c ta_dup ?_
  refine tl_c ta_int ?_
  refine tl_c ta_int ?_
  refine tl_c ta_ist ?_
  refine tl_c ta_dup ?_
  refine tl_c ta_int ?_
  refine tl_c ta_int ?_
  refine tl_c ta_ist ?_
  refine tl_c ta_dup ?_
  refine tl_c ta_int ?_
  refine tl_c ta_int ?_
  refine tl_c ta_ist ?_
  refine tl_c ta_dup ?_
  refine tl_c ta_int ?_
  refine tl_c ta_int ?_
  refine tl_c ta_ist ?_
  refine tl_c ta_dup ?_
  refine tl_c ta_int ?_
  refine tl_c ta_int ?_
  refine tl_c ta_ist ?_
  refine tl_c ta_kaast ?_
  refine tl_c ta_dup ?_
  refine tl_c ta_int ?_
  refine tl_c ta_int ?_
  refine tl_c ta_knewa ?_
  refine tl_c ta_dup ?_
  refine tl_c ta_int ?_
  refine tl_c ta_int ?_
  refine tl_c ta_ist ?_
  refine tl_c ta_dup ?_
  refine tl_c ta_int ?_
  refine tl_c ta_int ?_
  refine tl_c ta_ist ?_
  refine tl_c ta_dup ?_
  refine tl_c ta_int ?_
  refine tl_c ta_int ?_
  refine tl_c ta_ist ?_
  refine tl_c ta_dup ?_
  refine tl_c ta_int ?_
  refine tl_c ta_int ?_
  refine tl_c ta_ist ?_
  refine tl_c ta_kaast ?_
  refine tl_c ta_dup ?_
  refine tl_c ta_int ?_
  refine tl_c ta_int ?_
  refine tl_c ta_knewa ?_
  refine tl_c ta_dup ?_
  refine tl_c ta_int ?_
  refine tl_c ta_int ?_
  refine tl_c ta_ist ?_
  refine tl_c ta_dup ?_
  refine tl_c ta_int ?_
  refine tl_c ta_int ?_
  refine tl_c ta_ist ?_
  refine tl_c ta_kaast ?_
  refine tl_c ta_dup ?_
  refine tl_c ta_int ?_
  refine tl_c ta_int ?_
  refine tl_c ta_knewa ?_
  refine tl_c ta_dup ?_
  refine tl_c ta_int ?_
  refine tl_c ta_int ?_
  refine tl_c ta_ist ?_
  refine tl_c ta_dup ?_
  refine tl_c ta_int ?_
  refine tl_c ta_int ?_
  refine tl_c ta_ist ?_
  refine tl_c ta_dup ?_
  refine tl_c ta_int ?_
  refine tl_c ta_int ?_
  refine tl_c ta_ist ?_
  refine tl_c ta_kaast ?_
  refine tl_c ta_dup ?_
  refine tl_c ta_int ?_
  refine tl_c ta_int ?_
  refine tl_c ta_knewa ?_
  refine tl_c ta_dup ?_
  refine tl_c ta_int ?_
  refine tl_c ta_int ?_
  refine tl_c ta_ist ?_
  refine tl_c ta_dup ?_
  refine tl_c ta_int ?_
  refine tl_c ta_int ?_
  refine tl_c ta_ist ?_
  refine tl_c ta_dup ?_
  refine tl_c ta_int ?_
  refine tl_c ta_int ?_
  refine tl_c ta_ist ?_
  refine tl_c ta_kaast ?_
  refine tl_c ta_kputS ?_
  refine tl_c ta_aload ?_
  refine tl_c ta_int ?_
  refine tl_c ta_knewa ?_
  refine tl_c ta_kputS ?_
  refine tl_c ta_aload ?_
  refine tl_c ta_int ?_
  refine tl_c ta_knewa ?_
  refine tl_c ta_kputS ?_
  refine tl_c ta_aload ?_
  refine tl_c ta_int ?_
  refine tl_c ta_knewa ?_
  refine tl_c ta_kputS ?_
  refine tl_c ta_aload ?_
  refine tl_c ta_int ?_
  refine tl_c ta_knewa ?_
  refine tl_c ta_kputS ?_
  refine tl_c ta_aload ?_
  refine tl_c ta_int ?_
  refine tl_c ta_knewa ?_
  refine tl_c ta_kputS ?_
  refine tl_c ta_aload ?_
  refine tl_c ta_int ?_
  refine tl_c ta_kputI ?_
  refine tl_c ta_aload ?_
  refine tl_c ta_int ?_
  refine tl_c ta_knewa ?_
  refine tl_c ta_kputS ?_
  refine tl_c ta_aload ?_
  refine tl_c ta_int ?_
  refine tl_c ta_knewa ?_
  refine tl_c ta_kputS ?_
  refine tl_c ta_aload ?_
  refine tl_c ta_int ?_
  refine tl_c ta_knewa ?_
  refine tl_c ta_kputS ?_
  refine tl_c ta_aload ?_
  refine tl_c ta_int ?_
  refine tl_c ta_knewa ?_
  refine tl_c ta_kputS ?_
  refine tl_c ta_aload ?_
  refine tl_c ta_int ?_
  refine tl_c ta_knewa ?_
  refine tl_c ta_kputS ?_
  refine tl_c ta_int ?_
  refine tl_c ta_istore ?_
  refine tl_c ta_iload ?_
  refine tl_c ta_int ?_
  refine tl_c ta_cmpge ?_
  refine tl_c ta_aload ?_
  refine tl_c ta_kgetS ?_
  refine tl_c ta_iload ?_
  refine tl_c ta_int ?_
  refine tl_c ta_ist ?_
  refine tl_c ta_iinc ?_
  refine tl_c ta_goto ?_
  refine tl_c ta_aload ?_
  refine tl_c ta_kp ?_
  refine tl_c ta_vret ?_
  exact trivial
set_option maxRecDepth 20000 in
theorem ok_X12_init (l : Launch) : ce_OkLK l cX12_init RX12 2 none 10 30 4126 pc_X12_init 0 tb_X12_init := by
  unfold tb_X12_init
  refine kk_c (j := 1) rfl (kk_aload_n (j := ⟨0, by decide⟩) (pc := 0) rfl rfl (by decide +kernel)) ?_
  refine kk_c (j := 2) rfl (kk_oinit (ix := 1) (pc := 1) rfl rfl (by decide +kernel) (by decide) wd_813 wd_82 wd_83 rfl rfl rfl) ?_
  refine kk_c (j := 3) rfl (kk_aload_n (j := ⟨0, by decide⟩) (pc := 4) rfl rfl (by decide +kernel)) ?_
  refine kk_c (j := 4) rfl (kk_bipush (n := 6) (pc := 5) rfl rfl (by decide +kernel) (by decide)) ?_
  refine kk_c (j := 5) rfl (kk_newa (pc := 7) rfl rfl (by decide +kernel) rfl wd_131) ?_
  refine kk_c (j := 6) rfl (kk_putSF (zz := 0) (f := 0) (ci := 12) (C := RX12) (T := TX12) (N := 45) (ty := tyX12) (ix := 7) (pc := 9) rfl rfl (by decide +kernel) rfl (fun _ => rfl) rfl cw_X12 tyX12_ok nmX12 (by decide) rfl rfl rfl rfl (fun _ => ⟨rfl, rfl⟩) wd_824) ?_
  refine kk_c (j := 7) rfl (kk_aload_n (j := ⟨0, by decide⟩) (pc := 12) rfl rfl (by decide +kernel)) ?_
  refine kk_c (j := 8) rfl (kk_bipush (n := 6) (pc := 13) rfl rfl (by decide +kernel) (by decide)) ?_
  refine kk_c (j := 9) rfl (kk_newa (pc := 15) rfl rfl (by decide +kernel) rfl wd_131) ?_
  refine kk_c (j := 10) rfl (kk_putSF (zz := 0) (f := 1) (ci := 12) (C := RX12) (T := TX12) (N := 45) (ty := tyX12) (ix := 13) (pc := 17) rfl rfl (by decide +kernel) rfl (fun _ => rfl) rfl cw_X12 tyX12_ok nmX12 (by decide) rfl rfl rfl rfl (fun _ => ⟨rfl, rfl⟩) wd_825) ?_
  refine kk_c (j := 11) rfl (kk_aload_n (j := ⟨0, by decide⟩) (pc := 20) rfl rfl (by decide +kernel)) ?_
  refine kk_c (j := 12) rfl (kk_bipush (n := 6) (pc := 21) rfl rfl (by decide +kernel) (by decide)) ?_
  refine kk_c (j := 13) rfl (kk_newa (pc := 23) rfl rfl (by decide +kernel) rfl wd_131) ?_
  refine kk_c (j := 14) rfl (kk_putSF (zz := 0) (f := 2) (ci := 12) (C := RX12) (T := TX12) (N := 45) (ty := tyX12) (ix := 16) (pc := 25) rfl rfl (by decide +kernel) rfl (fun _ => rfl) rfl cw_X12 tyX12_ok nmX12 (by decide) rfl rfl rfl rfl (fun _ => ⟨rfl, rfl⟩) wd_826) ?_
  refine kk_c (j := 15) rfl (kk_aload_n (j := ⟨0, by decide⟩) (pc := 28) rfl rfl (by decide +kernel)) ?_
  refine kk_c (j := 16) rfl (kk_bipush (n := 6) (pc := 29) rfl rfl (by decide +kernel) (by decide)) ?_
  refine kk_c (j := 17) rfl (kk_newa (pc := 31) rfl rfl (by decide +kernel) rfl wd_131) ?_
  refine kk_c (j := 18) rfl (kk_putSF (zz := 0) (f := 3) (ci := 12) (C := RX12) (T := TX12) (N := 45) (ty := tyX12) (ix := 19) (pc := 33) rfl rfl (by decide +kernel) rfl (fun _ => rfl) rfl cw_X12 tyX12_ok nmX12 (by decide) rfl rfl rfl rfl (fun _ => ⟨rfl, rfl⟩) wd_827) ?_
  refine kk_c (j := 19) rfl (kk_aload_n (j := ⟨0, by decide⟩) (pc := 36) rfl rfl (by decide +kernel)) ?_
  refine kk_c (j := 20) rfl (kk_bipush (n := 6) (pc := 37) rfl rfl (by decide +kernel) (by decide)) ?_
  refine kk_c (j := 21) rfl (kk_newa (pc := 39) rfl rfl (by decide +kernel) rfl wd_131) ?_
  refine kk_c (j := 22) rfl (kk_putSF (zz := 0) (f := 4) (ci := 12) (C := RX12) (T := TX12) (N := 45) (ty := tyX12) (ix := 22) (pc := 41) rfl rfl (by decide +kernel) rfl (fun _ => rfl) rfl cw_X12 tyX12_ok nmX12 (by decide) rfl rfl rfl rfl (fun _ => ⟨rfl, rfl⟩) wd_828) ?_
  refine kk_c (j := 23) rfl (kk_aload_n (j := ⟨0, by decide⟩) (pc := 44) rfl rfl (by decide +kernel)) ?_
  refine kk_c (j := 24) rfl (kk_bipush (n := 6) (pc := 45) rfl rfl (by decide +kernel) (by decide)) ?_
  refine kk_c (j := 25) rfl (kk_newa (pc := 47) rfl rfl (by decide +kernel) rfl wd_131) ?_
  refine kk_c (j := 26) rfl (kk_putSF (zz := 0) (f := 5) (ci := 12) (C := RX12) (T := TX12) (N := 45) (ty := tyX12) (ix := 25) (pc := 49) rfl rfl (by decide +kernel) rfl (fun _ => rfl) rfl cw_X12 tyX12_ok nmX12 (by decide) rfl rfl rfl rfl (fun _ => ⟨rfl, rfl⟩) wd_829) ?_
  refine kk_c (j := 27) rfl (kk_aload_n (j := ⟨0, by decide⟩) (pc := 52) rfl rfl (by decide +kernel)) ?_
  refine kk_c (j := 28) rfl (kk_bipush (n := 6) (pc := 53) rfl rfl (by decide +kernel) (by decide)) ?_
  refine kk_c (j := 29) rfl (kk_newa (pc := 55) rfl rfl (by decide +kernel) rfl wd_131) ?_
  refine kk_c (j := 30) rfl (kk_putSF (zz := 0) (f := 6) (ci := 12) (C := RX12) (T := TX12) (N := 45) (ty := tyX12) (ix := 28) (pc := 57) rfl rfl (by decide +kernel) rfl (fun _ => rfl) rfl cw_X12 tyX12_ok nmX12 (by decide) rfl rfl rfl rfl (fun _ => ⟨rfl, rfl⟩) wd_830) ?_
  refine kk_c (j := 31) rfl (kk_aload_n (j := ⟨0, by decide⟩) (pc := 60) rfl rfl (by decide +kernel)) ?_
  refine kk_c (j := 32) rfl (kk_iconst (n := 4) (pc := 61) rfl rfl (by decide +kernel) (by decide)) ?_
  refine kk_c (j := 33) rfl (kk_putI (f := 8) (ci := 12) (C := RX12) (T := TX12) (N := 45) (ty := tyX12) (ix := 31) (pc := 62) rfl rfl (by decide +kernel) rfl (fun _ => rfl) rfl cw_X12 tyX12_ok nmX12 (by decide) rfl rfl rfl wd_832) ?_
  refine kk_c (j := 34) rfl (kk_aload_n (j := ⟨0, by decide⟩) (pc := 65) rfl rfl (by decide +kernel)) ?_
  refine kk_c (j := 35) rfl (kk_bipush (n := 12) (pc := 66) rfl rfl (by decide +kernel) (by decide)) ?_
  refine kk_c (j := 36) rfl (kk_putI (f := 9) (ci := 12) (C := RX12) (T := TX12) (N := 45) (ty := tyX12) (ix := 35) (pc := 68) rfl rfl (by decide +kernel) rfl (fun _ => rfl) rfl cw_X12 tyX12_ok nmX12 (by decide) rfl rfl rfl wd_833) ?_
  refine kk_c (j := 37) rfl (kk_aload_n (j := ⟨0, by decide⟩) (pc := 71) rfl rfl (by decide +kernel)) ?_
  refine kk_c (j := 38) rfl (kk_sipush (n := 250) (pc := 72) rfl rfl (by decide +kernel) (by decide)) ?_
  refine kk_c (j := 39) rfl (kk_putI (f := 10) (ci := 12) (C := RX12) (T := TX12) (N := 45) (ty := tyX12) (ix := 38) (pc := 75) rfl rfl (by decide +kernel) rfl (fun _ => rfl) rfl cw_X12 tyX12_ok nmX12 (by decide) rfl rfl rfl wd_834) ?_
  refine kk_c (j := 40) rfl (kk_aload_n (j := ⟨0, by decide⟩) (pc := 78) rfl rfl (by decide +kernel)) ?_
  refine kk_c (j := 41) rfl (kk_bipush (n := 12) (pc := 79) rfl rfl (by decide +kernel) (by decide)) ?_
  refine kk_c (j := 42) rfl (kk_anewA (ix := 41) (pc := 81) rfl rfl (by decide +kernel) wd_814 rfl) ?_
  refine kk_c (j := 43) rfl (kk_dup (pc := 84) rfl rfl (by decide +kernel)) ?_
  refine kk_c (j := 44) rfl (kk_iconst (n := 0) (pc := 85) rfl rfl (by decide +kernel) (by decide)) ?_
  refine kk_c (j := 45) rfl (kk_iconst (n := 4) (pc := 86) rfl rfl (by decide +kernel) (by decide)) ?_
  refine kk_c (j := 46) rfl (kk_newa (pc := 87) rfl rfl (by decide +kernel) rfl wd_131) ?_
  refine kk_c (j := 47) rfl (kk_dup (pc := 89) rfl rfl (by decide +kernel)) ?_
  refine kk_c (j := 48) rfl (kk_iconst (n := 0) (pc := 90) rfl rfl (by decide +kernel) (by decide)) ?_
  refine kk_c (j := 49) rfl (kk_bipush (n := 99) (pc := 91) rfl rfl (by decide +kernel) (by decide)) ?_
  refine kk_c (j := 50) rfl (kk_ist (pc := 93) rfl rfl (by decide +kernel) rfl) ?_
  refine kk_c (j := 51) rfl (kk_dup (pc := 94) rfl rfl (by decide +kernel)) ?_
  refine kk_c (j := 52) rfl (kk_iconst (n := 1) (pc := 95) rfl rfl (by decide +kernel) (by decide)) ?_
  refine kk_c (j := 53) rfl (kk_bipush (n := 111) (pc := 96) rfl rfl (by decide +kernel) (by decide)) ?_
  refine kk_c (j := 54) rfl (kk_ist (pc := 98) rfl rfl (by decide +kernel) rfl) ?_
  refine kk_c (j := 55) rfl (kk_dup (pc := 99) rfl rfl (by decide +kernel)) ?_
  refine kk_c (j := 56) rfl (kk_iconst (n := 2) (pc := 100) rfl rfl (by decide +kernel) (by decide)) ?_
  refine kk_c (j := 57) rfl (kk_bipush (n := 115) (pc := 101) rfl rfl (by decide +kernel) (by decide)) ?_
  refine kk_c (j := 58) rfl (kk_ist (pc := 103) rfl rfl (by decide +kernel) rfl) ?_
  refine kk_c (j := 59) rfl (kk_dup (pc := 104) rfl rfl (by decide +kernel)) ?_
  refine kk_c (j := 60) rfl (kk_iconst (n := 3) (pc := 105) rfl rfl (by decide +kernel) (by decide)) ?_
  refine kk_c (j := 61) rfl (kk_bipush (n := 116) (pc := 106) rfl rfl (by decide +kernel) (by decide)) ?_
  refine kk_c (j := 62) rfl (kk_ist (pc := 108) rfl rfl (by decide +kernel) rfl) ?_
  refine kk_c (j := 63) rfl (kk_aastA (pc := 109) rfl rfl (by decide +kernel) rfl rfl rfl rfl) ?_
  refine kk_c (j := 64) rfl (kk_dup (pc := 110) rfl rfl (by decide +kernel)) ?_
  refine kk_c (j := 65) rfl (kk_iconst (n := 1) (pc := 111) rfl rfl (by decide +kernel) (by decide)) ?_
  refine kk_c (j := 66) rfl (kk_iconst (n := 5) (pc := 112) rfl rfl (by decide +kernel) (by decide)) ?_
  refine kk_c (j := 67) rfl (kk_newa (pc := 113) rfl rfl (by decide +kernel) rfl wd_131) ?_
  refine kk_c (j := 68) rfl (kk_dup (pc := 115) rfl rfl (by decide +kernel)) ?_
  refine kk_c (j := 69) rfl (kk_iconst (n := 0) (pc := 116) rfl rfl (by decide +kernel) (by decide)) ?_
  refine kk_c (j := 70) rfl (kk_bipush (n := 115) (pc := 117) rfl rfl (by decide +kernel) (by decide)) ?_
  refine kk_c (j := 71) rfl (kk_ist (pc := 119) rfl rfl (by decide +kernel) rfl) ?_
  refine kk_c (j := 72) rfl (kk_dup (pc := 120) rfl rfl (by decide +kernel)) ?_
  refine kk_c (j := 73) rfl (kk_iconst (n := 1) (pc := 121) rfl rfl (by decide +kernel) (by decide)) ?_
  refine kk_c (j := 74) rfl (kk_bipush (n := 104) (pc := 122) rfl rfl (by decide +kernel) (by decide)) ?_
  refine kk_c (j := 75) rfl (kk_ist (pc := 124) rfl rfl (by decide +kernel) rfl) ?_
  refine kk_c (j := 76) rfl (kk_dup (pc := 125) rfl rfl (by decide +kernel)) ?_
  refine kk_c (j := 77) rfl (kk_iconst (n := 2) (pc := 126) rfl rfl (by decide +kernel) (by decide)) ?_
  refine kk_c (j := 78) rfl (kk_bipush (n := 111) (pc := 127) rfl rfl (by decide +kernel) (by decide)) ?_
  refine kk_c (j := 79) rfl (kk_ist (pc := 129) rfl rfl (by decide +kernel) rfl) ?_
  refine kk_c (j := 80) rfl (kk_dup (pc := 130) rfl rfl (by decide +kernel)) ?_
  refine kk_c (j := 81) rfl (kk_iconst (n := 3) (pc := 131) rfl rfl (by decide +kernel) (by decide)) ?_
  refine kk_c (j := 82) rfl (kk_bipush (n := 101) (pc := 132) rfl rfl (by decide +kernel) (by decide)) ?_
  refine kk_c (j := 83) rfl (kk_ist (pc := 134) rfl rfl (by decide +kernel) rfl) ?_
  refine kk_c (j := 84) rfl (kk_dup (pc := 135) rfl rfl (by decide +kernel)) ?_
  refine kk_c (j := 85) rfl (kk_iconst (n := 4) (pc := 136) rfl rfl (by decide +kernel) (by decide)) ?_
  refine kk_c (j := 86) rfl (kk_bipush (n := 115) (pc := 137) rfl rfl (by decide +kernel) (by decide)) ?_
  refine kk_c (j := 87) rfl (kk_ist (pc := 139) rfl rfl (by decide +kernel) rfl) ?_
  refine kk_c (j := 88) rfl (kk_aastA (pc := 140) rfl rfl (by decide +kernel) rfl rfl rfl rfl) ?_
  refine kk_c (j := 89) rfl (kk_dup (pc := 141) rfl rfl (by decide +kernel)) ?_
  refine kk_c (j := 90) rfl (kk_iconst (n := 2) (pc := 142) rfl rfl (by decide +kernel) (by decide)) ?_
  refine kk_c (j := 91) rfl (kk_iconst (n := 4) (pc := 143) rfl rfl (by decide +kernel) (by decide)) ?_
  refine kk_c (j := 92) rfl (kk_newa (pc := 144) rfl rfl (by decide +kernel) rfl wd_131) ?_
  refine kk_c (j := 93) rfl (kk_dup (pc := 146) rfl rfl (by decide +kernel)) ?_
  refine kk_c (j := 94) rfl (kk_iconst (n := 0) (pc := 147) rfl rfl (by decide +kernel) (by decide)) ?_
  refine kk_c (j := 95) rfl (kk_bipush (n := 104) (pc := 148) rfl rfl (by decide +kernel) (by decide)) ?_
  refine kk_c (j := 96) rfl (kk_ist (pc := 150) rfl rfl (by decide +kernel) rfl) ?_
  refine kk_c (j := 97) rfl (kk_dup (pc := 151) rfl rfl (by decide +kernel)) ?_
  refine kk_c (j := 98) rfl (kk_iconst (n := 1) (pc := 152) rfl rfl (by decide +kernel) (by decide)) ?_
  refine kk_c (j := 99) rfl (kk_bipush (n := 111) (pc := 153) rfl rfl (by decide +kernel) (by decide)) ?_
  refine kk_c (j := 100) rfl (kk_ist (pc := 155) rfl rfl (by decide +kernel) rfl) ?_
  refine kk_c (j := 101) rfl (kk_dup (pc := 156) rfl rfl (by decide +kernel)) ?_
  refine kk_c (j := 102) rfl (kk_iconst (n := 2) (pc := 157) rfl rfl (by decide +kernel) (by decide)) ?_
  refine kk_c (j := 103) rfl (kk_bipush (n := 117) (pc := 158) rfl rfl (by decide +kernel) (by decide)) ?_
  refine kk_c (j := 104) rfl (kk_ist (pc := 160) rfl rfl (by decide +kernel) rfl) ?_
  refine kk_c (j := 105) rfl (kk_dup (pc := 161) rfl rfl (by decide +kernel)) ?_
  refine kk_c (j := 106) rfl (kk_iconst (n := 3) (pc := 162) rfl rfl (by decide +kernel) (by decide)) ?_
  refine kk_c (j := 107) rfl (kk_bipush (n := 114) (pc := 163) rfl rfl (by decide +kernel) (by decide)) ?_
  refine kk_c (j := 108) rfl (kk_ist (pc := 165) rfl rfl (by decide +kernel) rfl) ?_
  refine kk_c (j := 109) rfl (kk_aastA (pc := 166) rfl rfl (by decide +kernel) rfl rfl rfl rfl) ?_
  refine kk_c (j := 110) rfl (kk_dup (pc := 167) rfl rfl (by decide +kernel)) ?_
  refine kk_c (j := 111) rfl (kk_iconst (n := 3) (pc := 168) rfl rfl (by decide +kernel) (by decide)) ?_
  refine kk_c (j := 112) rfl (kk_iconst (n := 3) (pc := 169) rfl rfl (by decide +kernel) (by decide)) ?_
  refine kk_c (j := 113) rfl (kk_newa (pc := 170) rfl rfl (by decide +kernel) rfl wd_131) ?_
  refine kk_c (j := 114) rfl (kk_dup (pc := 172) rfl rfl (by decide +kernel)) ?_
  refine kk_c (j := 115) rfl (kk_iconst (n := 0) (pc := 173) rfl rfl (by decide +kernel) (by decide)) ?_
  refine kk_c (j := 116) rfl (kk_bipush (n := 98) (pc := 174) rfl rfl (by decide +kernel) (by decide)) ?_
  refine kk_c (j := 117) rfl (kk_ist (pc := 176) rfl rfl (by decide +kernel) rfl) ?_
  refine kk_c (j := 118) rfl (kk_dup (pc := 177) rfl rfl (by decide +kernel)) ?_
  refine kk_c (j := 119) rfl (kk_iconst (n := 1) (pc := 178) rfl rfl (by decide +kernel) (by decide)) ?_
  refine kk_c (j := 120) rfl (kk_bipush (n := 105) (pc := 179) rfl rfl (by decide +kernel) (by decide)) ?_
  refine kk_c (j := 121) rfl (kk_ist (pc := 181) rfl rfl (by decide +kernel) rfl) ?_
  refine kk_c (j := 122) rfl (kk_dup (pc := 182) rfl rfl (by decide +kernel)) ?_
  refine kk_c (j := 123) rfl (kk_iconst (n := 2) (pc := 183) rfl rfl (by decide +kernel) (by decide)) ?_
  refine kk_c (j := 124) rfl (kk_bipush (n := 100) (pc := 184) rfl rfl (by decide +kernel) (by decide)) ?_
  refine kk_c (j := 125) rfl (kk_ist (pc := 186) rfl rfl (by decide +kernel) rfl) ?_
  refine kk_c (j := 126) rfl (kk_aastA (pc := 187) rfl rfl (by decide +kernel) rfl rfl rfl rfl) ?_
  refine kk_c (j := 127) rfl (kk_dup (pc := 188) rfl rfl (by decide +kernel)) ?_
  refine kk_c (j := 128) rfl (kk_iconst (n := 4) (pc := 189) rfl rfl (by decide +kernel) (by decide)) ?_
  refine kk_c (j := 129) rfl (kk_iconst (n := 4) (pc := 190) rfl rfl (by decide +kernel) (by decide)) ?_
  refine kk_c (j := 130) rfl (kk_newa (pc := 191) rfl rfl (by decide +kernel) rfl wd_131) ?_
  refine kk_c (j := 131) rfl (kk_dup (pc := 193) rfl rfl (by decide +kernel)) ?_
  refine kk_c (j := 132) rfl (kk_iconst (n := 0) (pc := 194) rfl rfl (by decide +kernel) (by decide)) ?_
  refine kk_c (j := 133) rfl (kk_bipush (n := 115) (pc := 195) rfl rfl (by decide +kernel) (by decide)) ?_
  refine kk_c (j := 134) rfl (kk_ist (pc := 197) rfl rfl (by decide +kernel) rfl) ?_
  refine kk_c (j := 135) rfl (kk_dup (pc := 198) rfl rfl (by decide +kernel)) ?_
  refine kk_c (j := 136) rfl (kk_iconst (n := 1) (pc := 199) rfl rfl (by decide +kernel) (by decide)) ?_
  refine kk_c (j := 137) rfl (kk_bipush (n := 97) (pc := 200) rfl rfl (by decide +kernel) (by decide)) ?_
  refine kk_c (j := 138) rfl (kk_ist (pc := 202) rfl rfl (by decide +kernel) rfl) ?_
  refine kk_c (j := 139) rfl (kk_dup (pc := 203) rfl rfl (by decide +kernel)) ?_
  refine kk_c (j := 140) rfl (kk_iconst (n := 2) (pc := 204) rfl rfl (by decide +kernel) (by decide)) ?_
  refine kk_c (j := 141) rfl (kk_bipush (n := 105) (pc := 205) rfl rfl (by decide +kernel) (by decide)) ?_
  refine kk_c (j := 142) rfl (kk_ist (pc := 207) rfl rfl (by decide +kernel) rfl) ?_
  refine kk_c (j := 143) rfl (kk_dup (pc := 208) rfl rfl (by decide +kernel)) ?_
  refine kk_c (j := 144) rfl (kk_iconst (n := 3) (pc := 209) rfl rfl (by decide +kernel) (by decide)) ?_
  refine kk_c (j := 145) rfl (kk_bipush (n := 100) (pc := 210) rfl rfl (by decide +kernel) (by decide)) ?_
  refine kk_c (j := 146) rfl (kk_ist (pc := 212) rfl rfl (by decide +kernel) rfl) ?_
  refine kk_c (j := 147) rfl (kk_aastA (pc := 213) rfl rfl (by decide +kernel) rfl rfl rfl rfl) ?_
  refine kk_c (j := 148) rfl (kk_dup (pc := 214) rfl rfl (by decide +kernel)) ?_
  refine kk_c (j := 149) rfl (kk_iconst (n := 5) (pc := 215) rfl rfl (by decide +kernel) (by decide)) ?_
  refine kk_c (j := 150) rfl (kk_iconst (n := 4) (pc := 216) rfl rfl (by decide +kernel) (by decide)) ?_
  refine kk_c (j := 151) rfl (kk_newa (pc := 217) rfl rfl (by decide +kernel) rfl wd_131) ?_
  refine kk_c (j := 152) rfl (kk_dup (pc := 219) rfl rfl (by decide +kernel)) ?_
  refine kk_c (j := 153) rfl (kk_iconst (n := 0) (pc := 220) rfl rfl (by decide +kernel) (by decide)) ?_
  refine kk_c (j := 154) rfl (kk_bipush (n := 99) (pc := 221) rfl rfl (by decide +kernel) (by decide)) ?_
  refine kk_c (j := 155) rfl (kk_ist (pc := 223) rfl rfl (by decide +kernel) rfl) ?_
  refine kk_c (j := 156) rfl (kk_dup (pc := 224) rfl rfl (by decide +kernel)) ?_
  refine kk_c (j := 157) rfl (kk_iconst (n := 1) (pc := 225) rfl rfl (by decide +kernel) (by decide)) ?_
  refine kk_c (j := 158) rfl (kk_bipush (n := 117) (pc := 226) rfl rfl (by decide +kernel) (by decide)) ?_
  refine kk_c (j := 159) rfl (kk_ist (pc := 228) rfl rfl (by decide +kernel) rfl) ?_
  refine kk_c (j := 160) rfl (kk_dup (pc := 229) rfl rfl (by decide +kernel)) ?_
  refine kk_c (j := 161) rfl (kk_iconst (n := 2) (pc := 230) rfl rfl (by decide +kernel) (by decide)) ?_
  refine kk_c (j := 162) rfl (kk_bipush (n := 112) (pc := 231) rfl rfl (by decide +kernel) (by decide)) ?_
  refine kk_c (j := 163) rfl (kk_ist (pc := 233) rfl rfl (by decide +kernel) rfl) ?_
  refine kk_c (j := 164) rfl (kk_dup (pc := 234) rfl rfl (by decide +kernel)) ?_
  refine kk_c (j := 165) rfl (kk_iconst (n := 3) (pc := 235) rfl rfl (by decide +kernel) (by decide)) ?_
  refine kk_c (j := 166) rfl (kk_bipush (n := 115) (pc := 236) rfl rfl (by decide +kernel) (by decide)) ?_
  refine kk_c (j := 167) rfl (kk_ist (pc := 238) rfl rfl (by decide +kernel) rfl) ?_
  refine kk_c (j := 168) rfl (kk_aastA (pc := 239) rfl rfl (by decide +kernel) rfl rfl rfl rfl) ?_
  refine kk_c (j := 169) rfl (kk_dup (pc := 240) rfl rfl (by decide +kernel)) ?_
  refine kk_c (j := 170) rfl (kk_bipush (n := 6) (pc := 241) rfl rfl (by decide +kernel) (by decide)) ?_
  refine kk_c (j := 171) rfl (kk_iconst (n := 5) (pc := 243) rfl rfl (by decide +kernel) (by decide)) ?_
  refine kk_c (j := 172) rfl (kk_newa (pc := 244) rfl rfl (by decide +kernel) rfl wd_131) ?_
  refine kk_c (j := 173) rfl (kk_dup (pc := 246) rfl rfl (by decide +kernel)) ?_
  refine kk_c (j := 174) rfl (kk_iconst (n := 0) (pc := 247) rfl rfl (by decide +kernel) (by decide)) ?_
  refine kk_c (j := 175) rfl (kk_bipush (n := 108) (pc := 248) rfl rfl (by decide +kernel) (by decide)) ?_
  refine kk_c (j := 176) rfl (kk_ist (pc := 250) rfl rfl (by decide +kernel) rfl) ?_
  refine kk_c (j := 177) rfl (kk_dup (pc := 251) rfl rfl (by decide +kernel)) ?_
  refine kk_c (j := 178) rfl (kk_iconst (n := 1) (pc := 252) rfl rfl (by decide +kernel) (by decide)) ?_
  refine kk_c (j := 179) rfl (kk_bipush (n := 101) (pc := 253) rfl rfl (by decide +kernel) (by decide)) ?_
  refine kk_c (j := 180) rfl (kk_ist (pc := 255) rfl rfl (by decide +kernel) rfl) ?_
  refine kk_c (j := 181) rfl (kk_dup (pc := 256) rfl rfl (by decide +kernel)) ?_
  refine kk_c (j := 182) rfl (kk_iconst (n := 2) (pc := 257) rfl rfl (by decide +kernel) (by decide)) ?_
  refine kk_c (j := 183) rfl (kk_bipush (n := 97) (pc := 258) rfl rfl (by decide +kernel) (by decide)) ?_
  refine kk_c (j := 184) rfl (kk_ist (pc := 260) rfl rfl (by decide +kernel) rfl) ?_
  refine kk_c (j := 185) rfl (kk_dup (pc := 261) rfl rfl (by decide +kernel)) ?_
  refine kk_c (j := 186) rfl (kk_iconst (n := 3) (pc := 262) rfl rfl (by decide +kernel) (by decide)) ?_
  refine kk_c (j := 187) rfl (kk_bipush (n := 115) (pc := 263) rfl rfl (by decide +kernel) (by decide)) ?_
  refine kk_c (j := 188) rfl (kk_ist (pc := 265) rfl rfl (by decide +kernel) rfl) ?_
  refine kk_c (j := 189) rfl (kk_dup (pc := 266) rfl rfl (by decide +kernel)) ?_
  refine kk_c (j := 190) rfl (kk_iconst (n := 4) (pc := 267) rfl rfl (by decide +kernel) (by decide)) ?_
  refine kk_c (j := 191) rfl (kk_bipush (n := 116) (pc := 268) rfl rfl (by decide +kernel) (by decide)) ?_
  refine kk_c (j := 192) rfl (kk_ist (pc := 270) rfl rfl (by decide +kernel) rfl) ?_
  refine kk_c (j := 193) rfl (kk_aastA (pc := 271) rfl rfl (by decide +kernel) rfl rfl rfl rfl) ?_
  refine kk_c (j := 194) rfl (kk_dup (pc := 272) rfl rfl (by decide +kernel)) ?_
  refine kk_c (j := 195) rfl (kk_bipush (n := 7) (pc := 273) rfl rfl (by decide +kernel) (by decide)) ?_
  refine kk_c (j := 196) rfl (kk_iconst (n := 5) (pc := 275) rfl rfl (by decide +kernel) (by decide)) ?_
  refine kk_c (j := 197) rfl (kk_newa (pc := 276) rfl rfl (by decide +kernel) rfl wd_131) ?_
  refine kk_c (j := 198) rfl (kk_dup (pc := 278) rfl rfl (by decide +kernel)) ?_
  refine kk_c (j := 199) rfl (kk_iconst (n := 0) (pc := 279) rfl rfl (by decide +kernel) (by decide)) ?_
  refine kk_c (j := 200) rfl (kk_bipush (n := 102) (pc := 280) rfl rfl (by decide +kernel) (by decide)) ?_
  refine kk_c (j := 201) rfl (kk_ist (pc := 282) rfl rfl (by decide +kernel) rfl) ?_
  refine kk_c (j := 202) rfl (kk_dup (pc := 283) rfl rfl (by decide +kernel)) ?_
  refine kk_c (j := 203) rfl (kk_iconst (n := 1) (pc := 284) rfl rfl (by decide +kernel) (by decide)) ?_
  refine kk_c (j := 204) rfl (kk_bipush (n := 105) (pc := 285) rfl rfl (by decide +kernel) (by decide)) ?_
  refine kk_c (j := 205) rfl (kk_ist (pc := 287) rfl rfl (by decide +kernel) rfl) ?_
  refine kk_c (j := 206) rfl (kk_dup (pc := 288) rfl rfl (by decide +kernel)) ?_
  refine kk_c (j := 207) rfl (kk_iconst (n := 2) (pc := 289) rfl rfl (by decide +kernel) (by decide)) ?_
  refine kk_c (j := 208) rfl (kk_bipush (n := 114) (pc := 290) rfl rfl (by decide +kernel) (by decide)) ?_
  refine kk_c (j := 209) rfl (kk_ist (pc := 292) rfl rfl (by decide +kernel) rfl) ?_
  refine kk_c (j := 210) rfl (kk_dup (pc := 293) rfl rfl (by decide +kernel)) ?_
  refine kk_c (j := 211) rfl (kk_iconst (n := 3) (pc := 294) rfl rfl (by decide +kernel) (by decide)) ?_
  refine kk_c (j := 212) rfl (kk_bipush (n := 115) (pc := 295) rfl rfl (by decide +kernel) (by decide)) ?_
  refine kk_c (j := 213) rfl (kk_ist (pc := 297) rfl rfl (by decide +kernel) rfl) ?_
  refine kk_c (j := 214) rfl (kk_dup (pc := 298) rfl rfl (by decide +kernel)) ?_
  refine kk_c (j := 215) rfl (kk_iconst (n := 4) (pc := 299) rfl rfl (by decide +kernel) (by decide)) ?_
  refine kk_c (j := 216) rfl (kk_bipush (n := 116) (pc := 300) rfl rfl (by decide +kernel) (by decide)) ?_
  refine kk_c (j := 217) rfl (kk_ist (pc := 302) rfl rfl (by decide +kernel) rfl) ?_
  refine kk_c (j := 218) rfl (kk_aastA (pc := 303) rfl rfl (by decide +kernel) rfl rfl rfl rfl) ?_
  refine kk_c (j := 219) rfl (kk_dup (pc := 304) rfl rfl (by decide +kernel)) ?_
  refine kk_c (j := 220) rfl (kk_bipush (n := 8) (pc := 305) rfl rfl (by decide +kernel) (by decide)) ?_
  refine kk_c (j := 221) rfl (kk_iconst (n := 4) (pc := 307) rfl rfl (by decide +kernel) (by decide)) ?_
  refine kk_c (j := 222) rfl (kk_newa (pc := 308) rfl rfl (by decide +kernel) rfl wd_131) ?_
  refine kk_c (j := 223) rfl (kk_dup (pc := 310) rfl rfl (by decide +kernel)) ?_
  refine kk_c (j := 224) rfl (kk_iconst (n := 0) (pc := 311) rfl rfl (by decide +kernel) (by decide)) ?_
  refine kk_c (j := 225) rfl (kk_bipush (n := 112) (pc := 312) rfl rfl (by decide +kernel) (by decide)) ?_
  refine kk_c (j := 226) rfl (kk_ist (pc := 314) rfl rfl (by decide +kernel) rfl) ?_
  refine kk_c (j := 227) rfl (kk_dup (pc := 315) rfl rfl (by decide +kernel)) ?_
  refine kk_c (j := 228) rfl (kk_iconst (n := 1) (pc := 316) rfl rfl (by decide +kernel) (by decide)) ?_
  refine kk_c (j := 229) rfl (kk_bipush (n := 117) (pc := 317) rfl rfl (by decide +kernel) (by decide)) ?_
  refine kk_c (j := 230) rfl (kk_ist (pc := 319) rfl rfl (by decide +kernel) rfl) ?_
  refine kk_c (j := 231) rfl (kk_dup (pc := 320) rfl rfl (by decide +kernel)) ?_
  refine kk_c (j := 232) rfl (kk_iconst (n := 2) (pc := 321) rfl rfl (by decide +kernel) (by decide)) ?_
  refine kk_c (j := 233) rfl (kk_bipush (n := 108) (pc := 322) rfl rfl (by decide +kernel) (by decide)) ?_
  refine kk_c (j := 234) rfl (kk_ist (pc := 324) rfl rfl (by decide +kernel) rfl) ?_
  refine kk_c (j := 235) rfl (kk_dup (pc := 325) rfl rfl (by decide +kernel)) ?_
  refine kk_c (j := 236) rfl (kk_iconst (n := 3) (pc := 326) rfl rfl (by decide +kernel) (by decide)) ?_
  refine kk_c (j := 237) rfl (kk_bipush (n := 108) (pc := 327) rfl rfl (by decide +kernel) (by decide)) ?_
  refine kk_c (j := 238) rfl (kk_ist (pc := 329) rfl rfl (by decide +kernel) rfl) ?_
  refine kk_c (j := 239) rfl (kk_aastA (pc := 330) rfl rfl (by decide +kernel) rfl rfl rfl rfl) ?_
  refine kk_c (j := 240) rfl (kk_dup (pc := 331) rfl rfl (by decide +kernel)) ?_
  refine kk_c (j := 241) rfl (kk_bipush (n := 9) (pc := 332) rfl rfl (by decide +kernel) (by decide)) ?_
  refine kk_c (j := 242) rfl (kk_iconst (n := 2) (pc := 334) rfl rfl (by decide +kernel) (by decide)) ?_
  refine kk_c (j := 243) rfl (kk_newa (pc := 335) rfl rfl (by decide +kernel) rfl wd_131) ?_
  refine kk_c (j := 244) rfl (kk_dup (pc := 337) rfl rfl (by decide +kernel)) ?_
  refine kk_c (j := 245) rfl (kk_iconst (n := 0) (pc := 338) rfl rfl (by decide +kernel) (by decide)) ?_
  refine kk_c (j := 246) rfl (kk_bipush (n := 111) (pc := 339) rfl rfl (by decide +kernel) (by decide)) ?_
  refine kk_c (j := 247) rfl (kk_ist (pc := 341) rfl rfl (by decide +kernel) rfl) ?_
  refine kk_c (j := 248) rfl (kk_dup (pc := 342) rfl rfl (by decide +kernel)) ?_
  refine kk_c (j := 249) rfl (kk_iconst (n := 1) (pc := 343) rfl rfl (by decide +kernel) (by decide)) ?_
  refine kk_c (j := 250) rfl (kk_bipush (n := 114) (pc := 344) rfl rfl (by decide +kernel) (by decide)) ?_
  refine kk_c (j := 251) rfl (kk_ist (pc := 346) rfl rfl (by decide +kernel) rfl) ?_
  refine kk_c (j := 252) rfl (kk_aastA (pc := 347) rfl rfl (by decide +kernel) rfl rfl rfl rfl) ?_
  refine kk_c (j := 253) rfl (kk_dup (pc := 348) rfl rfl (by decide +kernel)) ?_
  refine kk_c (j := 254) rfl (kk_bipush (n := 10) (pc := 349) rfl rfl (by decide +kernel) (by decide)) ?_
  refine kk_c (j := 255) rfl (kk_iconst (n := 3) (pc := 351) rfl rfl (by decide +kernel) (by decide)) ?_
  refine kk_c (j := 256) rfl (kk_newa (pc := 352) rfl rfl (by decide +kernel) rfl wd_131) ?_
  refine kk_c (j := 257) rfl (kk_dup (pc := 354) rfl rfl (by decide +kernel)) ?_
  refine kk_c (j := 258) rfl (kk_iconst (n := 0) (pc := 355) rfl rfl (by decide +kernel) (by decide)) ?_
  refine kk_c (j := 259) rfl (kk_bipush (n := 97) (pc := 356) rfl rfl (by decide +kernel) (by decide)) ?_
  refine kk_c (j := 260) rfl (kk_ist (pc := 358) rfl rfl (by decide +kernel) rfl) ?_
  refine kk_c (j := 261) rfl (kk_dup (pc := 359) rfl rfl (by decide +kernel)) ?_
  refine kk_c (j := 262) rfl (kk_iconst (n := 1) (pc := 360) rfl rfl (by decide +kernel) (by decide)) ?_
  refine kk_c (j := 263) rfl (kk_bipush (n := 110) (pc := 361) rfl rfl (by decide +kernel) (by decide)) ?_
  refine kk_c (j := 264) rfl (kk_ist (pc := 363) rfl rfl (by decide +kernel) rfl) ?_
  refine kk_c (j := 265) rfl (kk_dup (pc := 364) rfl rfl (by decide +kernel)) ?_
  refine kk_c (j := 266) rfl (kk_iconst (n := 2) (pc := 365) rfl rfl (by decide +kernel) (by decide)) ?_
  refine kk_c (j := 267) rfl (kk_bipush (n := 100) (pc := 366) rfl rfl (by decide +kernel) (by decide)) ?_
  refine kk_c (j := 268) rfl (kk_ist (pc := 368) rfl rfl (by decide +kernel) rfl) ?_
  refine kk_c (j := 269) rfl (kk_aastA (pc := 369) rfl rfl (by decide +kernel) rfl rfl rfl rfl) ?_
  refine kk_c (j := 270) rfl (kk_dup (pc := 370) rfl rfl (by decide +kernel)) ?_
  refine kk_c (j := 271) rfl (kk_bipush (n := 11) (pc := 371) rfl rfl (by decide +kernel) (by decide)) ?_
  refine kk_c (j := 272) rfl (kk_iconst (n := 3) (pc := 373) rfl rfl (by decide +kernel) (by decide)) ?_
  refine kk_c (j := 273) rfl (kk_newa (pc := 374) rfl rfl (by decide +kernel) rfl wd_131) ?_
  refine kk_c (j := 274) rfl (kk_dup (pc := 376) rfl rfl (by decide +kernel)) ?_
  refine kk_c (j := 275) rfl (kk_iconst (n := 0) (pc := 377) rfl rfl (by decide +kernel) (by decide)) ?_
  refine kk_c (j := 276) rfl (kk_bipush (n := 110) (pc := 378) rfl rfl (by decide +kernel) (by decide)) ?_
  refine kk_c (j := 277) rfl (kk_ist (pc := 380) rfl rfl (by decide +kernel) rfl) ?_
  refine kk_c (j := 278) rfl (kk_dup (pc := 381) rfl rfl (by decide +kernel)) ?_
  refine kk_c (j := 279) rfl (kk_iconst (n := 1) (pc := 382) rfl rfl (by decide +kernel) (by decide)) ?_
  refine kk_c (j := 280) rfl (kk_bipush (n := 111) (pc := 383) rfl rfl (by decide +kernel) (by decide)) ?_
  refine kk_c (j := 281) rfl (kk_ist (pc := 385) rfl rfl (by decide +kernel) rfl) ?_
  refine kk_c (j := 282) rfl (kk_dup (pc := 386) rfl rfl (by decide +kernel)) ?_
  refine kk_c (j := 283) rfl (kk_iconst (n := 2) (pc := 387) rfl rfl (by decide +kernel) (by decide)) ?_
  refine kk_c (j := 284) rfl (kk_bipush (n := 116) (pc := 388) rfl rfl (by decide +kernel) (by decide)) ?_
  refine kk_c (j := 285) rfl (kk_ist (pc := 390) rfl rfl (by decide +kernel) rfl) ?_
  refine kk_c (j := 286) rfl (kk_aastA (pc := 391) rfl rfl (by decide +kernel) rfl rfl rfl rfl) ?_
  refine kk_c (j := 287) rfl (kk_putSF (zz := 0) (f := 12) (ci := 12) (C := RX12) (T := TX12) (N := 45) (ty := tyX12) (ix := 42) (pc := 392) rfl rfl (by decide +kernel) rfl (fun _ => rfl) rfl cw_X12 tyX12_ok nmX12 (by decide) rfl rfl rfl rfl (fun _ => ⟨rfl, rfl⟩) wd_836) ?_
  refine kk_c (j := 288) rfl (kk_aload_n (j := ⟨0, by decide⟩) (pc := 395) rfl rfl (by decide +kernel)) ?_
  refine kk_c (j := 289) rfl (kk_sipush (n := 160) (pc := 396) rfl rfl (by decide +kernel) (by decide)) ?_
  refine kk_c (j := 290) rfl (kk_newa (pc := 399) rfl rfl (by decide +kernel) rfl wd_131) ?_
  refine kk_c (j := 291) rfl (kk_putSF (zz := 0) (f := 13) (ci := 12) (C := RX12) (T := TX12) (N := 45) (ty := tyX12) (ix := 46) (pc := 401) rfl rfl (by decide +kernel) rfl (fun _ => rfl) rfl cw_X12 tyX12_ok nmX12 (by decide) rfl rfl rfl rfl (fun _ => ⟨rfl, rfl⟩) wd_837) ?_
  refine kk_c (j := 292) rfl (kk_aload_n (j := ⟨0, by decide⟩) (pc := 404) rfl rfl (by decide +kernel)) ?_
  refine kk_c (j := 293) rfl (kk_sipush (n := 3060) (pc := 405) rfl rfl (by decide +kernel) (by decide)) ?_
  refine kk_c (j := 294) rfl (kk_newa (pc := 408) rfl rfl (by decide +kernel) rfl wd_131) ?_
  refine kk_c (j := 295) rfl (kk_putSF (zz := 0) (f := 14) (ci := 12) (C := RX12) (T := TX12) (N := 45) (ty := tyX12) (ix := 49) (pc := 410) rfl rfl (by decide +kernel) rfl (fun _ => rfl) rfl cw_X12 tyX12_ok nmX12 (by decide) rfl rfl rfl rfl (fun _ => ⟨rfl, rfl⟩) wd_838) ?_
  refine kk_c (j := 296) rfl (kk_aload_n (j := ⟨0, by decide⟩) (pc := 413) rfl rfl (by decide +kernel)) ?_
  refine kk_c (j := 297) rfl (kk_bipush (n := 18) (pc := 414) rfl rfl (by decide +kernel) (by decide)) ?_
  refine kk_c (j := 298) rfl (kk_newa (pc := 416) rfl rfl (by decide +kernel) rfl wd_131) ?_
  refine kk_c (j := 299) rfl (kk_putSF (zz := 0) (f := 15) (ci := 12) (C := RX12) (T := TX12) (N := 45) (ty := tyX12) (ix := 52) (pc := 418) rfl rfl (by decide +kernel) rfl (fun _ => rfl) rfl cw_X12 tyX12_ok nmX12 (by decide) rfl rfl rfl rfl (fun _ => ⟨rfl, rfl⟩) wd_839) ?_
  refine kk_c (j := 300) rfl (kk_aload_n (j := ⟨0, by decide⟩) (pc := 421) rfl rfl (by decide +kernel)) ?_
  refine kk_c (j := 301) rfl (kk_sipush (n := 200) (pc := 422) rfl rfl (by decide +kernel) (by decide)) ?_
  refine kk_c (j := 302) rfl (kk_newa (pc := 425) rfl rfl (by decide +kernel) rfl wd_131) ?_
  refine kk_c (j := 303) rfl (kk_putSF (zz := 0) (f := 16) (ci := 12) (C := RX12) (T := TX12) (N := 45) (ty := tyX12) (ix := 55) (pc := 427) rfl rfl (by decide +kernel) rfl (fun _ => rfl) rfl cw_X12 tyX12_ok nmX12 (by decide) rfl rfl rfl rfl (fun _ => ⟨rfl, rfl⟩) wd_840) ?_
  refine kk_c (j := 304) rfl (kk_aload_n (j := ⟨0, by decide⟩) (pc := 430) rfl rfl (by decide +kernel)) ?_
  refine kk_c (j := 305) rfl (kk_sipush (n := 200) (pc := 431) rfl rfl (by decide +kernel) (by decide)) ?_
  refine kk_c (j := 306) rfl (kk_newa (pc := 434) rfl rfl (by decide +kernel) rfl wd_131) ?_
  refine kk_c (j := 307) rfl (kk_putSF (zz := 0) (f := 17) (ci := 12) (C := RX12) (T := TX12) (N := 45) (ty := tyX12) (ix := 58) (pc := 436) rfl rfl (by decide +kernel) rfl (fun _ => rfl) rfl cw_X12 tyX12_ok nmX12 (by decide) rfl rfl rfl rfl (fun _ => ⟨rfl, rfl⟩) wd_841) ?_
  refine kk_c (j := 308) rfl (kk_aload_n (j := ⟨0, by decide⟩) (pc := 439) rfl rfl (by decide +kernel)) ?_
  refine kk_c (j := 309) rfl (kk_iconst (n := 1) (pc := 440) rfl rfl (by decide +kernel) (by decide)) ?_
  refine kk_c (j := 310) rfl (kk_putI (f := 19) (ci := 12) (C := RX12) (T := TX12) (N := 45) (ty := tyX12) (ix := 61) (pc := 441) rfl rfl (by decide +kernel) rfl (fun _ => rfl) rfl cw_X12 tyX12_ok nmX12 (by decide) rfl rfl rfl wd_843) ?_
  refine kk_c (j := 311) rfl (kk_aload_n (j := ⟨0, by decide⟩) (pc := 444) rfl rfl (by decide +kernel)) ?_
  refine kk_c (j := 312) rfl (kk_sipush (n := 180) (pc := 445) rfl rfl (by decide +kernel) (by decide)) ?_
  refine kk_c (j := 313) rfl (kk_newa (pc := 448) rfl rfl (by decide +kernel) rfl wd_131) ?_
  refine kk_c (j := 314) rfl (kk_putSF (zz := 0) (f := 27) (ci := 12) (C := RX12) (T := TX12) (N := 45) (ty := tyX12) (ix := 64) (pc := 450) rfl rfl (by decide +kernel) rfl (fun _ => rfl) rfl cw_X12 tyX12_ok nmX12 (by decide) rfl rfl rfl rfl (fun _ => ⟨rfl, rfl⟩) wd_851) ?_
  refine kk_c (j := 315) rfl (kk_aload_n (j := ⟨0, by decide⟩) (pc := 453) rfl rfl (by decide +kernel)) ?_
  refine kk_c (j := 316) rfl (kk_iconst (n := 4) (pc := 454) rfl rfl (by decide +kernel) (by decide)) ?_
  refine kk_c (j := 317) rfl (kk_newa (pc := 455) rfl rfl (by decide +kernel) rfl wd_131) ?_
  refine kk_c (j := 318) rfl (kk_putSF (zz := 0) (f := 41) (ci := 12) (C := RX12) (T := TX12) (N := 45) (ty := tyX12) (ix := 67) (pc := 457) rfl rfl (by decide +kernel) rfl (fun _ => rfl) rfl cw_X12 tyX12_ok nmX12 (by decide) rfl rfl rfl rfl (fun _ => ⟨rfl, rfl⟩) wd_865) ?_
  refine kk_c (j := 319) rfl (kk_aload_n (j := ⟨0, by decide⟩) (pc := 460) rfl rfl (by decide +kernel)) ?_
  refine kk_c (j := 320) rfl (kk_iconst (n := 4) (pc := 461) rfl rfl (by decide +kernel) (by decide)) ?_
  refine kk_c (j := 321) rfl (kk_newa (pc := 462) rfl rfl (by decide +kernel) rfl wd_131) ?_
  refine kk_c (j := 322) rfl (kk_putSF (zz := 0) (f := 42) (ci := 12) (C := RX12) (T := TX12) (N := 45) (ty := tyX12) (ix := 70) (pc := 464) rfl rfl (by decide +kernel) rfl (fun _ => rfl) rfl cw_X12 tyX12_ok nmX12 (by decide) rfl rfl rfl rfl (fun _ => ⟨rfl, rfl⟩) wd_866) ?_
  refine kk_c (j := 323) rfl (kk_aload_n (j := ⟨0, by decide⟩) (pc := 467) rfl rfl (by decide +kernel)) ?_
  refine kk_c (j := 324) rfl (kk_sipush (n := 160) (pc := 468) rfl rfl (by decide +kernel) (by decide)) ?_
  refine kk_c (j := 325) rfl (kk_newa (pc := 471) rfl rfl (by decide +kernel) rfl wd_131) ?_
  refine kk_c (j := 326) rfl (kk_putSF (zz := 0) (f := 43) (ci := 12) (C := RX12) (T := TX12) (N := 45) (ty := tyX12) (ix := 73) (pc := 473) rfl rfl (by decide +kernel) rfl (fun _ => rfl) rfl cw_X12 tyX12_ok nmX12 (by decide) rfl rfl rfl rfl (fun _ => ⟨rfl, rfl⟩) wd_867) ?_
  refine kk_c (j := 327) rfl (kk_aload_n (j := ⟨0, by decide⟩) (pc := 476) rfl rfl (by decide +kernel)) ?_
  refine kk_c (j := 328) rfl (kk_bipush (n := 40) (pc := 477) rfl rfl (by decide +kernel) (by decide)) ?_
  refine kk_c (j := 329) rfl (kk_newa (pc := 479) rfl rfl (by decide +kernel) rfl wd_131) ?_
  refine kk_c (j := 330) rfl (kk_putSF (zz := 0) (f := 44) (ci := 12) (C := RX12) (T := TX12) (N := 45) (ty := tyX12) (ix := 76) (pc := 481) rfl rfl (by decide +kernel) rfl (fun _ => rfl) rfl cw_X12 tyX12_ok nmX12 (by decide) rfl rfl rfl rfl (fun _ => ⟨rfl, rfl⟩) wd_868) ?_
  refine kk_c (j := 331) rfl (kk_iconst (n := 0) (pc := 484) rfl rfl (by decide +kernel) (by decide)) ?_
  refine kk_c (j := 332) rfl (kk_istore_n (j := ⟨1, by decide⟩) (pc := 485) rfl rfl (by decide +kernel) (by decide)) ?_
  refine kk_c (j := 333) rfl (kk_iload_n (j := ⟨1, by decide⟩) (pc := 486) rfl rfl (by decide +kernel)) ?_
  refine kk_c (j := 334) rfl (kk_iconst (n := 4) (pc := 487) rfl rfl (by decide +kernel) (by decide)) ?_
  refine kk_c (j := 335) rfl (kk_cmpge (off := 16) (tg := 504) (pc := 488) rfl rfl (by decide +kernel) rfl (by decide)) ?_
  refine kk_c (j := 336) rfl (kk_aload_n (j := ⟨0, by decide⟩) (pc := 491) rfl rfl (by decide +kernel)) ?_
  refine kk_c (j := 337) rfl (kk_getS (f := 41) (ci := 12) (C := RX12) (T := TX12) (N := 45) (ix := 67) (pc := 492) rfl rfl (by decide +kernel) rfl (fun _ => rfl) rfl cw_X12 (by decide) rfl wd_865) ?_
  refine kk_c (j := 338) rfl (kk_iload_n (j := ⟨1, by decide⟩) (pc := 495) rfl rfl (by decide +kernel)) ?_
  refine kk_c (j := 339) rfl (kk_iconst (n := (-1)) (pc := 496) rfl rfl (by decide +kernel) (by decide)) ?_
  refine kk_c (j := 340) rfl (kk_ist (pc := 497) rfl rfl (by decide +kernel) rfl) ?_
  refine kk_c (j := 341) rfl (kk_iinc (n := 1) (pc := 498) rfl rfl (by decide +kernel) (by decide) (by decide)) ?_
  refine kk_c (j := 342) rfl (kk_goto (off := (-15)) (tg := 486) (pc := 501) rfl (by decide +kernel) rfl (by decide)) ?_
  refine kk_c (j := 343) rfl (kk_aload_n (j := ⟨0, by decide⟩) (pc := 504) rfl rfl (by decide +kernel)) ?_
  refine kk_c (j := 344) rfl (kk_pvirtual (y := yX12_firstRule) (n := 0) (d' := 2) (t := 20) (T := TX12) (N := 45) (ix := 79) (pc := 505) rfl rfl (by decide +kernel) (by decide) (ct_X12_firstRule l) rfl (fun _ => rfl) ce_fV_rec wd_816 wd_818 wd_23 wd_75) ?_
  refine kk_c (j := 345) rfl (kk_vret (pc := 508) rfl (by decide +kernel) rfl) ?_
  exact trivial
noncomputable def F_X12_init := ce_fV tb_X12_init 2 (some 20)
theorem ct_X12_init (l : Launch) : ce_ini l yX12_init 0 10 30 4126 (ce_wV F_X12_init) := ⟨_, _, ce_ctr_ofK (pcs := pc_X12_init) (by decide +kernel) (fun _ => rfl) rfl (ok_X12_init l) ce_fV_run, ce_tw_at wd_812 rfl, by decide, by decide +kernel, by decide +kernel, by decide +kernel⟩
