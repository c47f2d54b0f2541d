theorem ok_bad {l : Launch} {cc : ByteArray} {own : String} {nL : Nat} {rt : Option FieldType} {d MC MS : Nat} {pcs : List Nat} {i : Nat} : ce_Ok l cc own nL rt d MC MS pcs i ce_bad := fun _ _ _ _ _ _ h => by cases h
theorem ta_bad : ce_Tail ce_bad := fun _ _ _ _ _ _ _ h => by cases h
/-- a member of a text constant, of those that there are -/
def ce_str (F : List ce_V → ce_S → Option (Int32 × ce_S)) : List ce_V → ce_S → Option (Int32 × ce_S) := fun a S => match a with
  | .inr (.inl q) :: _ => if q.1 = 61 ∧ q.2 < 13 then F a S else none
  | _ => none
theorem ce_str_of {F : List ce_V → ce_S → Option (Int32 × ce_S)} {a : List ce_V} {S : ce_S} {res : Option ce_V × ce_S} (h : ce_wI (ce_str F) a S = some res) : ce_wI F a S = some res ∧ ∃ j as, j < 13 ∧ a = .inr (.inl (61, j)) :: as := by
  unfold ce_wI ce_str at h
  split at h
  · rename_i q r
    by_cases hq : q.1 = 61 ∧ q.2 < 13
    · rw [if_pos hq] at h
      exact ⟨h, q.2, r, hq.2, by rw [← hq.1]⟩
    · rw [if_neg hq] at h; cases h
  · cases h
theorem ce_str_rec {F : List ce_V → ce_S → Option (Int32 × ce_S)} (a : List ce_V) (S : ce_S) (res : Option ce_V × ce_S) (h : ce_wI (ce_str F) a S = some res) : ∃ j as, j < 13 ∧ a = .inr (.inl (61, j)) :: as := (ce_str_of h).2
theorem ce_strC {l : Launch} {y : MethodName} {n d mc ms : Nat} {F : List ce_V → ce_S → Option (Int32 × ce_S)} (h : ce_callee l y n d mc ms (ce_wI F)) : ce_callee l y n d mc ms (ce_wI (ce_str F)) := by
  obtain ⟨cc, nL, rt, h1, h2⟩ := h
  exact ⟨cc, nL, rt, fun D ca b0 ad S a res hf => h1 D ca b0 ad S a res (ce_str_of hf).1, h2⟩
theorem ok_c {l : Launch} {cc : ByteArray} {own : String} {nL : Nat} {rt : Option FieldType} {d MC MS : Nat} {pcs : List Nat} {i j : Nat} {o : ce_Op} {r : List ce_Op} (hj : i + 1 = j) (h : ce_Ok l cc own nL rt d MC MS pcs i o) (hr : ce_OkL l cc own nL rt d MC MS pcs j r) : ce_OkL l cc own nL rt d MC MS pcs i (o :: r) := ⟨h, hj ▸ hr⟩
theorem tl_c {o : ce_Op} {r : List ce_Op} (h : ce_Tail o) (hr : ce_TL r) : ce_TL (o :: r) := ⟨h, hr⟩
def pc_J0_coder_7d493 : List Nat := [0, 3, 6, 7, 10, 13, 14]
noncomputable def tb_J0_coder_7d493 : List ce_Op := [o_int 1, o_ifeq 5, o_aload 0, o_scod, o_goto 6, o_int 1, o_bret]
theorem tl_J0_coder_7d493 : ce_TL tb_J0_coder_7d493 := by
  unfold tb_J0_coder_7d493
  refine tl_c ta_int ?_
  refine tl_c ta_ifeq ?_
  refine tl_c ta_aload ?_
  refine tl_c ta_scod ?_
  refine tl_c ta_goto ?_
  refine tl_c ta_int ?_
  refine tl_c ta_bret ?_
  exact trivial
set_option maxRecDepth 20000 in
theorem ok_J0_coder_7d493 (l : Launch) : ce_OkL l cJ0_coder_7d493 RJ0 1 (some .byte) 1 0 0 pc_J0_coder_7d493 0 tb_J0_coder_7d493 := by
  unfold tb_J0_coder_7d493
  refine ok_c (j := 1) rfl (ok_gst (ix := 38) (pc := 0) rfl rfl (by decide +kernel) wd_243) ?_
  refine ok_c (j := 2) rfl (ok_ifeq (off := 10) (tg := 13) (pc := 3) rfl rfl (by decide +kernel) rfl (by decide)) ?_
  refine ok_c (j := 3) rfl (ok_aload_n (j := ⟨0, by decide⟩) (pc := 6) rfl rfl (by decide +kernel)) ?_
  refine ok_c (j := 4) rfl (ok_scod (ix := 15) (pc := 7) rfl rfl (by decide +kernel) wd_1243) ?_
  refine ok_c (j := 5) rfl (ok_goto (off := 4) (tg := 14) (pc := 10) rfl (by decide +kernel) rfl (by decide)) ?_
  refine ok_c (j := 6) rfl (ok_iconst (n := 1) (pc := 13) rfl rfl (by decide +kernel) (by decide)) ?_
  refine ok_c (j := 7) rfl (ok_bret (pc := 14) rfl (by decide +kernel) rfl) ?_
  exact trivial
noncomputable def F_J0_coder_7d493 := ce_fI tb_J0_coder_7d493 1 (some 61)
theorem ct_J0_coder_7d493 (l : Launch) : ce_callee l yJ0_coder_7d493 0 1 0 0 (ce_wI F_J0_coder_7d493) := ⟨_, _, _, ce_ctr_of (pcs := pc_J0_coder_7d493) (by decide +kernel) rfl (ok_J0_coder_7d493 l ) ce_fI_run, ce_tw_at wd_242 rfl, by decide, by decide +kernel, by decide +kernel, by decide +kernel⟩
def pc_J0_length_8abf5 : List Nat := [0, 1, 4, 5, 6, 9, 10]
noncomputable def tb_J0_length_8abf5 : List ce_Op := [o_aload 0, o_sval, o_blen, o_aload 0, o_ci 1 (ce_str F_J0_coder_7d493) 0 0 0 0, o_bin (fun x y => x >>> (y &&& 31)), o_iret]
theorem tl_J0_length_8abf5 : ce_TL tb_J0_length_8abf5 := by
  unfold tb_J0_length_8abf5
  refine tl_c ta_aload ?_
  refine tl_c ta_sval ?_
  refine tl_c ta_blen ?_
  refine tl_c ta_aload ?_
  refine tl_c ta_ci ?_
  refine tl_c ta_bin ?_
  refine tl_c ta_iret ?_
  exact trivial
set_option maxRecDepth 20000 in
theorem ok_J0_length_8abf5 (l : Launch) : ce_OkL l cJ0_length_8abf5 RJ0 1 (some .int) 2 0 0 pc_J0_length_8abf5 0 tb_J0_length_8abf5 := by
  unfold tb_J0_length_8abf5
  refine ok_c (j := 1) rfl (ok_aload_n (j := ⟨0, by decide⟩) (pc := 0) rfl rfl (by decide +kernel)) ?_
  refine ok_c (j := 2) rfl (ok_sval (ix := 9) (pc := 1) rfl rfl (by decide +kernel) wd_1242) ?_
  refine ok_c (j := 3) rfl (ok_blen (pc := 4) rfl rfl (by decide +kernel)) ?_
  refine ok_c (j := 4) rfl (ok_aload_n (j := ⟨0, by decide⟩) (pc := 5) rfl rfl (by decide +kernel)) ?_
  refine ok_c (j := 5) rfl (ok_strV (y := yJ0_coder_7d493) (n := 0) (d' := 1) (ix := 335) is_ci (pc := 6) rfl rfl (by decide +kernel) (by decide) (ce_strC (ct_J0_coder_7d493 l)) rfl ce_str_rec wd_239 wd_240 wd_241 wd_67) ?_
  refine ok_c (j := 6) rfl (ok_ishr (pc := 9) rfl rfl (by decide +kernel)) ?_
  refine ok_c (j := 7) rfl (ok_iret (pc := 10) rfl (by decide +kernel) rfl) ?_
  exact trivial
noncomputable def F_J0_length_8abf5 := ce_fI tb_J0_length_8abf5 1 (some 61)
theorem ct_J0_length_8abf5 (l : Launch) : ce_callee l yJ0_length_8abf5 0 2 0 0 (ce_wI F_J0_length_8abf5) := ⟨_, _, _, ce_ctr_of (pcs := pc_J0_length_8abf5) (by decide +kernel) rfl (ok_J0_length_8abf5 l ) ce_fI_run, ce_tw_at wd_238 rfl, by decide, by decide +kernel, by decide +kernel, by decide +kernel⟩
def pc_J0_isLatin1_aae02 : List Nat := [0, 3, 6, 7, 10, 13, 14, 17, 18]
noncomputable def tb_J0_isLatin1_aae02 : List ce_Op := [o_int 1, o_ifeq 7, o_aload 0, o_scod, o_ifne 7, o_int 1, o_goto 8, o_int 0, o_zret]
theorem tl_J0_isLatin1_aae02 : ce_TL tb_J0_isLatin1_aae02 := by
  unfold tb_J0_isLatin1_aae02
  refine tl_c ta_int ?_
  refine tl_c ta_ifeq ?_
  refine tl_c ta_aload ?_
  refine tl_c ta_scod ?_
  refine tl_c ta_ifne ?_
  refine tl_c ta_int ?_
  refine tl_c ta_goto ?_
  refine tl_c ta_int ?_
  refine tl_c ta_zret ?_
  exact trivial
set_option maxRecDepth 20000 in
theorem ok_J0_isLatin1_aae02 (l : Launch) : ce_OkL l cJ0_isLatin1_aae02 RJ0 1 (some .boolean) 1 0 0 pc_J0_isLatin1_aae02 0 tb_J0_isLatin1_aae02 := by
  unfold tb_J0_isLatin1_aae02
  refine ok_c (j := 1) rfl (ok_gst (ix := 38) (pc := 0) rfl rfl (by decide +kernel) wd_243) ?_
  refine ok_c (j := 2) rfl (ok_ifeq (off := 14) (tg := 17) (pc := 3) rfl rfl (by decide +kernel) rfl (by decide)) ?_
  refine ok_c (j := 3) rfl (ok_aload_n (j := ⟨0, by decide⟩) (pc := 6) rfl rfl (by decide +kernel)) ?_
  refine ok_c (j := 4) rfl (ok_scod (ix := 15) (pc := 7) rfl rfl (by decide +kernel) wd_1243) ?_
  refine ok_c (j := 5) rfl (ok_ifne (off := 7) (tg := 17) (pc := 10) rfl rfl (by decide +kernel) rfl (by decide)) ?_
  refine ok_c (j := 6) rfl (ok_iconst (n := 1) (pc := 13) rfl rfl (by decide +kernel) (by decide)) ?_
  refine ok_c (j := 7) rfl (ok_goto (off := 4) (tg := 18) (pc := 14) rfl (by decide +kernel) rfl (by decide)) ?_
  refine ok_c (j := 8) rfl (ok_iconst (n := 0) (pc := 17) rfl rfl (by decide +kernel) (by decide)) ?_
  refine ok_c (j := 9) rfl (ok_zret (pc := 18) rfl (by decide +kernel) rfl) ?_
  exact trivial
noncomputable def F_J0_isLatin1_aae02 := ce_fI tb_J0_isLatin1_aae02 1 (some 61)
theorem ct_J0_isLatin1_aae02 (l : Launch) : ce_callee l yJ0_isLatin1_aae02 0 1 0 0 (ce_wI F_J0_isLatin1_aae02) := ⟨_, _, _, ce_ctr_of (pcs := pc_J0_isLatin1_aae02) (by decide +kernel) rfl (ok_J0_isLatin1_aae02 l ) ce_fI_run, ce_tw_at wd_252 rfl, by decide, by decide +kernel, by decide +kernel, by decide +kernel⟩
def pc_J1_charAt_3b067 : List Nat := [0, 1, 2, 3, 6, 7, 8, 9, 12, 13, 14]
noncomputable def tb_J1_charAt_3b067 : List ce_Op := [o_iload 1, o_aload 0, o_blen, o_cv 2 F_J0_check 0 0 0 0, o_aload 0, o_iload 1, o_bld, o_int 255, o_bin q_and, o_un (fun x => (x.toUInt32 % 65536).toInt32), o_cret]
theorem tl_J1_charAt_3b067 : ce_TL tb_J1_charAt_3b067 := by
  unfold tb_J1_charAt_3b067
  refine tl_c ta_iload ?_
  refine tl_c ta_aload ?_
  refine tl_c ta_blen ?_
  refine tl_c ta_cv ?_
  refine tl_c ta_aload ?_
  refine tl_c ta_iload ?_
  refine tl_c ta_bld ?_
  refine tl_c ta_int ?_
  refine tl_c ta_bin ?_
  refine tl_c ta_un ?_
  refine tl_c ta_cret ?_
  exact trivial
set_option maxRecDepth 20000 in
theorem ok_J1_charAt_3b067 (l : Launch) : ce_OkL l cJ1_charAt_3b067 RJ1 2 (some .char) 3 0 0 pc_J1_charAt_3b067 0 tb_J1_charAt_3b067 := by
  unfold tb_J1_charAt_3b067
  refine ok_c (j := 1) rfl (ok_iload_n (j := ⟨1, by decide⟩) (pc := 0) rfl rfl (by decide +kernel)) ?_
  refine ok_c (j := 2) rfl (ok_aload_n (j := ⟨0, by decide⟩) (pc := 1) rfl rfl (by decide +kernel)) ?_
  refine ok_c (j := 3) rfl (ok_blen (pc := 2) rfl rfl (by decide +kernel)) ?_
  refine ok_c (j := 4) rfl (ok_statJ (y := yJ0_checkIndex_df160) (n := 2) (d' := 2) (ix := 9) is_cv (pc := 3) rfl rfl (by decide +kernel) (by decide) (ct_J0_check l) wd_256 wd_257 wd_67) ?_
  refine ok_c (j := 5) rfl (ok_aload_n (j := ⟨0, by decide⟩) (pc := 6) rfl rfl (by decide +kernel)) ?_
  refine ok_c (j := 6) rfl (ok_iload_n (j := ⟨1, by decide⟩) (pc := 7) rfl rfl (by decide +kernel)) ?_
  refine ok_c (j := 7) rfl (ok_bld (pc := 8) rfl rfl (by decide +kernel)) ?_
  refine ok_c (j := 8) rfl (ok_sipush (n := 255) (pc := 9) rfl rfl (by decide +kernel) (by decide)) ?_
  refine ok_c (j := 9) rfl (ok_iand (pc := 12) rfl rfl (by decide +kernel)) ?_
  refine ok_c (j := 10) rfl (ok_i2c (pc := 13) rfl rfl (by decide +kernel)) ?_
  refine ok_c (j := 11) rfl (ok_cret (pc := 14) rfl (by decide +kernel) rfl) ?_
  exact trivial
noncomputable def F_J1_charAt_3b067 := ce_fI tb_J1_charAt_3b067 2 none
theorem ct_J1_charAt_3b067 (l : Launch) : ce_callee l yJ1_charAt_3b067 2 3 0 0 (ce_wI F_J1_charAt_3b067) := ⟨_, _, _, ce_ctr_of (pcs := pc_J1_charAt_3b067) (by decide +kernel) rfl (ok_J1_charAt_3b067 l ) ce_fI_run, ce_tw_at wd_255 rfl, by decide, by decide +kernel, by decide +kernel, by decide +kernel⟩
def pc_J0_charAt_5068e : List Nat := [0, 1, 4, 7, 8, 11, 12, 15, 16, 17, 20, 21, 24]
noncomputable def tb_J0_charAt_5068e : List ce_Op := [o_aload 0, o_ci 1 (ce_str F_J0_isLatin1_aae02) 0 0 0 0, o_ifeq 8, o_aload 0, o_sval, o_iload 1, o_ci 2 F_J1_charAt_3b067 0 0 0 0, o_cret, ce_bad, ce_bad, ce_bad, ce_bad, o_cret]
theorem tl_J0_charAt_5068e : ce_TL tb_J0_charAt_5068e := by
  unfold tb_J0_charAt_5068e
  refine tl_c ta_aload ?_
  refine tl_c ta_ci ?_
  refine tl_c ta_ifeq ?_
  refine tl_c ta_aload ?_
  refine tl_c ta_sval ?_
  refine tl_c ta_iload ?_
  refine tl_c ta_ci ?_
  refine tl_c ta_cret ?_
  refine tl_c ta_bad ?_
  refine tl_c ta_bad ?_
  refine tl_c ta_bad ?_
  refine tl_c ta_bad ?_
  refine tl_c ta_cret ?_
  exact trivial
set_option maxRecDepth 20000 in
theorem ok_J0_charAt_5068e (l : Launch) : ce_OkL l cJ0_charAt_5068e RJ0 2 (some .char) 4 0 0 pc_J0_charAt_5068e 0 tb_J0_charAt_5068e := by
  unfold tb_J0_charAt_5068e
  refine ok_c (j := 1) rfl (ok_aload_n (j := ⟨0, by decide⟩) (pc := 0) rfl rfl (by decide +kernel)) ?_
  refine ok_c (j := 2) rfl (ok_strV (y := yJ0_isLatin1_aae02) (n := 0) (d' := 1) (ix := 492) is_ci (pc := 1) rfl rfl (by decide +kernel) (by decide) (ce_strC (ct_J0_isLatin1_aae02 l)) rfl ce_str_rec wd_249 wd_250 wd_251 wd_67) ?_
  refine ok_c (j := 3) rfl (ok_ifeq (off := 12) (tg := 16) (pc := 4) rfl rfl (by decide +kernel) rfl (by decide)) ?_
  refine ok_c (j := 4) rfl (ok_aload_n (j := ⟨0, by decide⟩) (pc := 7) rfl rfl (by decide +kernel)) ?_
  refine ok_c (j := 5) rfl (ok_sval (ix := 9) (pc := 8) rfl rfl (by decide +kernel) wd_1242) ?_
  refine ok_c (j := 6) rfl (ok_iload_n (j := ⟨1, by decide⟩) (pc := 11) rfl rfl (by decide +kernel)) ?_
  refine ok_c (j := 7) rfl (ok_statJ (y := yJ1_charAt_3b067) (n := 2) (d' := 3) (ix := 495) is_ci (pc := 12) rfl rfl (by decide +kernel) (by decide) (ct_J1_charAt_3b067 l) wd_253 wd_254 wd_68) ?_
  refine ok_c (j := 8) rfl (ok_cret (pc := 15) rfl (by decide +kernel) rfl) ?_
  refine ok_c (j := 9) rfl (ok_bad) ?_
  refine ok_c (j := 10) rfl (ok_bad) ?_
  refine ok_c (j := 11) rfl (ok_bad) ?_
  refine ok_c (j := 12) rfl (ok_bad) ?_
  refine ok_c (j := 13) rfl (ok_cret (pc := 24) rfl (by decide +kernel) rfl) ?_
  exact trivial
noncomputable def F_J0_charAt_5068e := ce_fI tb_J0_charAt_5068e 2 (some 61)
theorem ct_J0_charAt_5068e (l : Launch) : ce_callee l yJ0_charAt_5068e 1 4 0 0 (ce_wI F_J0_charAt_5068e) := ⟨_, _, _, ce_ctr_of (pcs := pc_J0_charAt_5068e) (by decide +kernel) rfl (ok_J0_charAt_5068e l ) ce_fI_run, ce_tw_at wd_248 rfl, by decide, by decide +kernel, by decide +kernel, by decide +kernel⟩
