/-! the component's constructor: scenes -/
set_option maxRecDepth 20000 in
theorem x11_I0 {S : ce_S} {Q : Option ce_V → ce_S → Prop} (hQ : ce_Q S 0 = some 0) (hK : KN (lgd [1, 1, 1, 1, 1, 1, 1, 1, 1, 1, 6, 19, 0, 1, 1, 4, 4, 1, 0, 0, 0, 0, 0, 0, 0, 0, 0, 0, 0, 0, 0, 0, 0, 0, 0, 0, 0, 0, 0, 0, 0, 0]) [(0, 2, 0), (0, 10, 0), (0, 12, 0)] S)
    (g : ∀ S1, KW (fun t i => t = 12 ∧ i = 0) S (lgd [1, 1, 1, 1, 1, 1, 1, 1, 1, 1, 6, 19, 1, 1, 1, 4, 4, 1, 0, 0, 0, 0, 0, 0, 0, 0, 0, 0, 0, 0, 0, 0, 0, 0, 0, 0, 0, 0, 0, 0, 0, 0]) [(0, 10, 0), (0, 12, 0)] S1 → ce_I S1 12 0 0 = 4 → ce_I S1 12 1 0 = 12 → ce_I S1 12 2 0 = 250 → ce_I S1 12 3 0 = 0 → ce_R S1 12 4 0 = 0 → Jg tb_X11_init 182 (46, 1018) [some (.inr (.inl (0, 0))), some (.inl 83)] [] S1 Q) : Jg tb_X11_init 173 (45, 1013) [some (.inr (.inl (0, 0))), some (.inl 83)] [] S Q := by
  have hK : KW (fun t i => t = 12 ∧ i = 0) S (lgd [1, 1, 1, 1, 1, 1, 1, 1, 1, 1, 6, 19, 0, 1, 1, 4, 4, 1, 0, 0, 0, 0, 0, 0, 0, 0, 0, 0, 0, 0, 0, 0, 0, 0, 0, 0, 0, 0, 0, 0, 0, 0]) [(0, 2, 0), (0, 10, 0), (0, 12, 0)] S := KW.rf hK
  refine jg_sg tl_X11_init 2 (i' := 174) (fun kk => rfl) ?_
  refine jg_new (i' := 175) (t := 12) (ci := 4) (N := 5) (MC := 48) (MS := 1028) (j := 0) (nn' := (46, 1018)) (ks := [4]) (c' := lgd [1, 1, 1, 1, 1, 1, 1, 1, 1, 1, 6, 19, 1, 1, 1, 4, 4, 1, 0, 0, 0, 0, 0, 0, 0, 0, 0, 0, 0, 0, 0, 0, 0, 0, 0, 0, 0, 0, 0, 0, 0, 0]) (l' := [(12, 4, 0), (0, 2, 0), (0, 10, 0), (0, 12, 0)]) hK rfl rfl rfl rfl rfl kref_12 ⟨Nat.le_of_ble_eq_true rfl, Nat.le_of_ble_eq_true rfl⟩ (by decide) (lgd_set (by decide) (by decide) rfl) (fun _ q => q) (fun hK => ?_)
  refine jg_sg tl_X11_init 3 (i' := 177) (fun kk => rfl) ?_
  refine jg_getS (i' := 178) (t := 0) (f := 3) (t' := 5) (g0 := fun _ => 0) (j := 0) (r := 0) hK rfl rfl (by decide) (Nat.le_of_ble_eq_true rfl) rfl ?_
  refine jg_sg tl_X11_init 2 (i' := 179) (fun kk => rfl) ?_
  refine jg_aldQ (i' := 180) (e := 0) (v := 0) (x := 0) hK rfl rfl (by decide) (by decide) rfl (by decide) (by decide) hQ ?_
  obtain ⟨T1, h1, hK, h1a, h1b, h1c, h1d, h1e⟩ := x4_init (j := 0) (m := 0) (l' := [(0, 2, 0), (0, 10, 0), (0, 12, 0)]) hK (by decide : (fun t i => t = 12 ∧ i = 0) 12 0) (by decide +kernel)
  refine jg_cv (i' := 181) (n := 2) (mc := 0) (ms := 0) (MC := 48) (MS := 1028) (nn' := (46, 1018)) (F := F_X4_init) (a := [.inr (.inl (12, 0)), .inr (.inl (13, 0))]) (rest := [.inr (.inl (12, 0)), .inr (.inl (0, 0))]) rfl rfl rfl rfl rfl h1 ⟨Nat.le_of_ble_eq_true rfl, Nat.le_of_ble_eq_true rfl, Nat.le_of_ble_eq_true rfl, Nat.le_of_ble_eq_true rfl⟩ ?_
  refine jg_putS (i' := 182) (t := 0) (f := 2) (t' := 12) (g0 := fun _ => 0) (j := 0) (r := 0) (l' := [(0, 10, 0), (0, 12, 0)]) hK rfl rfl rfl (by decide +kernel) (fun hK => ?_)
  exact g _ hK h1a h1b h1c h1d h1e
set_option maxRecDepth 20000 in
theorem x11_I1 {S : ce_S} {Q : Option ce_V → ce_S → Prop} (hQ : ce_Q S 0 = some 0) (hK : KN (lgd [1, 1, 1, 1, 1, 1, 1, 1, 1, 1, 6, 19, 1, 1, 1, 4, 4, 1, 0, 0, 0, 0, 0, 0, 0, 0, 0, 0, 0, 0, 0, 0, 0, 0, 0, 0, 0, 0, 0, 0, 0, 0]) [(0, 10, 0), (0, 12, 0)] S)
    (g : ∀ S1, KW (fun t i => t = 12 ∧ i = 1) S (lgd [1, 1, 1, 1, 1, 1, 1, 1, 1, 1, 6, 19, 2, 1, 1, 4, 4, 1, 0, 0, 0, 0, 0, 0, 0, 0, 0, 0, 0, 0, 0, 0, 0, 0, 0, 0, 0, 0, 0, 0, 0, 0]) [(0, 12, 0)] S1 → ce_I S1 12 0 1 = 4 → ce_I S1 12 1 1 = 12 → ce_I S1 12 2 1 = 250 → ce_I S1 12 3 1 = 0 → ce_R S1 12 4 1 = 0 → Jg tb_X11_init 191 (47, 1023) [some (.inr (.inl (0, 0))), some (.inl 83)] [] S1 Q) : Jg tb_X11_init 182 (46, 1018) [some (.inr (.inl (0, 0))), some (.inl 83)] [] S Q := by
  have hK : KW (fun t i => t = 12 ∧ i = 1) S (lgd [1, 1, 1, 1, 1, 1, 1, 1, 1, 1, 6, 19, 1, 1, 1, 4, 4, 1, 0, 0, 0, 0, 0, 0, 0, 0, 0, 0, 0, 0, 0, 0, 0, 0, 0, 0, 0, 0, 0, 0, 0, 0]) [(0, 10, 0), (0, 12, 0)] S := KW.rf hK
  refine jg_sg tl_X11_init 2 (i' := 183) (fun kk => rfl) ?_
  refine jg_new (i' := 184) (t := 12) (ci := 4) (N := 5) (MC := 48) (MS := 1028) (j := 1) (nn' := (47, 1023)) (ks := [4]) (c' := lgd [1, 1, 1, 1, 1, 1, 1, 1, 1, 1, 6, 19, 2, 1, 1, 4, 4, 1, 0, 0, 0, 0, 0, 0, 0, 0, 0, 0, 0, 0, 0, 0, 0, 0, 0, 0, 0, 0, 0, 0, 0, 0]) (l' := [(12, 4, 1), (0, 10, 0), (0, 12, 0)]) hK rfl rfl rfl rfl rfl kref_12 ⟨Nat.le_of_ble_eq_true rfl, Nat.le_of_ble_eq_true rfl⟩ (by decide) (lgd_set (by decide) (by decide) rfl) (fun _ q => q) (fun hK => ?_)
  refine jg_sg tl_X11_init 3 (i' := 186) (fun kk => rfl) ?_
  refine jg_getS (i' := 187) (t := 0) (f := 3) (t' := 5) (g0 := fun _ => 0) (j := 0) (r := 0) hK rfl rfl (by decide) (Nat.le_of_ble_eq_true rfl) rfl ?_
  refine jg_sg tl_X11_init 2 (i' := 188) (fun kk => rfl) ?_
  refine jg_aldQ (i' := 189) (e := 0) (v := 0) (x := 0) hK rfl rfl (by decide) (by decide) rfl (by decide) (by decide) hQ ?_
  obtain ⟨T1, h1, hK, h1a, h1b, h1c, h1d, h1e⟩ := x4_init (j := 1) (m := 0) (l' := [(0, 10, 0), (0, 12, 0)]) hK (by decide : (fun t i => t = 12 ∧ i = 1) 12 1) (by decide +kernel)
  refine jg_cv (i' := 190) (n := 2) (mc := 0) (ms := 0) (MC := 48) (MS := 1028) (nn' := (47, 1023)) (F := F_X4_init) (a := [.inr (.inl (12, 1)), .inr (.inl (13, 0))]) (rest := [.inr (.inl (12, 1)), .inr (.inl (0, 0))]) rfl rfl rfl rfl rfl h1 ⟨Nat.le_of_ble_eq_true rfl, Nat.le_of_ble_eq_true rfl, Nat.le_of_ble_eq_true rfl, Nat.le_of_ble_eq_true rfl⟩ ?_
  refine jg_putS (i' := 191) (t := 0) (f := 10) (t' := 12) (g0 := fun _ => 1) (j := 0) (r := 1) (l' := [(0, 12, 0)]) hK rfl rfl rfl (by decide +kernel) (fun hK => ?_)
  exact g _ hK h1a h1b h1c h1d h1e
set_option maxRecDepth 20000 in
theorem x11_I2 {S : ce_S} {Q : Option ce_V → ce_S → Prop} (hQ : ce_Q S 0 = some 0) (hK : KN (lgd [1, 1, 1, 1, 1, 1, 1, 1, 1, 1, 6, 19, 2, 1, 1, 4, 4, 1, 0, 0, 0, 0, 0, 0, 0, 0, 0, 0, 0, 0, 0, 0, 0, 0, 0, 0, 0, 0, 0, 0, 0, 0]) [(0, 12, 0)] S)
    (g : ∀ S1, KW (fun t i => t = 12 ∧ i = 2) S (lgd [1, 1, 1, 1, 1, 1, 1, 1, 1, 1, 6, 19, 3, 1, 1, 4, 4, 1, 0, 0, 0, 0, 0, 0, 0, 0, 0, 0, 0, 0, 0, 0, 0, 0, 0, 0, 0, 0, 0, 0, 0, 0]) [] S1 → ce_I S1 12 0 2 = 4 → ce_I S1 12 1 2 = 12 → ce_I S1 12 2 2 = 250 → ce_I S1 12 3 2 = 0 → ce_R S1 12 4 2 = 0 → Jg tb_X11_init 200 (48, 1028) [some (.inr (.inl (0, 0))), some (.inl 83)] [] S1 Q) : Jg tb_X11_init 191 (47, 1023) [some (.inr (.inl (0, 0))), some (.inl 83)] [] S Q := by
  have hK : KW (fun t i => t = 12 ∧ i = 2) S (lgd [1, 1, 1, 1, 1, 1, 1, 1, 1, 1, 6, 19, 2, 1, 1, 4, 4, 1, 0, 0, 0, 0, 0, 0, 0, 0, 0, 0, 0, 0, 0, 0, 0, 0, 0, 0, 0, 0, 0, 0, 0, 0]) [(0, 12, 0)] S := KW.rf hK
  refine jg_sg tl_X11_init 2 (i' := 192) (fun kk => rfl) ?_
  refine jg_new (i' := 193) (t := 12) (ci := 4) (N := 5) (MC := 48) (MS := 1028) (j := 2) (nn' := (48, 1028)) (ks := [4]) (c' := lgd [1, 1, 1, 1, 1, 1, 1, 1, 1, 1, 6, 19, 3, 1, 1, 4, 4, 1, 0, 0, 0, 0, 0, 0, 0, 0, 0, 0, 0, 0, 0, 0, 0, 0, 0, 0, 0, 0, 0, 0, 0, 0]) (l' := [(12, 4, 2), (0, 12, 0)]) hK rfl rfl rfl rfl rfl kref_12 ⟨Nat.le_of_ble_eq_true rfl, Nat.le_of_ble_eq_true rfl⟩ (by decide) (lgd_set (by decide) (by decide) rfl) (fun _ q => q) (fun hK => ?_)
  refine jg_sg tl_X11_init 3 (i' := 195) (fun kk => rfl) ?_
  refine jg_getS (i' := 196) (t := 0) (f := 3) (t' := 5) (g0 := fun _ => 0) (j := 0) (r := 0) hK rfl rfl (by decide) (Nat.le_of_ble_eq_true rfl) rfl ?_
  refine jg_sg tl_X11_init 2 (i' := 197) (fun kk => rfl) ?_
  refine jg_aldQ (i' := 198) (e := 0) (v := 0) (x := 0) hK rfl rfl (by decide) (by decide) rfl (by decide) (by decide) hQ ?_
  obtain ⟨T1, h1, hK, h1a, h1b, h1c, h1d, h1e⟩ := x4_init (j := 2) (m := 0) (l' := [(0, 12, 0)]) hK (by decide : (fun t i => t = 12 ∧ i = 2) 12 2) (by decide +kernel)
  refine jg_cv (i' := 199) (n := 2) (mc := 0) (ms := 0) (MC := 48) (MS := 1028) (nn' := (48, 1028)) (F := F_X4_init) (a := [.inr (.inl (12, 2)), .inr (.inl (13, 0))]) (rest := [.inr (.inl (12, 2)), .inr (.inl (0, 0))]) rfl rfl rfl rfl rfl h1 ⟨Nat.le_of_ble_eq_true rfl, Nat.le_of_ble_eq_true rfl, Nat.le_of_ble_eq_true rfl, Nat.le_of_ble_eq_true rfl⟩ ?_
  refine jg_putS (i' := 200) (t := 0) (f := 12) (t' := 12) (g0 := fun _ => 2) (j := 0) (r := 2) (l' := []) hK rfl rfl rfl (by decide +kernel) (fun hK => ?_)
  exact g _ hK h1a h1b h1c h1d h1e
