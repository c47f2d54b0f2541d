/-! the component's constructor: sheets -/
set_option maxRecDepth 20000 in
theorem x11_E0 {S : ce_S} {Q : Option ce_V → ce_S → Prop} (hK : KN (lgd [1, 1, 1, 1, 1, 1, 1, 1, 1, 1, 6, 19, 0, 0, 0, 0, 0, 0, 0, 0, 0, 0, 0, 0, 0, 0, 0, 0, 0, 0, 0, 0, 0, 0, 0, 0, 0, 0, 0, 0, 0, 0]) [(6, 0, 0), (6, 1, 0), (6, 2, 0), (6, 3, 0), (0, 2, 0), (0, 10, 0), (0, 12, 0)] S)
    (g : ∀ S1, KW (fun t i => (t = 15 ∨ t = 16) ∧ i = 0) S (lgd [1, 1, 1, 1, 1, 1, 1, 1, 1, 1, 6, 19, 0, 0, 0, 1, 1, 0, 0, 0, 0, 0, 0, 0, 0, 0, 0, 0, 0, 0, 0, 0, 0, 0, 0, 0, 0, 0, 0, 0, 0, 0]) [(6, 1, 0), (6, 2, 0), (6, 3, 0), (0, 2, 0), (0, 10, 0), (0, 12, 0)] S1 → ce_I S1 15 1 0 = -1 → ce_I S1 15 2 0 = 0 → Jg tb_X11_init 133 (36, 560) [some (.inr (.inl (0, 0))), some (.inl 1)] [] S1 Q) : Jg tb_X11_init 133 (34, 517) [some (.inr (.inl (0, 0))), some (.inl 0)] [] S Q := by
  have hK : KW (fun t i => (t = 15 ∨ t = 16) ∧ i = 0) S (lgd [1, 1, 1, 1, 1, 1, 1, 1, 1, 1, 6, 19, 0, 0, 0, 0, 0, 0, 0, 0, 0, 0, 0, 0, 0, 0, 0, 0, 0, 0, 0, 0, 0, 0, 0, 0, 0, 0, 0, 0, 0, 0]) [(6, 0, 0), (6, 1, 0), (6, 2, 0), (6, 3, 0), (0, 2, 0), (0, 10, 0), (0, 12, 0)] S := KW.rf hK
  refine jg_sg tl_X11_init 3 (i' := 135) (fun kk => rfl) ?_
  refine jg_cmpge_f (i' := 136) rfl rfl (by decide) ?_
  refine jg_sg tl_X11_init 2 (i' := 137) (fun kk => rfl) ?_
  refine jg_getS (i' := 138) (t := 0) (f := 5) (t' := 6) (g0 := fun _ => 0) (j := 0) (r := 0) hK rfl rfl (by decide) (Nat.le_of_ble_eq_true rfl) rfl ?_
  refine jg_sg tl_X11_init 2 (i' := 139) (fun kk => rfl) ?_
  refine jg_new (i' := 140) (t := 15) (ci := 6) (N := 3) (MC := 48) (MS := 1028) (j := 0) (nn' := (35, 520)) (ks := [0]) (c' := lgd [1, 1, 1, 1, 1, 1, 1, 1, 1, 1, 6, 19, 0, 0, 0, 1, 0, 0, 0, 0, 0, 0, 0, 0, 0, 0, 0, 0, 0, 0, 0, 0, 0, 0, 0, 0, 0, 0, 0, 0, 0, 0]) (l' := [(15, 0, 0), (6, 0, 0), (6, 1, 0), (6, 2, 0), (6, 3, 0), (0, 2, 0), (0, 10, 0), (0, 12, 0)]) hK rfl rfl rfl rfl rfl kref_15 ⟨Nat.le_of_ble_eq_true rfl, Nat.le_of_ble_eq_true rfl⟩ (by decide) (lgd_set (by decide) (by decide) rfl) (fun _ q => q) (fun hK => ?_)
  refine jg_sg tl_X11_init 2 (i' := 141) (fun kk => rfl) ?_
  obtain ⟨T1, h1, hK, h1a, h1b⟩ := x6_init (j := 0) (c' := lgd [1, 1, 1, 1, 1, 1, 1, 1, 1, 1, 6, 19, 0, 0, 0, 1, 1, 0, 0, 0, 0, 0, 0, 0, 0, 0, 0, 0, 0, 0, 0, 0, 0, 0, 0, 0, 0, 0, 0, 0, 0, 0]) (l' := [(6, 0, 0), (6, 1, 0), (6, 2, 0), (6, 3, 0), (0, 2, 0), (0, 10, 0), (0, 12, 0)]) hK (by decide : (fun t i => (t = 15 ∨ t = 16) ∧ i = 0) 15 0) (by decide : (fun t i => (t = 15 ∨ t = 16) ∧ i = 0) 16 0) rfl (lgd_set (by decide) (by decide) rfl) (by decide +kernel)
  refine jg_cv (i' := 142) (n := 1) (mc := 1) (ms := 40) (MC := 48) (MS := 1028) (nn' := (36, 560)) (F := F_X6_init) (a := [.inr (.inl (15, 0))]) (rest := [.inr (.inl (15, 0)), .inl 0, .inr (.inl (6, 0))]) rfl rfl rfl rfl rfl h1 ⟨Nat.le_of_ble_eq_true rfl, Nat.le_of_ble_eq_true rfl, Nat.le_of_ble_eq_true rfl, Nat.le_of_ble_eq_true rfl⟩ ?_
  refine jg_aast (i' := 143) (t := 6) (e := 0) (j := 0) (v := 0) (n := 4) (t' := 15) (x := 0) (g0 := ce_k0) (l' := [(6, 1, 0), (6, 2, 0), (6, 3, 0), (0, 2, 0), (0, 10, 0), (0, 12, 0)]) hK rfl rfl (by decide) (by decide) rfl rfl rfl (by decide) (by decide +kernel) (fun hK => ?_)
  refine jg_iinc (i' := 144) (jj := 1) (x := 0) (d := 1) (x' := 1) (ls' := [some (.inr (.inl (0, 0))), some (.inl 1)]) rfl rfl rfl (by decide) rfl ?_
  refine jg_sg tl_X11_init 2 (i' := 133) (fun kk => rfl) ?_
  exact g _ hK h1a h1b
set_option maxRecDepth 20000 in
theorem x11_E1 {S : ce_S} {Q : Option ce_V → ce_S → Prop} (hK : KN (lgd [1, 1, 1, 1, 1, 1, 1, 1, 1, 1, 6, 19, 0, 0, 0, 1, 1, 0, 0, 0, 0, 0, 0, 0, 0, 0, 0, 0, 0, 0, 0, 0, 0, 0, 0, 0, 0, 0, 0, 0, 0, 0]) [(6, 1, 0), (6, 2, 0), (6, 3, 0), (0, 2, 0), (0, 10, 0), (0, 12, 0)] S)
    (g : ∀ S1, KW (fun t i => (t = 15 ∨ t = 16) ∧ i = 1) S (lgd [1, 1, 1, 1, 1, 1, 1, 1, 1, 1, 6, 19, 0, 0, 0, 2, 2, 0, 0, 0, 0, 0, 0, 0, 0, 0, 0, 0, 0, 0, 0, 0, 0, 0, 0, 0, 0, 0, 0, 0, 0, 0]) [(6, 2, 0), (6, 3, 0), (0, 2, 0), (0, 10, 0), (0, 12, 0)] S1 → ce_I S1 15 1 1 = -1 → ce_I S1 15 2 1 = 0 → Jg tb_X11_init 133 (38, 603) [some (.inr (.inl (0, 0))), some (.inl 2)] [] S1 Q) : Jg tb_X11_init 133 (36, 560) [some (.inr (.inl (0, 0))), some (.inl 1)] [] S Q := by
  have hK : KW (fun t i => (t = 15 ∨ t = 16) ∧ i = 1) S (lgd [1, 1, 1, 1, 1, 1, 1, 1, 1, 1, 6, 19, 0, 0, 0, 1, 1, 0, 0, 0, 0, 0, 0, 0, 0, 0, 0, 0, 0, 0, 0, 0, 0, 0, 0, 0, 0, 0, 0, 0, 0, 0]) [(6, 1, 0), (6, 2, 0), (6, 3, 0), (0, 2, 0), (0, 10, 0), (0, 12, 0)] S := KW.rf hK
  refine jg_sg tl_X11_init 3 (i' := 135) (fun kk => rfl) ?_
  refine jg_cmpge_f (i' := 136) rfl rfl (by decide) ?_
  refine jg_sg tl_X11_init 2 (i' := 137) (fun kk => rfl) ?_
  refine jg_getS (i' := 138) (t := 0) (f := 5) (t' := 6) (g0 := fun _ => 0) (j := 0) (r := 0) hK rfl rfl (by decide) (Nat.le_of_ble_eq_true rfl) rfl ?_
  refine jg_sg tl_X11_init 2 (i' := 139) (fun kk => rfl) ?_
  refine jg_new (i' := 140) (t := 15) (ci := 6) (N := 3) (MC := 48) (MS := 1028) (j := 1) (nn' := (37, 563)) (ks := [0]) (c' := lgd [1, 1, 1, 1, 1, 1, 1, 1, 1, 1, 6, 19, 0, 0, 0, 2, 1, 0, 0, 0, 0, 0, 0, 0, 0, 0, 0, 0, 0, 0, 0, 0, 0, 0, 0, 0, 0, 0, 0, 0, 0, 0]) (l' := [(15, 0, 1), (6, 1, 0), (6, 2, 0), (6, 3, 0), (0, 2, 0), (0, 10, 0), (0, 12, 0)]) hK rfl rfl rfl rfl rfl kref_15 ⟨Nat.le_of_ble_eq_true rfl, Nat.le_of_ble_eq_true rfl⟩ (by decide) (lgd_set (by decide) (by decide) rfl) (fun _ q => q) (fun hK => ?_)
  refine jg_sg tl_X11_init 2 (i' := 141) (fun kk => rfl) ?_
  obtain ⟨T1, h1, hK, h1a, h1b⟩ := x6_init (j := 1) (c' := lgd [1, 1, 1, 1, 1, 1, 1, 1, 1, 1, 6, 19, 0, 0, 0, 2, 2, 0, 0, 0, 0, 0, 0, 0, 0, 0, 0, 0, 0, 0, 0, 0, 0, 0, 0, 0, 0, 0, 0, 0, 0, 0]) (l' := [(6, 1, 0), (6, 2, 0), (6, 3, 0), (0, 2, 0), (0, 10, 0), (0, 12, 0)]) hK (by decide : (fun t i => (t = 15 ∨ t = 16) ∧ i = 1) 15 1) (by decide : (fun t i => (t = 15 ∨ t = 16) ∧ i = 1) 16 1) rfl (lgd_set (by decide) (by decide) rfl) (by decide +kernel)
  refine jg_cv (i' := 142) (n := 1) (mc := 1) (ms := 40) (MC := 48) (MS := 1028) (nn' := (38, 603)) (F := F_X6_init) (a := [.inr (.inl (15, 1))]) (rest := [.inr (.inl (15, 1)), .inl 1, .inr (.inl (6, 0))]) rfl rfl rfl rfl rfl h1 ⟨Nat.le_of_ble_eq_true rfl, Nat.le_of_ble_eq_true rfl, Nat.le_of_ble_eq_true rfl, Nat.le_of_ble_eq_true rfl⟩ ?_
  refine jg_aast (i' := 143) (t := 6) (e := 1) (j := 0) (v := 1) (n := 4) (t' := 15) (x := 1) (g0 := ce_k0) (l' := [(6, 2, 0), (6, 3, 0), (0, 2, 0), (0, 10, 0), (0, 12, 0)]) hK rfl rfl (by decide) (by decide) rfl rfl rfl (by decide) (by decide +kernel) (fun hK => ?_)
  refine jg_iinc (i' := 144) (jj := 1) (x := 1) (d := 1) (x' := 2) (ls' := [some (.inr (.inl (0, 0))), some (.inl 2)]) rfl rfl rfl (by decide) rfl ?_
  refine jg_sg tl_X11_init 2 (i' := 133) (fun kk => rfl) ?_
  exact g _ hK h1a h1b
set_option maxRecDepth 20000 in
theorem x11_E2 {S : ce_S} {Q : Option ce_V → ce_S → Prop} (hK : KN (lgd [1, 1, 1, 1, 1, 1, 1, 1, 1, 1, 6, 19, 0, 0, 0, 2, 2, 0, 0, 0, 0, 0, 0, 0, 0, 0, 0, 0, 0, 0, 0, 0, 0, 0, 0, 0, 0, 0, 0, 0, 0, 0]) [(6, 2, 0), (6, 3, 0), (0, 2, 0), (0, 10, 0), (0, 12, 0)] S)
    (g : ∀ S1, KW (fun t i => (t = 15 ∨ t = 16) ∧ i = 2) S (lgd [1, 1, 1, 1, 1, 1, 1, 1, 1, 1, 6, 19, 0, 0, 0, 3, 3, 0, 0, 0, 0, 0, 0, 0, 0, 0, 0, 0, 0, 0, 0, 0, 0, 0, 0, 0, 0, 0, 0, 0, 0, 0]) [(6, 3, 0), (0, 2, 0), (0, 10, 0), (0, 12, 0)] S1 → ce_I S1 15 1 2 = -1 → ce_I S1 15 2 2 = 0 → Jg tb_X11_init 133 (40, 646) [some (.inr (.inl (0, 0))), some (.inl 3)] [] S1 Q) : Jg tb_X11_init 133 (38, 603) [some (.inr (.inl (0, 0))), some (.inl 2)] [] S Q := by
  have hK : KW (fun t i => (t = 15 ∨ t = 16) ∧ i = 2) S (lgd [1, 1, 1, 1, 1, 1, 1, 1, 1, 1, 6, 19, 0, 0, 0, 2, 2, 0, 0, 0, 0, 0, 0, 0, 0, 0, 0, 0, 0, 0, 0, 0, 0, 0, 0, 0, 0, 0, 0, 0, 0, 0]) [(6, 2, 0), (6, 3, 0), (0, 2, 0), (0, 10, 0), (0, 12, 0)] S := KW.rf hK
  refine jg_sg tl_X11_init 3 (i' := 135) (fun kk => rfl) ?_
  refine jg_cmpge_f (i' := 136) rfl rfl (by decide) ?_
  refine jg_sg tl_X11_init 2 (i' := 137) (fun kk => rfl) ?_
  refine jg_getS (i' := 138) (t := 0) (f := 5) (t' := 6) (g0 := fun _ => 0) (j := 0) (r := 0) hK rfl rfl (by decide) (Nat.le_of_ble_eq_true rfl) rfl ?_
  refine jg_sg tl_X11_init 2 (i' := 139) (fun kk => rfl) ?_
  refine jg_new (i' := 140) (t := 15) (ci := 6) (N := 3) (MC := 48) (MS := 1028) (j := 2) (nn' := (39, 606)) (ks := [0]) (c' := lgd [1, 1, 1, 1, 1, 1, 1, 1, 1, 1, 6, 19, 0, 0, 0, 3, 2, 0, 0, 0, 0, 0, 0, 0, 0, 0, 0, 0, 0, 0, 0, 0, 0, 0, 0, 0, 0, 0, 0, 0, 0, 0]) (l' := [(15, 0, 2), (6, 2, 0), (6, 3, 0), (0, 2, 0), (0, 10, 0), (0, 12, 0)]) hK rfl rfl rfl rfl rfl kref_15 ⟨Nat.le_of_ble_eq_true rfl, Nat.le_of_ble_eq_true rfl⟩ (by decide) (lgd_set (by decide) (by decide) rfl) (fun _ q => q) (fun hK => ?_)
  refine jg_sg tl_X11_init 2 (i' := 141) (fun kk => rfl) ?_
  obtain ⟨T1, h1, hK, h1a, h1b⟩ := x6_init (j := 2) (c' := lgd [1, 1, 1, 1, 1, 1, 1, 1, 1, 1, 6, 19, 0, 0, 0, 3, 3, 0, 0, 0, 0, 0, 0, 0, 0, 0, 0, 0, 0, 0, 0, 0, 0, 0, 0, 0, 0, 0, 0, 0, 0, 0]) (l' := [(6, 2, 0), (6, 3, 0), (0, 2, 0), (0, 10, 0), (0, 12, 0)]) hK (by decide : (fun t i => (t = 15 ∨ t = 16) ∧ i = 2) 15 2) (by decide : (fun t i => (t = 15 ∨ t = 16) ∧ i = 2) 16 2) rfl (lgd_set (by decide) (by decide) rfl) (by decide +kernel)
  refine jg_cv (i' := 142) (n := 1) (mc := 1) (ms := 40) (MC := 48) (MS := 1028) (nn' := (40, 646)) (F := F_X6_init) (a := [.inr (.inl (15, 2))]) (rest := [.inr (.inl (15, 2)), .inl 2, .inr (.inl (6, 0))]) rfl rfl rfl rfl rfl h1 ⟨Nat.le_of_ble_eq_true rfl, Nat.le_of_ble_eq_true rfl, Nat.le_of_ble_eq_true rfl, Nat.le_of_ble_eq_true rfl⟩ ?_
  refine jg_aast (i' := 143) (t := 6) (e := 2) (j := 0) (v := 2) (n := 4) (t' := 15) (x := 2) (g0 := ce_k0) (l' := [(6, 3, 0), (0, 2, 0), (0, 10, 0), (0, 12, 0)]) hK rfl rfl (by decide) (by decide) rfl rfl rfl (by decide) (by decide +kernel) (fun hK => ?_)
  refine jg_iinc (i' := 144) (jj := 1) (x := 2) (d := 1) (x' := 3) (ls' := [some (.inr (.inl (0, 0))), some (.inl 3)]) rfl rfl rfl (by decide) rfl ?_
  refine jg_sg tl_X11_init 2 (i' := 133) (fun kk => rfl) ?_
  exact g _ hK h1a h1b
set_option maxRecDepth 20000 in
theorem x11_E3 {S : ce_S} {Q : Option ce_V → ce_S → Prop} (hK : KN (lgd [1, 1, 1, 1, 1, 1, 1, 1, 1, 1, 6, 19, 0, 0, 0, 3, 3, 0, 0, 0, 0, 0, 0, 0, 0, 0, 0, 0, 0, 0, 0, 0, 0, 0, 0, 0, 0, 0, 0, 0, 0, 0]) [(6, 3, 0), (0, 2, 0), (0, 10, 0), (0, 12, 0)] S)
    (g : ∀ S1, KW (fun t i => (t = 15 ∨ t = 16) ∧ i = 3) S (lgd [1, 1, 1, 1, 1, 1, 1, 1, 1, 1, 6, 19, 0, 0, 0, 4, 4, 0, 0, 0, 0, 0, 0, 0, 0, 0, 0, 0, 0, 0, 0, 0, 0, 0, 0, 0, 0, 0, 0, 0, 0, 0]) [(0, 2, 0), (0, 10, 0), (0, 12, 0)] S1 → ce_I S1 15 1 3 = -1 → ce_I S1 15 2 3 = 0 → Jg tb_X11_init 133 (42, 689) [some (.inr (.inl (0, 0))), some (.inl 4)] [] S1 Q) : Jg tb_X11_init 133 (40, 646) [some (.inr (.inl (0, 0))), some (.inl 3)] [] S Q := by
  have hK : KW (fun t i => (t = 15 ∨ t = 16) ∧ i = 3) S (lgd [1, 1, 1, 1, 1, 1, 1, 1, 1, 1, 6, 19, 0, 0, 0, 3, 3, 0, 0, 0, 0, 0, 0, 0, 0, 0, 0, 0, 0, 0, 0, 0, 0, 0, 0, 0, 0, 0, 0, 0, 0, 0]) [(6, 3, 0), (0, 2, 0), (0, 10, 0), (0, 12, 0)] S := KW.rf hK
  refine jg_sg tl_X11_init 3 (i' := 135) (fun kk => rfl) ?_
  refine jg_cmpge_f (i' := 136) rfl rfl (by decide) ?_
  refine jg_sg tl_X11_init 2 (i' := 137) (fun kk => rfl) ?_
  refine jg_getS (i' := 138) (t := 0) (f := 5) (t' := 6) (g0 := fun _ => 0) (j := 0) (r := 0) hK rfl rfl (by decide) (Nat.le_of_ble_eq_true rfl) rfl ?_
  refine jg_sg tl_X11_init 2 (i' := 139) (fun kk => rfl) ?_
  refine jg_new (i' := 140) (t := 15) (ci := 6) (N := 3) (MC := 48) (MS := 1028) (j := 3) (nn' := (41, 649)) (ks := [0]) (c' := lgd [1, 1, 1, 1, 1, 1, 1, 1, 1, 1, 6, 19, 0, 0, 0, 4, 3, 0, 0, 0, 0, 0, 0, 0, 0, 0, 0, 0, 0, 0, 0, 0, 0, 0, 0, 0, 0, 0, 0, 0, 0, 0]) (l' := [(15, 0, 3), (6, 3, 0), (0, 2, 0), (0, 10, 0), (0, 12, 0)]) hK rfl rfl rfl rfl rfl kref_15 ⟨Nat.le_of_ble_eq_true rfl, Nat.le_of_ble_eq_true rfl⟩ (by decide) (lgd_set (by decide) (by decide) rfl) (fun _ q => q) (fun hK => ?_)
  refine jg_sg tl_X11_init 2 (i' := 141) (fun kk => rfl) ?_
  obtain ⟨T1, h1, hK, h1a, h1b⟩ := x6_init (j := 3) (c' := lgd [1, 1, 1, 1, 1, 1, 1, 1, 1, 1, 6, 19, 0, 0, 0, 4, 4, 0, 0, 0, 0, 0, 0, 0, 0, 0, 0, 0, 0, 0, 0, 0, 0, 0, 0, 0, 0, 0, 0, 0, 0, 0]) (l' := [(6, 3, 0), (0, 2, 0), (0, 10, 0), (0, 12, 0)]) hK (by decide : (fun t i => (t = 15 ∨ t = 16) ∧ i = 3) 15 3) (by decide : (fun t i => (t = 15 ∨ t = 16) ∧ i = 3) 16 3) rfl (lgd_set (by decide) (by decide) rfl) (by decide +kernel)
  refine jg_cv (i' := 142) (n := 1) (mc := 1) (ms := 40) (MC := 48) (MS := 1028) (nn' := (42, 689)) (F := F_X6_init) (a := [.inr (.inl (15, 3))]) (rest := [.inr (.inl (15, 3)), .inl 3, .inr (.inl (6, 0))]) rfl rfl rfl rfl rfl h1 ⟨Nat.le_of_ble_eq_true rfl, Nat.le_of_ble_eq_true rfl, Nat.le_of_ble_eq_true rfl, Nat.le_of_ble_eq_true rfl⟩ ?_
  refine jg_aast (i' := 143) (t := 6) (e := 3) (j := 0) (v := 3) (n := 4) (t' := 15) (x := 3) (g0 := ce_k0) (l' := [(0, 2, 0), (0, 10, 0), (0, 12, 0)]) hK rfl rfl (by decide) (by decide) rfl rfl rfl (by decide) (by decide +kernel) (fun hK => ?_)
  refine jg_iinc (i' := 144) (jj := 1) (x := 3) (d := 1) (x' := 4) (ls' := [some (.inr (.inl (0, 0))), some (.inl 4)]) rfl rfl rfl (by decide) rfl ?_
  refine jg_sg tl_X11_init 2 (i' := 133) (fun kk => rfl) ?_
  exact g _ hK h1a h1b
