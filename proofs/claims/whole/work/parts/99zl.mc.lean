/-! the reference's constructor: its rows -/
set_option maxRecDepth 20000 in
theorem x12_R1 {S : ce_S} {Q : Option ce_V → ce_S → Prop} (hK0 : KN (lgd [1, 1, 1, 1, 1, 1, 1, 1, 1, 1, 6, 19, 3, 1, 1, 4, 4, 1, 0, 0, 1, 1, 1, 1, 1, 1, 1, 1, 0, 0, 0, 0, 0, 0, 0, 0, 0, 0, 0, 0, 1, 12]) [(20, 12, 0), (20, 13, 0), (20, 14, 0), (20, 15, 0), (20, 16, 0), (20, 17, 0), (20, 27, 0), (20, 41, 0), (20, 42, 0), (20, 43, 0), (20, 44, 0)] S)
    (g : ∀ S1, KW (fun t _ => t = 28 ∨ t = 29) S (lgd [1, 1, 1, 1, 1, 1, 1, 1, 1, 1, 6, 19, 3, 1, 1, 4, 4, 1, 0, 0, 1, 1, 1, 1, 1, 1, 1, 1, 1, 1, 0, 0, 0, 0, 0, 0, 0, 0, 0, 0, 1, 12]) [(20, 15, 0), (20, 16, 0), (20, 17, 0), (20, 27, 0), (20, 41, 0), (20, 42, 0), (20, 43, 0), (20, 44, 0)] S1 → Jg tb_X12_init 295 (22, 3320) [some (.inr (.inl (20, 0))), none] [] S1 Q) : Jg tb_X12_init 286 (20, 100) [some (.inr (.inl (20, 0))), none] [.inr (.inl (40, 0)), .inr (.inl (20, 0))] S Q := by
  have hK : KW (fun t _ => t = 28 ∨ t = 29) S (lgd [1, 1, 1, 1, 1, 1, 1, 1, 1, 1, 6, 19, 3, 1, 1, 4, 4, 1, 0, 0, 1, 1, 1, 1, 1, 1, 1, 1, 0, 0, 0, 0, 0, 0, 0, 0, 0, 0, 0, 0, 1, 12]) [(20, 12, 0), (20, 13, 0), (20, 14, 0), (20, 15, 0), (20, 16, 0), (20, 17, 0), (20, 27, 0), (20, 41, 0), (20, 42, 0), (20, 43, 0), (20, 44, 0)] S := KW.rf hK0
  refine jg_putS (i' := 287) (t := 20) (f := 12) (t' := 40) (g0 := fun _ => 0) (j := 0) (r := 0) (l' := [(20, 13, 0), (20, 14, 0), (20, 15, 0), (20, 16, 0), (20, 17, 0), (20, 27, 0), (20, 41, 0), (20, 42, 0), (20, 43, 0), (20, 44, 0)]) hK rfl rfl rfl (by decide +kernel) (fun hK => ?_)
  refine jg_sg tl_X12_init 3 (i' := 289) (fun kk => rfl) ?_
  refine jg_newa (i' := 290) (t := 28) (MC := 30) (MS := 4126) (j := 0) (n := 160) (nn' := (21, 260)) (c' := lgd [1, 1, 1, 1, 1, 1, 1, 1, 1, 1, 6, 19, 3, 1, 1, 4, 4, 1, 0, 0, 1, 1, 1, 1, 1, 1, 1, 1, 1, 0, 0, 0, 0, 0, 0, 0, 0, 0, 0, 0, 1, 12]) hK rfl rfl (by decide) (by decide) rfl rfl (Nat.le_of_ble_eq_true rfl) rfl (by decide) ⟨Nat.le_of_ble_eq_true rfl, Nat.le_of_ble_eq_true rfl⟩ (by decide) (lgd_set (by decide) (by decide) rfl) (fun hK => ?_)
  refine jg_putS (i' := 291) (t := 20) (f := 13) (t' := 28) (g0 := fun _ => 0) (j := 0) (r := 0) (l' := [(20, 14, 0), (20, 15, 0), (20, 16, 0), (20, 17, 0), (20, 27, 0), (20, 41, 0), (20, 42, 0), (20, 43, 0), (20, 44, 0)]) hK rfl rfl rfl (by decide +kernel) (fun hK => ?_)
  refine jg_sg tl_X12_init 3 (i' := 293) (fun kk => rfl) ?_
  refine jg_newa (i' := 294) (t := 29) (MC := 30) (MS := 4126) (j := 0) (n := 3060) (nn' := (22, 3320)) (c' := lgd [1, 1, 1, 1, 1, 1, 1, 1, 1, 1, 6, 19, 3, 1, 1, 4, 4, 1, 0, 0, 1, 1, 1, 1, 1, 1, 1, 1, 1, 1, 0, 0, 0, 0, 0, 0, 0, 0, 0, 0, 1, 12]) hK rfl rfl (by decide) (by decide) rfl rfl (Nat.le_of_ble_eq_true rfl) rfl (by decide) ⟨Nat.le_of_ble_eq_true rfl, Nat.le_of_ble_eq_true rfl⟩ (by decide) (lgd_set (by decide) (by decide) rfl) (fun hK => ?_)
  refine jg_putS (i' := 295) (t := 20) (f := 14) (t' := 29) (g0 := fun _ => 0) (j := 0) (r := 0) (l' := [(20, 15, 0), (20, 16, 0), (20, 17, 0), (20, 27, 0), (20, 41, 0), (20, 42, 0), (20, 43, 0), (20, 44, 0)]) hK rfl rfl rfl (by decide +kernel) (fun hK => ?_)
  exact g _ hK
set_option maxRecDepth 20000 in
theorem x12_R2 {S : ce_S} {Q : Option ce_V → ce_S → Prop} (hK0 : KN (lgd [1, 1, 1, 1, 1, 1, 1, 1, 1, 1, 6, 19, 3, 1, 1, 4, 4, 1, 0, 0, 1, 1, 1, 1, 1, 1, 1, 1, 1, 1, 0, 0, 0, 0, 0, 0, 0, 0, 0, 0, 1, 12]) [(20, 15, 0), (20, 16, 0), (20, 17, 0), (20, 27, 0), (20, 41, 0), (20, 42, 0), (20, 43, 0), (20, 44, 0)] S)
    (g : ∀ S1, KW (fun t _ => t = 30) S (lgd [1, 1, 1, 1, 1, 1, 1, 1, 1, 1, 6, 19, 3, 1, 1, 4, 4, 1, 0, 0, 1, 1, 1, 1, 1, 1, 1, 1, 1, 1, 1, 0, 0, 0, 0, 0, 0, 0, 0, 0, 1, 12]) [(20, 16, 0), (20, 17, 0), (20, 27, 0), (20, 41, 0), (20, 42, 0), (20, 43, 0), (20, 44, 0)] S1 → (∀ e, ce_A S1 30 0 e = 0) → Jg tb_X12_init 299 (23, 3338) [some (.inr (.inl (20, 0))), none] [] S1 Q) : Jg tb_X12_init 295 (22, 3320) [some (.inr (.inl (20, 0))), none] [] S Q := by
  have hK : KW (fun t _ => t = 30) S (lgd [1, 1, 1, 1, 1, 1, 1, 1, 1, 1, 6, 19, 3, 1, 1, 4, 4, 1, 0, 0, 1, 1, 1, 1, 1, 1, 1, 1, 1, 1, 0, 0, 0, 0, 0, 0, 0, 0, 0, 0, 1, 12]) [(20, 15, 0), (20, 16, 0), (20, 17, 0), (20, 27, 0), (20, 41, 0), (20, 42, 0), (20, 43, 0), (20, 44, 0)] S := KW.rf hK0
  refine jg_sg tl_X12_init 3 (i' := 297) (fun kk => rfl) ?_
  have h30 : ∀ e, ce_A (kS_row S 30 18) 30 0 e = 0 := fun e => by
    show (if (30 : Nat) = 30 ∧ 0 = ce_C S 30 then (0 : Int32) else ce_A S 30 0 e) = 0
    rw [if_pos ⟨rfl, (hK0.1 30).symm⟩]
  refine jg_newa (i' := 298) (t := 30) (MC := 30) (MS := 4126) (j := 0) (n := 18) (nn' := (23, 3338)) (c' := lgd [1, 1, 1, 1, 1, 1, 1, 1, 1, 1, 6, 19, 3, 1, 1, 4, 4, 1, 0, 0, 1, 1, 1, 1, 1, 1, 1, 1, 1, 1, 1, 0, 0, 0, 0, 0, 0, 0, 0, 0, 1, 12]) hK rfl rfl (by decide) (by decide) rfl rfl (Nat.le_of_ble_eq_true rfl) rfl (by decide) ⟨Nat.le_of_ble_eq_true rfl, Nat.le_of_ble_eq_true rfl⟩ (by decide) (lgd_set (by decide) (by decide) rfl) (fun hK => ?_)
  refine jg_putS (i' := 299) (t := 20) (f := 15) (t' := 30) (g0 := fun _ => 0) (j := 0) (r := 0) (l' := [(20, 16, 0), (20, 17, 0), (20, 27, 0), (20, 41, 0), (20, 42, 0), (20, 43, 0), (20, 44, 0)]) hK rfl rfl rfl (by decide +kernel) (fun hK => ?_)
  exact g _ hK h30
set_option maxRecDepth 20000 in
theorem x12_R3 {S : ce_S} {Q : Option ce_V → ce_S → Prop} (hK0 : KN (lgd [1, 1, 1, 1, 1, 1, 1, 1, 1, 1, 6, 19, 3, 1, 1, 4, 4, 1, 0, 0, 1, 1, 1, 1, 1, 1, 1, 1, 1, 1, 1, 0, 0, 0, 0, 0, 0, 0, 0, 0, 1, 12]) [(20, 16, 0), (20, 17, 0), (20, 27, 0), (20, 41, 0), (20, 42, 0), (20, 43, 0), (20, 44, 0)] S)
    (g : ∀ S1, KW (fun t _ => t = 20 ∨ (31 ≤ t ∧ t ≤ 34)) S (lgd [1, 1, 1, 1, 1, 1, 1, 1, 1, 1, 6, 19, 3, 1, 1, 4, 4, 1, 0, 0, 1, 1, 1, 1, 1, 1, 1, 1, 1, 1, 1, 1, 1, 1, 1, 0, 0, 0, 0, 0, 1, 12]) [(20, 42, 0), (20, 43, 0), (20, 44, 0)] S1 → (∀ k, k ≠ 19 → ce_I S1 20 k 0 = ce_I S 20 k 0) → ce_I S1 20 19 0 = 1 → Jg tb_X12_init 318 (27, 3922) [some (.inr (.inl (20, 0))), none] [] S1 Q) : Jg tb_X12_init 299 (23, 3338) [some (.inr (.inl (20, 0))), none] [] S Q := by
  have hK : KW (fun t _ => t = 20 ∨ (31 ≤ t ∧ t ≤ 34)) S (lgd [1, 1, 1, 1, 1, 1, 1, 1, 1, 1, 6, 19, 3, 1, 1, 4, 4, 1, 0, 0, 1, 1, 1, 1, 1, 1, 1, 1, 1, 1, 1, 0, 0, 0, 0, 0, 0, 0, 0, 0, 1, 12]) [(20, 16, 0), (20, 17, 0), (20, 27, 0), (20, 41, 0), (20, 42, 0), (20, 43, 0), (20, 44, 0)] S := KW.rf hK0
  refine jg_sg tl_X12_init 3 (i' := 301) (fun kk => rfl) ?_
  refine jg_newa (i' := 302) (t := 31) (MC := 30) (MS := 4126) (j := 0) (n := 200) (nn' := (24, 3538)) (c' := lgd [1, 1, 1, 1, 1, 1, 1, 1, 1, 1, 6, 19, 3, 1, 1, 4, 4, 1, 0, 0, 1, 1, 1, 1, 1, 1, 1, 1, 1, 1, 1, 1, 0, 0, 0, 0, 0, 0, 0, 0, 1, 12]) hK rfl rfl (by decide) (by decide) rfl rfl (Nat.le_of_ble_eq_true rfl) rfl (by decide) ⟨Nat.le_of_ble_eq_true rfl, Nat.le_of_ble_eq_true rfl⟩ (by decide) (lgd_set (by decide) (by decide) rfl) (fun hK => ?_)
  refine jg_putS (i' := 303) (t := 20) (f := 16) (t' := 31) (g0 := fun _ => 0) (j := 0) (r := 0) (l' := [(20, 17, 0), (20, 27, 0), (20, 41, 0), (20, 42, 0), (20, 43, 0), (20, 44, 0)]) hK rfl rfl rfl (by decide +kernel) (fun hK => ?_)
  refine jg_sg tl_X12_init 3 (i' := 305) (fun kk => rfl) ?_
  refine jg_newa (i' := 306) (t := 32) (MC := 30) (MS := 4126) (j := 0) (n := 200) (nn' := (25, 3738)) (c' := lgd [1, 1, 1, 1, 1, 1, 1, 1, 1, 1, 6, 19, 3, 1, 1, 4, 4, 1, 0, 0, 1, 1, 1, 1, 1, 1, 1, 1, 1, 1, 1, 1, 1, 0, 0, 0, 0, 0, 0, 0, 1, 12]) hK rfl rfl (by decide) (by decide) rfl rfl (Nat.le_of_ble_eq_true rfl) rfl (by decide) ⟨Nat.le_of_ble_eq_true rfl, Nat.le_of_ble_eq_true rfl⟩ (by decide) (lgd_set (by decide) (by decide) rfl) (fun hK => ?_)
  refine jg_putS (i' := 307) (t := 20) (f := 17) (t' := 32) (g0 := fun _ => 0) (j := 0) (r := 0) (l' := [(20, 27, 0), (20, 41, 0), (20, 42, 0), (20, 43, 0), (20, 44, 0)]) hK rfl rfl rfl (by decide +kernel) (fun hK => ?_)
  refine jg_sg tl_X12_init 3 (i' := 309) (fun kk => rfl) ?_
  refine jg_putI (i' := 310) (t := 20) (f := 19) (j := 0) (x := 1) hK rfl rfl (by decide) (fun hK => ?_)
  refine jg_sg tl_X12_init 3 (i' := 312) (fun kk => rfl) ?_
  refine jg_newa (i' := 313) (t := 33) (MC := 30) (MS := 4126) (j := 0) (n := 180) (nn' := (26, 3918)) (c' := lgd [1, 1, 1, 1, 1, 1, 1, 1, 1, 1, 6, 19, 3, 1, 1, 4, 4, 1, 0, 0, 1, 1, 1, 1, 1, 1, 1, 1, 1, 1, 1, 1, 1, 1, 0, 0, 0, 0, 0, 0, 1, 12]) hK rfl rfl (by decide) (by decide) rfl rfl (Nat.le_of_ble_eq_true rfl) rfl (by decide) ⟨Nat.le_of_ble_eq_true rfl, Nat.le_of_ble_eq_true rfl⟩ (by decide) (lgd_set (by decide) (by decide) rfl) (fun hK => ?_)
  refine jg_putS (i' := 314) (t := 20) (f := 27) (t' := 33) (g0 := fun _ => 0) (j := 0) (r := 0) (l' := [(20, 41, 0), (20, 42, 0), (20, 43, 0), (20, 44, 0)]) hK rfl rfl rfl (by decide +kernel) (fun hK => ?_)
  refine jg_sg tl_X12_init 3 (i' := 316) (fun kk => rfl) ?_
  refine jg_newa (i' := 317) (t := 34) (MC := 30) (MS := 4126) (j := 0) (n := 4) (nn' := (27, 3922)) (c' := lgd [1, 1, 1, 1, 1, 1, 1, 1, 1, 1, 6, 19, 3, 1, 1, 4, 4, 1, 0, 0, 1, 1, 1, 1, 1, 1, 1, 1, 1, 1, 1, 1, 1, 1, 1, 0, 0, 0, 0, 0, 1, 12]) hK rfl rfl (by decide) (by decide) rfl rfl (Nat.le_of_ble_eq_true rfl) rfl (by decide) ⟨Nat.le_of_ble_eq_true rfl, Nat.le_of_ble_eq_true rfl⟩ (by decide) (lgd_set (by decide) (by decide) rfl) (fun hK => ?_)
  refine jg_putS (i' := 318) (t := 20) (f := 41) (t' := 34) (g0 := fun _ => 0) (j := 0) (r := 0) (l' := [(20, 42, 0), (20, 43, 0), (20, 44, 0)]) hK rfl rfl rfl (by decide +kernel) (fun hK => ?_)
  exact g _ hK (fun k h19 => by
    rw [show ∀ X : ce_S, ce_I (kS_putS (kS_row (kS_putS (kS_row X 33 180) 20 27 0) 34 4) 20 41 0) = ce_I X from fun _ => rfl, r_I_sI, if_pos rfl, if_neg h19]
    rfl) rfl
set_option maxRecDepth 20000 in
theorem x12_R4 {S : ce_S} {Q : Option ce_V → ce_S → Prop} (hK0 : KN (lgd [1, 1, 1, 1, 1, 1, 1, 1, 1, 1, 6, 19, 3, 1, 1, 4, 4, 1, 0, 0, 1, 1, 1, 1, 1, 1, 1, 1, 1, 1, 1, 1, 1, 1, 1, 0, 0, 0, 0, 0, 1, 12]) [(20, 42, 0), (20, 43, 0), (20, 44, 0)] S)
    (g : ∀ S1, KW (fun t _ => t = 35) S (lgd [1, 1, 1, 1, 1, 1, 1, 1, 1, 1, 6, 19, 3, 1, 1, 4, 4, 1, 0, 0, 1, 1, 1, 1, 1, 1, 1, 1, 1, 1, 1, 1, 1, 1, 1, 1, 0, 0, 0, 0, 1, 12]) [(20, 43, 0), (20, 44, 0)] S1 → (∀ e, ce_A S1 35 0 e = 0) → Jg tb_X12_init 322 (28, 3926) [some (.inr (.inl (20, 0))), none] [] S1 Q) : Jg tb_X12_init 318 (27, 3922) [some (.inr (.inl (20, 0))), none] [] S Q := by
  have hK : KW (fun t _ => t = 35) S (lgd [1, 1, 1, 1, 1, 1, 1, 1, 1, 1, 6, 19, 3, 1, 1, 4, 4, 1, 0, 0, 1, 1, 1, 1, 1, 1, 1, 1, 1, 1, 1, 1, 1, 1, 1, 0, 0, 0, 0, 0, 1, 12]) [(20, 42, 0), (20, 43, 0), (20, 44, 0)] S := KW.rf hK0
  refine jg_sg tl_X12_init 3 (i' := 320) (fun kk => rfl) ?_
  have h35 : ∀ e, ce_A (kS_row S 35 4) 35 0 e = 0 := fun e => by
    show (if (35 : Nat) = 35 ∧ 0 = ce_C S 35 then (0 : Int32) else ce_A S 35 0 e) = 0
    rw [if_pos ⟨rfl, (hK0.1 35).symm⟩]
  refine jg_newa (i' := 321) (t := 35) (MC := 30) (MS := 4126) (j := 0) (n := 4) (nn' := (28, 3926)) (c' := lgd [1, 1, 1, 1, 1, 1, 1, 1, 1, 1, 6, 19, 3, 1, 1, 4, 4, 1, 0, 0, 1, 1, 1, 1, 1, 1, 1, 1, 1, 1, 1, 1, 1, 1, 1, 1, 0, 0, 0, 0, 1, 12]) hK rfl rfl (by decide) (by decide) rfl rfl (Nat.le_of_ble_eq_true rfl) rfl (by decide) ⟨Nat.le_of_ble_eq_true rfl, Nat.le_of_ble_eq_true rfl⟩ (by decide) (lgd_set (by decide) (by decide) rfl) (fun hK => ?_)
  refine jg_putS (i' := 322) (t := 20) (f := 42) (t' := 35) (g0 := fun _ => 0) (j := 0) (r := 0) (l' := [(20, 43, 0), (20, 44, 0)]) hK rfl rfl rfl (by decide +kernel) (fun hK => ?_)
  exact g _ hK h35
set_option maxRecDepth 20000 in
theorem x12_R5 {S : ce_S} {Q : Option ce_V → ce_S → Prop} (hK0 : KN (lgd [1, 1, 1, 1, 1, 1, 1, 1, 1, 1, 6, 19, 3, 1, 1, 4, 4, 1, 0, 0, 1, 1, 1, 1, 1, 1, 1, 1, 1, 1, 1, 1, 1, 1, 1, 1, 0, 0, 0, 0, 1, 12]) [(20, 43, 0), (20, 44, 0)] S)
    (g : ∀ S1, KW (fun t _ => t = 36 ∨ t = 37) S (lgd [1, 1, 1, 1, 1, 1, 1, 1, 1, 1, 6, 19, 3, 1, 1, 4, 4, 1, 0, 0, 1, 1, 1, 1, 1, 1, 1, 1, 1, 1, 1, 1, 1, 1, 1, 1, 1, 1, 0, 0, 1, 12]) [] S1 → Jg tb_X12_init 330 (30, 4126) [some (.inr (.inl (20, 0))), none] [] S1 Q) : Jg tb_X12_init 322 (28, 3926) [some (.inr (.inl (20, 0))), none] [] S Q := by
  have hK : KW (fun t _ => t = 36 ∨ t = 37) S (lgd [1, 1, 1, 1, 1, 1, 1, 1, 1, 1, 6, 19, 3, 1, 1, 4, 4, 1, 0, 0, 1, 1, 1, 1, 1, 1, 1, 1, 1, 1, 1, 1, 1, 1, 1, 1, 0, 0, 0, 0, 1, 12]) [(20, 43, 0), (20, 44, 0)] S := KW.rf hK0
  refine jg_sg tl_X12_init 3 (i' := 324) (fun kk => rfl) ?_
  refine jg_newa (i' := 325) (t := 36) (MC := 30) (MS := 4126) (j := 0) (n := 160) (nn' := (29, 4086)) (c' := lgd [1, 1, 1, 1, 1, 1, 1, 1, 1, 1, 6, 19, 3, 1, 1, 4, 4, 1, 0, 0, 1, 1, 1, 1, 1, 1, 1, 1, 1, 1, 1, 1, 1, 1, 1, 1, 1, 0, 0, 0, 1, 12]) hK rfl rfl (by decide) (by decide) rfl rfl (Nat.le_of_ble_eq_true rfl) rfl (by decide) ⟨Nat.le_of_ble_eq_true rfl, Nat.le_of_ble_eq_true rfl⟩ (by decide) (lgd_set (by decide) (by decide) rfl) (fun hK => ?_)
  refine jg_putS (i' := 326) (t := 20) (f := 43) (t' := 36) (g0 := fun _ => 0) (j := 0) (r := 0) (l' := [(20, 44, 0)]) hK rfl rfl rfl (by decide +kernel) (fun hK => ?_)
  refine jg_sg tl_X12_init 3 (i' := 328) (fun kk => rfl) ?_
  refine jg_newa (i' := 329) (t := 37) (MC := 30) (MS := 4126) (j := 0) (n := 40) (nn' := (30, 4126)) (c' := lgd [1, 1, 1, 1, 1, 1, 1, 1, 1, 1, 6, 19, 3, 1, 1, 4, 4, 1, 0, 0, 1, 1, 1, 1, 1, 1, 1, 1, 1, 1, 1, 1, 1, 1, 1, 1, 1, 1, 0, 0, 1, 12]) hK rfl rfl (by decide) (by decide) rfl rfl (Nat.le_of_ble_eq_true rfl) rfl (by decide) ⟨Nat.le_of_ble_eq_true rfl, Nat.le_of_ble_eq_true rfl⟩ (by decide) (lgd_set (by decide) (by decide) rfl) (fun hK => ?_)
  refine jg_putS (i' := 330) (t := 20) (f := 44) (t' := 37) (g0 := fun _ => 0) (j := 0) (r := 0) (l' := []) hK rfl rfl rfl (by decide +kernel) (fun hK => ?_)
  exact g _ hK
set_option maxRecDepth 20000 in
theorem x12_R6 {S : ce_S} {Q : Option ce_V → ce_S → Prop} (hK0 : KN (lgd [1, 1, 1, 1, 1, 1, 1, 1, 1, 1, 6, 19, 3, 1, 1, 4, 4, 1, 0, 0, 1, 1, 1, 1, 1, 1, 1, 1, 1, 1, 1, 1, 1, 1, 1, 1, 1, 1, 0, 0, 1, 12]) [] S)
    (g : ∀ S1, KW (fun t _ => t = 34) S (lgd [1, 1, 1, 1, 1, 1, 1, 1, 1, 1, 6, 19, 3, 1, 1, 4, 4, 1, 0, 0, 1, 1, 1, 1, 1, 1, 1, 1, 1, 1, 1, 1, 1, 1, 1, 1, 1, 1, 0, 0, 1, 12]) [] S1 → (∀ e, e < 4 → ce_A S1 34 0 e = -1) → Jg tb_X12_init 342 (30, 4126) [some (.inr (.inl (20, 0))), some (.inl 4)] [] S1 Q) : Jg tb_X12_init 330 (30, 4126) [some (.inr (.inl (20, 0))), none] [] S Q := by
  have hK : KW (fun t _ => t = 34) S (lgd [1, 1, 1, 1, 1, 1, 1, 1, 1, 1, 6, 19, 3, 1, 1, 4, 4, 1, 0, 0, 1, 1, 1, 1, 1, 1, 1, 1, 1, 1, 1, 1, 1, 1, 1, 1, 1, 1, 0, 0, 1, 12]) [] S := KW.rf hK0
  refine jg_sg tl_X12_init 5 (i' := 334) (fun kk => rfl) ?_
  refine jg_cmpge_f (i' := 335) rfl rfl (by decide) ?_
  refine jg_sg tl_X12_init 2 (i' := 336) (fun kk => rfl) ?_
  refine jg_getS (i' := 337) (t := 20) (f := 41) (t' := 34) (g0 := fun _ => 0) (j := 0) (r := 0) hK rfl rfl (by decide) (Nat.le_of_ble_eq_true rfl) rfl ?_
  refine jg_sg tl_X12_init 3 (i' := 339) (fun kk => rfl) ?_
  refine jg_ist (i' := 340) (t := 34) (e := 0) (j := 0) (n := 4) (x := 0) (v := (-1)) hK rfl rfl (by decide) (by decide) rfl (by decide) (by decide) (fun hK => ?_)
  refine jg_iinc (i' := 341) (jj := 1) (x := 0) (d := 1) (x' := 1) (ls' := [some (.inr (.inl (20, 0))), some (.inl 1)]) rfl rfl rfl (by decide) rfl ?_
  refine jg_sg tl_X12_init 4 (i' := 334) (fun kk => rfl) ?_
  refine jg_cmpge_f (i' := 335) rfl rfl (by decide) ?_
  refine jg_sg tl_X12_init 2 (i' := 336) (fun kk => rfl) ?_
  refine jg_getS (i' := 337) (t := 20) (f := 41) (t' := 34) (g0 := fun _ => 0) (j := 0) (r := 0) hK rfl rfl (by decide) (Nat.le_of_ble_eq_true rfl) rfl ?_
  refine jg_sg tl_X12_init 3 (i' := 339) (fun kk => rfl) ?_
  refine jg_ist (i' := 340) (t := 34) (e := 1) (j := 0) (n := 4) (x := 1) (v := (-1)) hK rfl rfl (by decide) (by decide) rfl (by decide) (by decide) (fun hK => ?_)
  refine jg_iinc (i' := 341) (jj := 1) (x := 1) (d := 1) (x' := 2) (ls' := [some (.inr (.inl (20, 0))), some (.inl 2)]) rfl rfl rfl (by decide) rfl ?_
  refine jg_sg tl_X12_init 4 (i' := 334) (fun kk => rfl) ?_
  refine jg_cmpge_f (i' := 335) rfl rfl (by decide) ?_
  refine jg_sg tl_X12_init 2 (i' := 336) (fun kk => rfl) ?_
  refine jg_getS (i' := 337) (t := 20) (f := 41) (t' := 34) (g0 := fun _ => 0) (j := 0) (r := 0) hK rfl rfl (by decide) (Nat.le_of_ble_eq_true rfl) rfl ?_
  refine jg_sg tl_X12_init 3 (i' := 339) (fun kk => rfl) ?_
  refine jg_ist (i' := 340) (t := 34) (e := 2) (j := 0) (n := 4) (x := 2) (v := (-1)) hK rfl rfl (by decide) (by decide) rfl (by decide) (by decide) (fun hK => ?_)
  refine jg_iinc (i' := 341) (jj := 1) (x := 2) (d := 1) (x' := 3) (ls' := [some (.inr (.inl (20, 0))), some (.inl 3)]) rfl rfl rfl (by decide) rfl ?_
  refine jg_sg tl_X12_init 4 (i' := 334) (fun kk => rfl) ?_
  refine jg_cmpge_f (i' := 335) rfl rfl (by decide) ?_
  refine jg_sg tl_X12_init 2 (i' := 336) (fun kk => rfl) ?_
  refine jg_getS (i' := 337) (t := 20) (f := 41) (t' := 34) (g0 := fun _ => 0) (j := 0) (r := 0) hK rfl rfl (by decide) (Nat.le_of_ble_eq_true rfl) rfl ?_
  refine jg_sg tl_X12_init 3 (i' := 339) (fun kk => rfl) ?_
  refine jg_ist (i' := 340) (t := 34) (e := 3) (j := 0) (n := 4) (x := 3) (v := (-1)) hK rfl rfl (by decide) (by decide) rfl (by decide) (by decide) (fun hK => ?_)
  refine jg_iinc (i' := 341) (jj := 1) (x := 3) (d := 1) (x' := 4) (ls' := [some (.inr (.inl (20, 0))), some (.inl 4)]) rfl rfl rfl (by decide) rfl ?_
  refine jg_sg tl_X12_init 4 (i' := 334) (fun kk => rfl) ?_
  refine jg_cmpge_t (t := 342) rfl (by decide) ?_
  exact g _ hK (fun e he => by
    match e, he with
    | 0, _ => rfl
    | 1, _ => rfl
    | 2, _ => rfl
    | 3, _ => rfl)
