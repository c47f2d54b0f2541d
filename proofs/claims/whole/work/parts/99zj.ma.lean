/-! the reference's constructor: its cells -/
theorem kref_20 : ∀ k, kref 20 k ≠ 0 → k ∈ [0, 1, 2, 3, 4, 5, 6, 12, 13, 14, 15, 16, 17, 27, 41, 42, 43, 44] := fun k h => by
  match k, h with
  | 0, _ => exact of_decide_eq_true rfl
  | 1, _ => exact of_decide_eq_true rfl
  | 2, _ => exact of_decide_eq_true rfl
  | 3, _ => exact of_decide_eq_true rfl
  | 4, _ => exact of_decide_eq_true rfl
  | 5, _ => exact of_decide_eq_true rfl
  | 6, _ => exact of_decide_eq_true rfl
  | 7, h => exact absurd rfl h
  | 8, h => exact absurd rfl h
  | 9, h => exact absurd rfl h
  | 10, h => exact absurd rfl h
  | 11, h => exact absurd rfl h
  | 12, _ => exact of_decide_eq_true rfl
  | 13, _ => exact of_decide_eq_true rfl
  | 14, _ => exact of_decide_eq_true rfl
  | 15, _ => exact of_decide_eq_true rfl
  | 16, _ => exact of_decide_eq_true rfl
  | 17, _ => exact of_decide_eq_true rfl
  | 18, h => exact absurd rfl h
  | 19, h => exact absurd rfl h
  | 20, h => exact absurd rfl h
  | 21, h => exact absurd rfl h
  | 22, h => exact absurd rfl h
  | 23, h => exact absurd rfl h
  | 24, h => exact absurd rfl h
  | 25, h => exact absurd rfl h
  | 26, h => exact absurd rfl h
  | 27, _ => exact of_decide_eq_true rfl
  | 28, h => exact absurd rfl h
  | 29, h => exact absurd rfl h
  | 30, h => exact absurd rfl h
  | 31, h => exact absurd rfl h
  | 32, h => exact absurd rfl h
  | 33, h => exact absurd rfl h
  | 34, h => exact absurd rfl h
  | 35, h => exact absurd rfl h
  | 36, h => exact absurd rfl h
  | 37, h => exact absurd rfl h
  | 38, h => exact absurd rfl h
  | 39, h => exact absurd rfl h
  | 40, h => exact absurd rfl h
  | 41, _ => exact of_decide_eq_true rfl
  | 42, _ => exact of_decide_eq_true rfl
  | 43, _ => exact of_decide_eq_true rfl
  | 44, _ => exact of_decide_eq_true rfl
  | _ + 45, h => exact absurd rfl h
set_option maxRecDepth 20000 in
theorem x12_A {S : ce_S} {Q : Option ce_V → ce_S → Prop} (hK0 : KN (lgd [1, 1, 1, 1, 1, 1, 1, 1, 1, 1, 6, 19, 3, 1, 1, 4, 4, 1, 0, 0, 1, 0, 0, 0, 0, 0, 0, 0, 0, 0, 0, 0, 0, 0, 0, 0, 0, 0, 0, 0, 0, 0]) [(20, 0, 0), (20, 1, 0), (20, 2, 0), (20, 3, 0), (20, 4, 0), (20, 5, 0), (20, 6, 0), (20, 12, 0), (20, 13, 0), (20, 14, 0), (20, 15, 0), (20, 16, 0), (20, 17, 0), (20, 27, 0), (20, 41, 0), (20, 42, 0), (20, 43, 0), (20, 44, 0)] S)
    (g : ∀ S1, KW (fun t _ => (20 ≤ t ∧ t ≤ 27) ∨ t = 40) S (lgd [1, 1, 1, 1, 1, 1, 1, 1, 1, 1, 6, 19, 3, 1, 1, 4, 4, 1, 0, 0, 1, 1, 1, 1, 1, 1, 1, 1, 0, 0, 0, 0, 0, 0, 0, 0, 0, 0, 0, 0, 1, 0]) [(40, 0, 0), (40, 1, 0), (40, 2, 0), (40, 3, 0), (40, 4, 0), (40, 5, 0), (40, 6, 0), (40, 7, 0), (40, 8, 0), (40, 9, 0), (40, 10, 0), (40, 11, 0), (20, 12, 0), (20, 13, 0), (20, 14, 0), (20, 15, 0), (20, 16, 0), (20, 17, 0), (20, 27, 0), (20, 41, 0), (20, 42, 0), (20, 43, 0), (20, 44, 0)] S1 → (∀ k, k ≠ 8 → k ≠ 9 → k ≠ 10 → ce_I S1 20 k 0 = ce_I S 20 k 0) → ce_I S1 20 8 0 = 4 → ce_I S1 20 9 0 = 12 → ce_I S1 20 10 0 = 250 → Jg tb_X12_init 42 (8, 54) [some (.inr (.inl (20, 0))), none] [.inr (.inl (40, 0)), .inr (.inl (20, 0))] S1 Q) : Jg tb_X12_init 0 (0, 0) [some (.inr (.inl (20, 0))), none] [] S Q := by
  have hK : KW (fun t _ => (20 ≤ t ∧ t ≤ 27) ∨ t = 40) S (lgd [1, 1, 1, 1, 1, 1, 1, 1, 1, 1, 6, 19, 3, 1, 1, 4, 4, 1, 0, 0, 1, 0, 0, 0, 0, 0, 0, 0, 0, 0, 0, 0, 0, 0, 0, 0, 0, 0, 0, 0, 0, 0]) [(20, 0, 0), (20, 1, 0), (20, 2, 0), (20, 3, 0), (20, 4, 0), (20, 5, 0), (20, 6, 0), (20, 12, 0), (20, 13, 0), (20, 14, 0), (20, 15, 0), (20, 16, 0), (20, 17, 0), (20, 27, 0), (20, 41, 0), (20, 42, 0), (20, 43, 0), (20, 44, 0)] S := KW.rf hK0
  refine jg_sg tl_X12_init 2 (i' := 1) (fun kk => rfl) ?_
  refine jg_kinit (i' := 2) rfl rfl (Nat.le_of_ble_eq_true rfl) ?_
  refine jg_sg tl_X12_init 3 (i' := 4) (fun kk => rfl) ?_
  refine jg_newa (i' := 5) (t := 21) (MC := 30) (MS := 4126) (j := 0) (n := 6) (nn' := (1, 6)) (c' := lgd [1, 1, 1, 1, 1, 1, 1, 1, 1, 1, 6, 19, 3, 1, 1, 4, 4, 1, 0, 0, 1, 1, 0, 0, 0, 0, 0, 0, 0, 0, 0, 0, 0, 0, 0, 0, 0, 0, 0, 0, 0, 0]) hK rfl rfl (by decide) (by decide) rfl rfl (Nat.le_of_ble_eq_true rfl) rfl (by decide) ⟨Nat.le_of_ble_eq_true rfl, Nat.le_of_ble_eq_true rfl⟩ (by decide) (lgd_set (by decide) (by decide) rfl) (fun hK => ?_)
  refine jg_putS (i' := 6) (t := 20) (f := 0) (t' := 21) (g0 := fun _ => 0) (j := 0) (r := 0) (l' := [(20, 1, 0), (20, 2, 0), (20, 3, 0), (20, 4, 0), (20, 5, 0), (20, 6, 0), (20, 12, 0), (20, 13, 0), (20, 14, 0), (20, 15, 0), (20, 16, 0), (20, 17, 0), (20, 27, 0), (20, 41, 0), (20, 42, 0), (20, 43, 0), (20, 44, 0)]) hK rfl rfl rfl (by decide +kernel) (fun hK => ?_)
  refine jg_sg tl_X12_init 3 (i' := 8) (fun kk => rfl) ?_
  refine jg_newa (i' := 9) (t := 22) (MC := 30) (MS := 4126) (j := 0) (n := 6) (nn' := (2, 12)) (c' := lgd [1, 1, 1, 1, 1, 1, 1, 1, 1, 1, 6, 19, 3, 1, 1, 4, 4, 1, 0, 0, 1, 1, 1, 0, 0, 0, 0, 0, 0, 0, 0, 0, 0, 0, 0, 0, 0, 0, 0, 0, 0, 0]) hK rfl rfl (by decide) (by decide) rfl rfl (Nat.le_of_ble_eq_true rfl) rfl (by decide) ⟨Nat.le_of_ble_eq_true rfl, Nat.le_of_ble_eq_true rfl⟩ (by decide) (lgd_set (by decide) (by decide) rfl) (fun hK => ?_)
  refine jg_putS (i' := 10) (t := 20) (f := 1) (t' := 22) (g0 := fun _ => 0) (j := 0) (r := 0) (l' := [(20, 2, 0), (20, 3, 0), (20, 4, 0), (20, 5, 0), (20, 6, 0), (20, 12, 0), (20, 13, 0), (20, 14, 0), (20, 15, 0), (20, 16, 0), (20, 17, 0), (20, 27, 0), (20, 41, 0), (20, 42, 0), (20, 43, 0), (20, 44, 0)]) hK rfl rfl rfl (by decide +kernel) (fun hK => ?_)
  refine jg_sg tl_X12_init 3 (i' := 12) (fun kk => rfl) ?_
  refine jg_newa (i' := 13) (t := 23) (MC := 30) (MS := 4126) (j := 0) (n := 6) (nn' := (3, 18)) (c' := lgd [1, 1, 1, 1, 1, 1, 1, 1, 1, 1, 6, 19, 3, 1, 1, 4, 4, 1, 0, 0, 1, 1, 1, 1, 0, 0, 0, 0, 0, 0, 0, 0, 0, 0, 0, 0, 0, 0, 0, 0, 0, 0]) hK rfl rfl (by decide) (by decide) rfl rfl (Nat.le_of_ble_eq_true rfl) rfl (by decide) ⟨Nat.le_of_ble_eq_true rfl, Nat.le_of_ble_eq_true rfl⟩ (by decide) (lgd_set (by decide) (by decide) rfl) (fun hK => ?_)
  refine jg_putS (i' := 14) (t := 20) (f := 2) (t' := 23) (g0 := fun _ => 0) (j := 0) (r := 0) (l' := [(20, 3, 0), (20, 4, 0), (20, 5, 0), (20, 6, 0), (20, 12, 0), (20, 13, 0), (20, 14, 0), (20, 15, 0), (20, 16, 0), (20, 17, 0), (20, 27, 0), (20, 41, 0), (20, 42, 0), (20, 43, 0), (20, 44, 0)]) hK rfl rfl rfl (by decide +kernel) (fun hK => ?_)
  refine jg_sg tl_X12_init 3 (i' := 16) (fun kk => rfl) ?_
  refine jg_newa (i' := 17) (t := 24) (MC := 30) (MS := 4126) (j := 0) (n := 6) (nn' := (4, 24)) (c' := lgd [1, 1, 1, 1, 1, 1, 1, 1, 1, 1, 6, 19, 3, 1, 1, 4, 4, 1, 0, 0, 1, 1, 1, 1, 1, 0, 0, 0, 0, 0, 0, 0, 0, 0, 0, 0, 0, 0, 0, 0, 0, 0]) hK rfl rfl (by decide) (by decide) rfl rfl (Nat.le_of_ble_eq_true rfl) rfl (by decide) ⟨Nat.le_of_ble_eq_true rfl, Nat.le_of_ble_eq_true rfl⟩ (by decide) (lgd_set (by decide) (by decide) rfl) (fun hK => ?_)
  refine jg_putS (i' := 18) (t := 20) (f := 3) (t' := 24) (g0 := fun _ => 0) (j := 0) (r := 0) (l' := [(20, 4, 0), (20, 5, 0), (20, 6, 0), (20, 12, 0), (20, 13, 0), (20, 14, 0), (20, 15, 0), (20, 16, 0), (20, 17, 0), (20, 27, 0), (20, 41, 0), (20, 42, 0), (20, 43, 0), (20, 44, 0)]) hK rfl rfl rfl (by decide +kernel) (fun hK => ?_)
  refine jg_sg tl_X12_init 3 (i' := 20) (fun kk => rfl) ?_
  refine jg_newa (i' := 21) (t := 25) (MC := 30) (MS := 4126) (j := 0) (n := 6) (nn' := (5, 30)) (c' := lgd [1, 1, 1, 1, 1, 1, 1, 1, 1, 1, 6, 19, 3, 1, 1, 4, 4, 1, 0, 0, 1, 1, 1, 1, 1, 1, 0, 0, 0, 0, 0, 0, 0, 0, 0, 0, 0, 0, 0, 0, 0, 0]) hK rfl rfl (by decide) (by decide) rfl rfl (Nat.le_of_ble_eq_true rfl) rfl (by decide) ⟨Nat.le_of_ble_eq_true rfl, Nat.le_of_ble_eq_true rfl⟩ (by decide) (lgd_set (by decide) (by decide) rfl) (fun hK => ?_)
  refine jg_putS (i' := 22) (t := 20) (f := 4) (t' := 25) (g0 := fun _ => 0) (j := 0) (r := 0) (l' := [(20, 5, 0), (20, 6, 0), (20, 12, 0), (20, 13, 0), (20, 14, 0), (20, 15, 0), (20, 16, 0), (20, 17, 0), (20, 27, 0), (20, 41, 0), (20, 42, 0), (20, 43, 0), (20, 44, 0)]) hK rfl rfl rfl (by decide +kernel) (fun hK => ?_)
  refine jg_sg tl_X12_init 3 (i' := 24) (fun kk => rfl) ?_
  refine jg_newa (i' := 25) (t := 26) (MC := 30) (MS := 4126) (j := 0) (n := 6) (nn' := (6, 36)) (c' := lgd [1, 1, 1, 1, 1, 1, 1, 1, 1, 1, 6, 19, 3, 1, 1, 4, 4, 1, 0, 0, 1, 1, 1, 1, 1, 1, 1, 0, 0, 0, 0, 0, 0, 0, 0, 0, 0, 0, 0, 0, 0, 0]) hK rfl rfl (by decide) (by decide) rfl rfl (Nat.le_of_ble_eq_true rfl) rfl (by decide) ⟨Nat.le_of_ble_eq_true rfl, Nat.le_of_ble_eq_true rfl⟩ (by decide) (lgd_set (by decide) (by decide) rfl) (fun hK => ?_)
  refine jg_putS (i' := 26) (t := 20) (f := 5) (t' := 26) (g0 := fun _ => 0) (j := 0) (r := 0) (l' := [(20, 6, 0), (20, 12, 0), (20, 13, 0), (20, 14, 0), (20, 15, 0), (20, 16, 0), (20, 17, 0), (20, 27, 0), (20, 41, 0), (20, 42, 0), (20, 43, 0), (20, 44, 0)]) hK rfl rfl rfl (by decide +kernel) (fun hK => ?_)
  refine jg_sg tl_X12_init 3 (i' := 28) (fun kk => rfl) ?_
  refine jg_newa (i' := 29) (t := 27) (MC := 30) (MS := 4126) (j := 0) (n := 6) (nn' := (7, 42)) (c' := lgd [1, 1, 1, 1, 1, 1, 1, 1, 1, 1, 6, 19, 3, 1, 1, 4, 4, 1, 0, 0, 1, 1, 1, 1, 1, 1, 1, 1, 0, 0, 0, 0, 0, 0, 0, 0, 0, 0, 0, 0, 0, 0]) hK rfl rfl (by decide) (by decide) rfl rfl (Nat.le_of_ble_eq_true rfl) rfl (by decide) ⟨Nat.le_of_ble_eq_true rfl, Nat.le_of_ble_eq_true rfl⟩ (by decide) (lgd_set (by decide) (by decide) rfl) (fun hK => ?_)
  refine jg_putS (i' := 30) (t := 20) (f := 6) (t' := 27) (g0 := fun _ => 0) (j := 0) (r := 0) (l' := [(20, 12, 0), (20, 13, 0), (20, 14, 0), (20, 15, 0), (20, 16, 0), (20, 17, 0), (20, 27, 0), (20, 41, 0), (20, 42, 0), (20, 43, 0), (20, 44, 0)]) hK rfl rfl rfl (by decide +kernel) (fun hK => ?_)
  refine jg_sg tl_X12_init 3 (i' := 32) (fun kk => rfl) ?_
  refine jg_putI (i' := 33) (t := 20) (f := 8) (j := 0) (x := 4) hK rfl rfl (by decide) (fun hK => ?_)
  refine jg_sg tl_X12_init 3 (i' := 35) (fun kk => rfl) ?_
  refine jg_putI (i' := 36) (t := 20) (f := 9) (j := 0) (x := 12) hK rfl rfl (by decide) (fun hK => ?_)
  refine jg_sg tl_X12_init 3 (i' := 38) (fun kk => rfl) ?_
  refine jg_putI (i' := 39) (t := 20) (f := 10) (j := 0) (x := 250) hK rfl rfl (by decide) (fun hK => ?_)
  refine jg_sg tl_X12_init 3 (i' := 41) (fun kk => rfl) ?_
  refine jg_anew (i' := 42) (t := 40) (MC := 30) (MS := 4126) (j := 0) (n := 12) (nn' := (8, 54)) (c' := lgd [1, 1, 1, 1, 1, 1, 1, 1, 1, 1, 6, 19, 3, 1, 1, 4, 4, 1, 0, 0, 1, 1, 1, 1, 1, 1, 1, 1, 0, 0, 0, 0, 0, 0, 0, 0, 0, 0, 0, 0, 1, 0]) (ks := List.range 12) (l' := [(40, 0, 0), (40, 1, 0), (40, 2, 0), (40, 3, 0), (40, 4, 0), (40, 5, 0), (40, 6, 0), (40, 7, 0), (40, 8, 0), (40, 9, 0), (40, 10, 0), (40, 11, 0), (20, 12, 0), (20, 13, 0), (20, 14, 0), (20, 15, 0), (20, 16, 0), (20, 17, 0), (20, 27, 0), (20, 41, 0), (20, 42, 0), (20, 43, 0), (20, 44, 0)]) hK rfl rfl (by decide) (by decide) rfl rfl (Nat.le_of_ble_eq_true rfl) rfl (by decide) (fun k q => List.mem_range.mpr q.2.2) ⟨Nat.le_of_ble_eq_true rfl, Nat.le_of_ble_eq_true rfl⟩ (by decide) (lgd_set (by decide) (by decide) rfl) (fun _ q => q) (fun hK => ?_)
  exact g _ hK (fun k h8 h9 h10 => by
    rw [show ∀ X : ce_S, ce_I (kS_row X 40 12) = ce_I X from fun _ => rfl, r_I_sI, if_pos rfl, if_neg h10, r_I_sI, if_pos rfl, if_neg h9, r_I_sI, if_pos rfl, if_neg h8]
    rfl) rfl rfl rfl
