/-! the reference's constructor: its words -/
set_option maxRecDepth 20000 in
theorem x12_W0 {S : ce_S} {Q : Option ce_V → ce_S → Prop} (hK0 : KN (lgd [1, 1, 1, 1, 1, 1, 1, 1, 1, 1, 6, 19, 3, 1, 1, 4, 4, 1, 0, 0, 1, 1, 1, 1, 1, 1, 1, 1, 0, 0, 0, 0, 0, 0, 0, 0, 0, 0, 0, 0, 1, 0]) [(40, 0, 0), (40, 1, 0), (40, 2, 0), (40, 3, 0), (40, 4, 0), (40, 5, 0), (40, 6, 0), (40, 7, 0), (40, 8, 0), (40, 9, 0), (40, 10, 0), (40, 11, 0), (20, 12, 0), (20, 13, 0), (20, 14, 0), (20, 15, 0), (20, 16, 0), (20, 17, 0), (20, 27, 0), (20, 41, 0), (20, 42, 0), (20, 43, 0), (20, 44, 0)] S)
    (g : ∀ S1, KW (fun t j => t = 41 ∧ j = 0) S (lgd [1, 1, 1, 1, 1, 1, 1, 1, 1, 1, 6, 19, 3, 1, 1, 4, 4, 1, 0, 0, 1, 1, 1, 1, 1, 1, 1, 1, 0, 0, 0, 0, 0, 0, 0, 0, 0, 0, 0, 0, 1, 1]) [(40, 1, 0), (40, 2, 0), (40, 3, 0), (40, 4, 0), (40, 5, 0), (40, 6, 0), (40, 7, 0), (40, 8, 0), (40, 9, 0), (40, 10, 0), (40, 11, 0), (20, 12, 0), (20, 13, 0), (20, 14, 0), (20, 15, 0), (20, 16, 0), (20, 17, 0), (20, 27, 0), (20, 41, 0), (20, 42, 0), (20, 43, 0), (20, 44, 0)] S1 → ce_L S1 41 0 = 4 → (∀ e, e < 4 → ce_A S1 41 0 e = (m_wd.getD 0 []).getD e 0) → Jg tb_X12_init 63 (9, 58) [some (.inr (.inl (20, 0))), none] [.inr (.inl (40, 0)), .inr (.inl (20, 0))] S1 Q) : Jg tb_X12_init 42 (8, 54) [some (.inr (.inl (20, 0))), none] [.inr (.inl (40, 0)), .inr (.inl (20, 0))] S Q := by
  have hK : KW (fun t j => t = 41 ∧ j = 0) S (lgd [1, 1, 1, 1, 1, 1, 1, 1, 1, 1, 6, 19, 3, 1, 1, 4, 4, 1, 0, 0, 1, 1, 1, 1, 1, 1, 1, 1, 0, 0, 0, 0, 0, 0, 0, 0, 0, 0, 0, 0, 1, 0]) [(40, 0, 0), (40, 1, 0), (40, 2, 0), (40, 3, 0), (40, 4, 0), (40, 5, 0), (40, 6, 0), (40, 7, 0), (40, 8, 0), (40, 9, 0), (40, 10, 0), (40, 11, 0), (20, 12, 0), (20, 13, 0), (20, 14, 0), (20, 15, 0), (20, 16, 0), (20, 17, 0), (20, 27, 0), (20, 41, 0), (20, 42, 0), (20, 43, 0), (20, 44, 0)] S := KW.rf hK0
  refine jg_sg tl_X12_init 4 (i' := 45) (fun kk => rfl) ?_
  have hlen : ce_L (kS_row S 41 4) 41 0 = 4 := by
    show (if (41 : Nat) = 41 ∧ 0 = ce_C S 41 then 4 else ce_L S 41 0) = 4
    rw [if_pos ⟨rfl, (hK0.1 41).symm⟩]
  refine jg_newa (i' := 46) (t := 41) (MC := 30) (MS := 4126) (j := 0) (n := 4) (nn' := (9, 58)) (c' := lgd [1, 1, 1, 1, 1, 1, 1, 1, 1, 1, 6, 19, 3, 1, 1, 4, 4, 1, 0, 0, 1, 1, 1, 1, 1, 1, 1, 1, 0, 0, 0, 0, 0, 0, 0, 0, 0, 0, 0, 0, 1, 1]) hK rfl rfl (by decide) (by decide) rfl rfl (Nat.le_of_ble_eq_true rfl) rfl (by decide) ⟨Nat.le_of_ble_eq_true rfl, Nat.le_of_ble_eq_true rfl⟩ (by decide) (lgd_set (by decide) (by decide) rfl) (fun hK => ?_)
  refine jg_sg tl_X12_init 4 (i' := 49) (fun kk => rfl) ?_
  refine jg_ist (i' := 50) (t := 41) (e := 0) (j := 0) (n := 4) (x := 0) (v := 99) hK rfl rfl (by decide) (by decide) hlen (by decide) (by decide) (fun hK => ?_)
  refine jg_sg tl_X12_init 4 (i' := 53) (fun kk => rfl) ?_
  refine jg_ist (i' := 54) (t := 41) (e := 1) (j := 0) (n := 4) (x := 1) (v := 111) hK rfl rfl (by decide) (by decide) hlen (by decide) (by decide) (fun hK => ?_)
  refine jg_sg tl_X12_init 4 (i' := 57) (fun kk => rfl) ?_
  refine jg_ist (i' := 58) (t := 41) (e := 2) (j := 0) (n := 4) (x := 2) (v := 115) hK rfl rfl (by decide) (by decide) hlen (by decide) (by decide) (fun hK => ?_)
  refine jg_sg tl_X12_init 4 (i' := 61) (fun kk => rfl) ?_
  refine jg_ist (i' := 62) (t := 41) (e := 3) (j := 0) (n := 4) (x := 3) (v := 116) hK rfl rfl (by decide) (by decide) hlen (by decide) (by decide) (fun hK => ?_)
  refine jg_aast (i' := 63) (t := 40) (e := 0) (j := 0) (v := 0) (n := 12) (t' := 41) (x := 0) (g0 := ce_k0) (l' := [(40, 1, 0), (40, 2, 0), (40, 3, 0), (40, 4, 0), (40, 5, 0), (40, 6, 0), (40, 7, 0), (40, 8, 0), (40, 9, 0), (40, 10, 0), (40, 11, 0), (20, 12, 0), (20, 13, 0), (20, 14, 0), (20, 15, 0), (20, 16, 0), (20, 17, 0), (20, 27, 0), (20, 41, 0), (20, 42, 0), (20, 43, 0), (20, 44, 0)]) hK rfl rfl (by decide) (by decide) rfl rfl rfl (by decide) (by decide +kernel) (fun hK => ?_)
  exact g _ hK hlen (fun e he => by
    match e, he with
    | 0, _ => rfl
    | 1, _ => rfl
    | 2, _ => rfl
    | 3, _ => rfl)
set_option maxRecDepth 20000 in
theorem x12_W1 {S : ce_S} {Q : Option ce_V → ce_S → Prop} (hK0 : KN (lgd [1, 1, 1, 1, 1, 1, 1, 1, 1, 1, 6, 19, 3, 1, 1, 4, 4, 1, 0, 0, 1, 1, 1, 1, 1, 1, 1, 1, 0, 0, 0, 0, 0, 0, 0, 0, 0, 0, 0, 0, 1, 1]) [(40, 1, 0), (40, 2, 0), (40, 3, 0), (40, 4, 0), (40, 5, 0), (40, 6, 0), (40, 7, 0), (40, 8, 0), (40, 9, 0), (40, 10, 0), (40, 11, 0), (20, 12, 0), (20, 13, 0), (20, 14, 0), (20, 15, 0), (20, 16, 0), (20, 17, 0), (20, 27, 0), (20, 41, 0), (20, 42, 0), (20, 43, 0), (20, 44, 0)] S)
    (g : ∀ S1, KW (fun t j => t = 41 ∧ j = 1) S (lgd [1, 1, 1, 1, 1, 1, 1, 1, 1, 1, 6, 19, 3, 1, 1, 4, 4, 1, 0, 0, 1, 1, 1, 1, 1, 1, 1, 1, 0, 0, 0, 0, 0, 0, 0, 0, 0, 0, 0, 0, 1, 2]) [(40, 2, 0), (40, 3, 0), (40, 4, 0), (40, 5, 0), (40, 6, 0), (40, 7, 0), (40, 8, 0), (40, 9, 0), (40, 10, 0), (40, 11, 0), (20, 12, 0), (20, 13, 0), (20, 14, 0), (20, 15, 0), (20, 16, 0), (20, 17, 0), (20, 27, 0), (20, 41, 0), (20, 42, 0), (20, 43, 0), (20, 44, 0)] S1 → ce_L S1 41 1 = 5 → (∀ e, e < 5 → ce_A S1 41 1 e = (m_wd.getD 1 []).getD e 0) → Jg tb_X12_init 88 (10, 63) [some (.inr (.inl (20, 0))), none] [.inr (.inl (40, 0)), .inr (.inl (20, 0))] S1 Q) : Jg tb_X12_init 63 (9, 58) [some (.inr (.inl (20, 0))), none] [.inr (.inl (40, 0)), .inr (.inl (20, 0))] S Q := by
  have hK : KW (fun t j => t = 41 ∧ j = 1) S (lgd [1, 1, 1, 1, 1, 1, 1, 1, 1, 1, 6, 19, 3, 1, 1, 4, 4, 1, 0, 0, 1, 1, 1, 1, 1, 1, 1, 1, 0, 0, 0, 0, 0, 0, 0, 0, 0, 0, 0, 0, 1, 1]) [(40, 1, 0), (40, 2, 0), (40, 3, 0), (40, 4, 0), (40, 5, 0), (40, 6, 0), (40, 7, 0), (40, 8, 0), (40, 9, 0), (40, 10, 0), (40, 11, 0), (20, 12, 0), (20, 13, 0), (20, 14, 0), (20, 15, 0), (20, 16, 0), (20, 17, 0), (20, 27, 0), (20, 41, 0), (20, 42, 0), (20, 43, 0), (20, 44, 0)] S := KW.rf hK0
  refine jg_sg tl_X12_init 4 (i' := 66) (fun kk => rfl) ?_
  have hlen : ce_L (kS_row S 41 5) 41 1 = 5 := by
    show (if (41 : Nat) = 41 ∧ 1 = ce_C S 41 then 5 else ce_L S 41 1) = 5
    rw [if_pos ⟨rfl, (hK0.1 41).symm⟩]
  refine jg_newa (i' := 67) (t := 41) (MC := 30) (MS := 4126) (j := 1) (n := 5) (nn' := (10, 63)) (c' := lgd [1, 1, 1, 1, 1, 1, 1, 1, 1, 1, 6, 19, 3, 1, 1, 4, 4, 1, 0, 0, 1, 1, 1, 1, 1, 1, 1, 1, 0, 0, 0, 0, 0, 0, 0, 0, 0, 0, 0, 0, 1, 2]) hK rfl rfl (by decide) (by decide) rfl rfl (Nat.le_of_ble_eq_true rfl) rfl (by decide) ⟨Nat.le_of_ble_eq_true rfl, Nat.le_of_ble_eq_true rfl⟩ (by decide) (lgd_set (by decide) (by decide) rfl) (fun hK => ?_)
  refine jg_sg tl_X12_init 4 (i' := 70) (fun kk => rfl) ?_
  refine jg_ist (i' := 71) (t := 41) (e := 0) (j := 1) (n := 5) (x := 0) (v := 115) hK rfl rfl (by decide) (by decide) hlen (by decide) (by decide) (fun hK => ?_)
  refine jg_sg tl_X12_init 4 (i' := 74) (fun kk => rfl) ?_
  refine jg_ist (i' := 75) (t := 41) (e := 1) (j := 1) (n := 5) (x := 1) (v := 104) hK rfl rfl (by decide) (by decide) hlen (by decide) (by decide) (fun hK => ?_)
  refine jg_sg tl_X12_init 4 (i' := 78) (fun kk => rfl) ?_
  refine jg_ist (i' := 79) (t := 41) (e := 2) (j := 1) (n := 5) (x := 2) (v := 111) hK rfl rfl (by decide) (by decide) hlen (by decide) (by decide) (fun hK => ?_)
  refine jg_sg tl_X12_init 4 (i' := 82) (fun kk => rfl) ?_
  refine jg_ist (i' := 83) (t := 41) (e := 3) (j := 1) (n := 5) (x := 3) (v := 101) hK rfl rfl (by decide) (by decide) hlen (by decide) (by decide) (fun hK => ?_)
  refine jg_sg tl_X12_init 4 (i' := 86) (fun kk => rfl) ?_
  refine jg_ist (i' := 87) (t := 41) (e := 4) (j := 1) (n := 5) (x := 4) (v := 115) hK rfl rfl (by decide) (by decide) hlen (by decide) (by decide) (fun hK => ?_)
  refine jg_aast (i' := 88) (t := 40) (e := 1) (j := 0) (v := 1) (n := 12) (t' := 41) (x := 1) (g0 := ce_k0) (l' := [(40, 2, 0), (40, 3, 0), (40, 4, 0), (40, 5, 0), (40, 6, 0), (40, 7, 0), (40, 8, 0), (40, 9, 0), (40, 10, 0), (40, 11, 0), (20, 12, 0), (20, 13, 0), (20, 14, 0), (20, 15, 0), (20, 16, 0), (20, 17, 0), (20, 27, 0), (20, 41, 0), (20, 42, 0), (20, 43, 0), (20, 44, 0)]) hK rfl rfl (by decide) (by decide) rfl rfl rfl (by decide) (by decide +kernel) (fun hK => ?_)
  exact g _ hK hlen (fun e he => by
    match e, he with
    | 0, _ => rfl
    | 1, _ => rfl
    | 2, _ => rfl
    | 3, _ => rfl
    | 4, _ => rfl)
set_option maxRecDepth 20000 in
theorem x12_W2 {S : ce_S} {Q : Option ce_V → ce_S → Prop} (hK0 : KN (lgd [1, 1, 1, 1, 1, 1, 1, 1, 1, 1, 6, 19, 3, 1, 1, 4, 4, 1, 0, 0, 1, 1, 1, 1, 1, 1, 1, 1, 0, 0, 0, 0, 0, 0, 0, 0, 0, 0, 0, 0, 1, 2]) [(40, 2, 0), (40, 3, 0), (40, 4, 0), (40, 5, 0), (40, 6, 0), (40, 7, 0), (40, 8, 0), (40, 9, 0), (40, 10, 0), (40, 11, 0), (20, 12, 0), (20, 13, 0), (20, 14, 0), (20, 15, 0), (20, 16, 0), (20, 17, 0), (20, 27, 0), (20, 41, 0), (20, 42, 0), (20, 43, 0), (20, 44, 0)] S)
    (g : ∀ S1, KW (fun t j => t = 41 ∧ j = 2) S (lgd [1, 1, 1, 1, 1, 1, 1, 1, 1, 1, 6, 19, 3, 1, 1, 4, 4, 1, 0, 0, 1, 1, 1, 1, 1, 1, 1, 1, 0, 0, 0, 0, 0, 0, 0, 0, 0, 0, 0, 0, 1, 3]) [(40, 3, 0), (40, 4, 0), (40, 5, 0), (40, 6, 0), (40, 7, 0), (40, 8, 0), (40, 9, 0), (40, 10, 0), (40, 11, 0), (20, 12, 0), (20, 13, 0), (20, 14, 0), (20, 15, 0), (20, 16, 0), (20, 17, 0), (20, 27, 0), (20, 41, 0), (20, 42, 0), (20, 43, 0), (20, 44, 0)] S1 → ce_L S1 41 2 = 4 → (∀ e, e < 4 → ce_A S1 41 2 e = (m_wd.getD 2 []).getD e 0) → Jg tb_X12_init 109 (11, 67) [some (.inr (.inl (20, 0))), none] [.inr (.inl (40, 0)), .inr (.inl (20, 0))] S1 Q) : Jg tb_X12_init 88 (10, 63) [some (.inr (.inl (20, 0))), none] [.inr (.inl (40, 0)), .inr (.inl (20, 0))] S Q := by
  have hK : KW (fun t j => t = 41 ∧ j = 2) S (lgd [1, 1, 1, 1, 1, 1, 1, 1, 1, 1, 6, 19, 3, 1, 1, 4, 4, 1, 0, 0, 1, 1, 1, 1, 1, 1, 1, 1, 0, 0, 0, 0, 0, 0, 0, 0, 0, 0, 0, 0, 1, 2]) [(40, 2, 0), (40, 3, 0), (40, 4, 0), (40, 5, 0), (40, 6, 0), (40, 7, 0), (40, 8, 0), (40, 9, 0), (40, 10, 0), (40, 11, 0), (20, 12, 0), (20, 13, 0), (20, 14, 0), (20, 15, 0), (20, 16, 0), (20, 17, 0), (20, 27, 0), (20, 41, 0), (20, 42, 0), (20, 43, 0), (20, 44, 0)] S := KW.rf hK0
  refine jg_sg tl_X12_init 4 (i' := 91) (fun kk => rfl) ?_
  have hlen : ce_L (kS_row S 41 4) 41 2 = 4 := by
    show (if (41 : Nat) = 41 ∧ 2 = ce_C S 41 then 4 else ce_L S 41 2) = 4
    rw [if_pos ⟨rfl, (hK0.1 41).symm⟩]
  refine jg_newa (i' := 92) (t := 41) (MC := 30) (MS := 4126) (j := 2) (n := 4) (nn' := (11, 67)) (c' := lgd [1, 1, 1, 1, 1, 1, 1, 1, 1, 1, 6, 19, 3, 1, 1, 4, 4, 1, 0, 0, 1, 1, 1, 1, 1, 1, 1, 1, 0, 0, 0, 0, 0, 0, 0, 0, 0, 0, 0, 0, 1, 3]) hK rfl rfl (by decide) (by decide) rfl rfl (Nat.le_of_ble_eq_true rfl) rfl (by decide) ⟨Nat.le_of_ble_eq_true rfl, Nat.le_of_ble_eq_true rfl⟩ (by decide) (lgd_set (by decide) (by decide) rfl) (fun hK => ?_)
  refine jg_sg tl_X12_init 4 (i' := 95) (fun kk => rfl) ?_
  refine jg_ist (i' := 96) (t := 41) (e := 0) (j := 2) (n := 4) (x := 0) (v := 104) hK rfl rfl (by decide) (by decide) hlen (by decide) (by decide) (fun hK => ?_)
  refine jg_sg tl_X12_init 4 (i' := 99) (fun kk => rfl) ?_
  refine jg_ist (i' := 100) (t := 41) (e := 1) (j := 2) (n := 4) (x := 1) (v := 111) hK rfl rfl (by decide) (by decide) hlen (by decide) (by decide) (fun hK => ?_)
  refine jg_sg tl_X12_init 4 (i' := 103) (fun kk => rfl) ?_
  refine jg_ist (i' := 104) (t := 41) (e := 2) (j := 2) (n := 4) (x := 2) (v := 117) hK rfl rfl (by decide) (by decide) hlen (by decide) (by decide) (fun hK => ?_)
  refine jg_sg tl_X12_init 4 (i' := 107) (fun kk => rfl) ?_
  refine jg_ist (i' := 108) (t := 41) (e := 3) (j := 2) (n := 4) (x := 3) (v := 114) hK rfl rfl (by decide) (by decide) hlen (by decide) (by decide) (fun hK => ?_)
  refine jg_aast (i' := 109) (t := 40) (e := 2) (j := 0) (v := 2) (n := 12) (t' := 41) (x := 2) (g0 := ce_k0) (l' := [(40, 3, 0), (40, 4, 0), (40, 5, 0), (40, 6, 0), (40, 7, 0), (40, 8, 0), (40, 9, 0), (40, 10, 0), (40, 11, 0), (20, 12, 0), (20, 13, 0), (20, 14, 0), (20, 15, 0), (20, 16, 0), (20, 17, 0), (20, 27, 0), (20, 41, 0), (20, 42, 0), (20, 43, 0), (20, 44, 0)]) hK rfl rfl (by decide) (by decide) rfl rfl rfl (by decide) (by decide +kernel) (fun hK => ?_)
  exact g _ hK hlen (fun e he => by
    match e, he with
    | 0, _ => rfl
    | 1, _ => rfl
    | 2, _ => rfl
    | 3, _ => rfl)
set_option maxRecDepth 20000 in
theorem x12_W3 {S : ce_S} {Q : Option ce_V → ce_S → Prop} (hK0 : KN (lgd [1, 1, 1, 1, 1, 1, 1, 1, 1, 1, 6, 19, 3, 1, 1, 4, 4, 1, 0, 0, 1, 1, 1, 1, 1, 1, 1, 1, 0, 0, 0, 0, 0, 0, 0, 0, 0, 0, 0, 0, 1, 3]) [(40, 3, 0), (40, 4, 0), (40, 5, 0), (40, 6, 0), (40, 7, 0), (40, 8, 0), (40, 9, 0), (40, 10, 0), (40, 11, 0), (20, 12, 0), (20, 13, 0), (20, 14, 0), (20, 15, 0), (20, 16, 0), (20, 17, 0), (20, 27, 0), (20, 41, 0), (20, 42, 0), (20, 43, 0), (20, 44, 0)] S)
    (g : ∀ S1, KW (fun t j => t = 41 ∧ j = 3) S (lgd [1, 1, 1, 1, 1, 1, 1, 1, 1, 1, 6, 19, 3, 1, 1, 4, 4, 1, 0, 0, 1, 1, 1, 1, 1, 1, 1, 1, 0, 0, 0, 0, 0, 0, 0, 0, 0, 0, 0, 0, 1, 4]) [(40, 4, 0), (40, 5, 0), (40, 6, 0), (40, 7, 0), (40, 8, 0), (40, 9, 0), (40, 10, 0), (40, 11, 0), (20, 12, 0), (20, 13, 0), (20, 14, 0), (20, 15, 0), (20, 16, 0), (20, 17, 0), (20, 27, 0), (20, 41, 0), (20, 42, 0), (20, 43, 0), (20, 44, 0)] S1 → ce_L S1 41 3 = 3 → (∀ e, e < 3 → ce_A S1 41 3 e = (m_wd.getD 3 []).getD e 0) → Jg tb_X12_init 126 (12, 70) [some (.inr (.inl (20, 0))), none] [.inr (.inl (40, 0)), .inr (.inl (20, 0))] S1 Q) : Jg tb_X12_init 109 (11, 67) [some (.inr (.inl (20, 0))), none] [.inr (.inl (40, 0)), .inr (.inl (20, 0))] S Q := by
  have hK : KW (fun t j => t = 41 ∧ j = 3) S (lgd [1, 1, 1, 1, 1, 1, 1, 1, 1, 1, 6, 19, 3, 1, 1, 4, 4, 1, 0, 0, 1, 1, 1, 1, 1, 1, 1, 1, 0, 0, 0, 0, 0, 0, 0, 0, 0, 0, 0, 0, 1, 3]) [(40, 3, 0), (40, 4, 0), (40, 5, 0), (40, 6, 0), (40, 7, 0), (40, 8, 0), (40, 9, 0), (40, 10, 0), (40, 11, 0), (20, 12, 0), (20, 13, 0), (20, 14, 0), (20, 15, 0), (20, 16, 0), (20, 17, 0), (20, 27, 0), (20, 41, 0), (20, 42, 0), (20, 43, 0), (20, 44, 0)] S := KW.rf hK0
  refine jg_sg tl_X12_init 4 (i' := 112) (fun kk => rfl) ?_
  have hlen : ce_L (kS_row S 41 3) 41 3 = 3 := by
    show (if (41 : Nat) = 41 ∧ 3 = ce_C S 41 then 3 else ce_L S 41 3) = 3
    rw [if_pos ⟨rfl, (hK0.1 41).symm⟩]
  refine jg_newa (i' := 113) (t := 41) (MC := 30) (MS := 4126) (j := 3) (n := 3) (nn' := (12, 70)) (c' := lgd [1, 1, 1, 1, 1, 1, 1, 1, 1, 1, 6, 19, 3, 1, 1, 4, 4, 1, 0, 0, 1, 1, 1, 1, 1, 1, 1, 1, 0, 0, 0, 0, 0, 0, 0, 0, 0, 0, 0, 0, 1, 4]) hK rfl rfl (by decide) (by decide) rfl rfl (Nat.le_of_ble_eq_true rfl) rfl (by decide) ⟨Nat.le_of_ble_eq_true rfl, Nat.le_of_ble_eq_true rfl⟩ (by decide) (lgd_set (by decide) (by decide) rfl) (fun hK => ?_)
  refine jg_sg tl_X12_init 4 (i' := 116) (fun kk => rfl) ?_
  refine jg_ist (i' := 117) (t := 41) (e := 0) (j := 3) (n := 3) (x := 0) (v := 98) hK rfl rfl (by decide) (by decide) hlen (by decide) (by decide) (fun hK => ?_)
  refine jg_sg tl_X12_init 4 (i' := 120) (fun kk => rfl) ?_
  refine jg_ist (i' := 121) (t := 41) (e := 1) (j := 3) (n := 3) (x := 1) (v := 105) hK rfl rfl (by decide) (by decide) hlen (by decide) (by decide) (fun hK => ?_)
  refine jg_sg tl_X12_init 4 (i' := 124) (fun kk => rfl) ?_
  refine jg_ist (i' := 125) (t := 41) (e := 2) (j := 3) (n := 3) (x := 2) (v := 100) hK rfl rfl (by decide) (by decide) hlen (by decide) (by decide) (fun hK => ?_)
  refine jg_aast (i' := 126) (t := 40) (e := 3) (j := 0) (v := 3) (n := 12) (t' := 41) (x := 3) (g0 := ce_k0) (l' := [(40, 4, 0), (40, 5, 0), (40, 6, 0), (40, 7, 0), (40, 8, 0), (40, 9, 0), (40, 10, 0), (40, 11, 0), (20, 12, 0), (20, 13, 0), (20, 14, 0), (20, 15, 0), (20, 16, 0), (20, 17, 0), (20, 27, 0), (20, 41, 0), (20, 42, 0), (20, 43, 0), (20, 44, 0)]) hK rfl rfl (by decide) (by decide) rfl rfl rfl (by decide) (by decide +kernel) (fun hK => ?_)
  exact g _ hK hlen (fun e he => by
    match e, he with
    | 0, _ => rfl
    | 1, _ => rfl
    | 2, _ => rfl)
set_option maxRecDepth 20000 in
theorem x12_W4 {S : ce_S} {Q : Option ce_V → ce_S → Prop} (hK0 : KN (lgd [1, 1, 1, 1, 1, 1, 1, 1, 1, 1, 6, 19, 3, 1, 1, 4, 4, 1, 0, 0, 1, 1, 1, 1, 1, 1, 1, 1, 0, 0, 0, 0, 0, 0, 0, 0, 0, 0, 0, 0, 1, 4]) [(40, 4, 0), (40, 5, 0), (40, 6, 0), (40, 7, 0), (40, 8, 0), (40, 9, 0), (40, 10, 0), (40, 11, 0), (20, 12, 0), (20, 13, 0), (20, 14, 0), (20, 15, 0), (20, 16, 0), (20, 17, 0), (20, 27, 0), (20, 41, 0), (20, 42, 0), (20, 43, 0), (20, 44, 0)] S)
    (g : ∀ S1, KW (fun t j => t = 41 ∧ j = 4) S (lgd [1, 1, 1, 1, 1, 1, 1, 1, 1, 1, 6, 19, 3, 1, 1, 4, 4, 1, 0, 0, 1, 1, 1, 1, 1, 1, 1, 1, 0, 0, 0, 0, 0, 0, 0, 0, 0, 0, 0, 0, 1, 5]) [(40, 5, 0), (40, 6, 0), (40, 7, 0), (40, 8, 0), (40, 9, 0), (40, 10, 0), (40, 11, 0), (20, 12, 0), (20, 13, 0), (20, 14, 0), (20, 15, 0), (20, 16, 0), (20, 17, 0), (20, 27, 0), (20, 41, 0), (20, 42, 0), (20, 43, 0), (20, 44, 0)] S1 → ce_L S1 41 4 = 4 → (∀ e, e < 4 → ce_A S1 41 4 e = (m_wd.getD 4 []).getD e 0) → Jg tb_X12_init 147 (13, 74) [some (.inr (.inl (20, 0))), none] [.inr (.inl (40, 0)), .inr (.inl (20, 0))] S1 Q) : Jg tb_X12_init 126 (12, 70) [some (.inr (.inl (20, 0))), none] [.inr (.inl (40, 0)), .inr (.inl (20, 0))] S Q := by
  have hK : KW (fun t j => t = 41 ∧ j = 4) S (lgd [1, 1, 1, 1, 1, 1, 1, 1, 1, 1, 6, 19, 3, 1, 1, 4, 4, 1, 0, 0, 1, 1, 1, 1, 1, 1, 1, 1, 0, 0, 0, 0, 0, 0, 0, 0, 0, 0, 0, 0, 1, 4]) [(40, 4, 0), (40, 5, 0), (40, 6, 0), (40, 7, 0), (40, 8, 0), (40, 9, 0), (40, 10, 0), (40, 11, 0), (20, 12, 0), (20, 13, 0), (20, 14, 0), (20, 15, 0), (20, 16, 0), (20, 17, 0), (20, 27, 0), (20, 41, 0), (20, 42, 0), (20, 43, 0), (20, 44, 0)] S := KW.rf hK0
  refine jg_sg tl_X12_init 4 (i' := 129) (fun kk => rfl) ?_
  have hlen : ce_L (kS_row S 41 4) 41 4 = 4 := by
    show (if (41 : Nat) = 41 ∧ 4 = ce_C S 41 then 4 else ce_L S 41 4) = 4
    rw [if_pos ⟨rfl, (hK0.1 41).symm⟩]
  refine jg_newa (i' := 130) (t := 41) (MC := 30) (MS := 4126) (j := 4) (n := 4) (nn' := (13, 74)) (c' := lgd [1, 1, 1, 1, 1, 1, 1, 1, 1, 1, 6, 19, 3, 1, 1, 4, 4, 1, 0, 0, 1, 1, 1, 1, 1, 1, 1, 1, 0, 0, 0, 0, 0, 0, 0, 0, 0, 0, 0, 0, 1, 5]) hK rfl rfl (by decide) (by decide) rfl rfl (Nat.le_of_ble_eq_true rfl) rfl (by decide) ⟨Nat.le_of_ble_eq_true rfl, Nat.le_of_ble_eq_true rfl⟩ (by decide) (lgd_set (by decide) (by decide) rfl) (fun hK => ?_)
  refine jg_sg tl_X12_init 4 (i' := 133) (fun kk => rfl) ?_
  refine jg_ist (i' := 134) (t := 41) (e := 0) (j := 4) (n := 4) (x := 0) (v := 115) hK rfl rfl (by decide) (by decide) hlen (by decide) (by decide) (fun hK => ?_)
  refine jg_sg tl_X12_init 4 (i' := 137) (fun kk => rfl) ?_
  refine jg_ist (i' := 138) (t := 41) (e := 1) (j := 4) (n := 4) (x := 1) (v := 97) hK rfl rfl (by decide) (by decide) hlen (by decide) (by decide) (fun hK => ?_)
  refine jg_sg tl_X12_init 4 (i' := 141) (fun kk => rfl) ?_
  refine jg_ist (i' := 142) (t := 41) (e := 2) (j := 4) (n := 4) (x := 2) (v := 105) hK rfl rfl (by decide) (by decide) hlen (by decide) (by decide) (fun hK => ?_)
  refine jg_sg tl_X12_init 4 (i' := 145) (fun kk => rfl) ?_
  refine jg_ist (i' := 146) (t := 41) (e := 3) (j := 4) (n := 4) (x := 3) (v := 100) hK rfl rfl (by decide) (by decide) hlen (by decide) (by decide) (fun hK => ?_)
  refine jg_aast (i' := 147) (t := 40) (e := 4) (j := 0) (v := 4) (n := 12) (t' := 41) (x := 4) (g0 := ce_k0) (l' := [(40, 5, 0), (40, 6, 0), (40, 7, 0), (40, 8, 0), (40, 9, 0), (40, 10, 0), (40, 11, 0), (20, 12, 0), (20, 13, 0), (20, 14, 0), (20, 15, 0), (20, 16, 0), (20, 17, 0), (20, 27, 0), (20, 41, 0), (20, 42, 0), (20, 43, 0), (20, 44, 0)]) hK rfl rfl (by decide) (by decide) rfl rfl rfl (by decide) (by decide +kernel) (fun hK => ?_)
  exact g _ hK hlen (fun e he => by
    match e, he with
    | 0, _ => rfl
    | 1, _ => rfl
    | 2, _ => rfl
    | 3, _ => rfl)
set_option maxRecDepth 20000 in
theorem x12_W5 {S : ce_S} {Q : Option ce_V → ce_S → Prop} (hK0 : KN (lgd [1, 1, 1, 1, 1, 1, 1, 1, 1, 1, 6, 19, 3, 1, 1, 4, 4, 1, 0, 0, 1, 1, 1, 1, 1, 1, 1, 1, 0, 0, 0, 0, 0, 0, 0, 0, 0, 0, 0, 0, 1, 5]) [(40, 5, 0), (40, 6, 0), (40, 7, 0), (40, 8, 0), (40, 9, 0), (40, 10, 0), (40, 11, 0), (20, 12, 0), (20, 13, 0), (20, 14, 0), (20, 15, 0), (20, 16, 0), (20, 17, 0), (20, 27, 0), (20, 41, 0), (20, 42, 0), (20, 43, 0), (20, 44, 0)] S)
    (g : ∀ S1, KW (fun t j => t = 41 ∧ j = 5) S (lgd [1, 1, 1, 1, 1, 1, 1, 1, 1, 1, 6, 19, 3, 1, 1, 4, 4, 1, 0, 0, 1, 1, 1, 1, 1, 1, 1, 1, 0, 0, 0, 0, 0, 0, 0, 0, 0, 0, 0, 0, 1, 6]) [(40, 6, 0), (40, 7, 0), (40, 8, 0), (40, 9, 0), (40, 10, 0), (40, 11, 0), (20, 12, 0), (20, 13, 0), (20, 14, 0), (20, 15, 0), (20, 16, 0), (20, 17, 0), (20, 27, 0), (20, 41, 0), (20, 42, 0), (20, 43, 0), (20, 44, 0)] S1 → ce_L S1 41 5 = 4 → (∀ e, e < 4 → ce_A S1 41 5 e = (m_wd.getD 5 []).getD e 0) → Jg tb_X12_init 168 (14, 78) [some (.inr (.inl (20, 0))), none] [.inr (.inl (40, 0)), .inr (.inl (20, 0))] S1 Q) : Jg tb_X12_init 147 (13, 74) [some (.inr (.inl (20, 0))), none] [.inr (.inl (40, 0)), .inr (.inl (20, 0))] S Q := by
  have hK : KW (fun t j => t = 41 ∧ j = 5) S (lgd [1, 1, 1, 1, 1, 1, 1, 1, 1, 1, 6, 19, 3, 1, 1, 4, 4, 1, 0, 0, 1, 1, 1, 1, 1, 1, 1, 1, 0, 0, 0, 0, 0, 0, 0, 0, 0, 0, 0, 0, 1, 5]) [(40, 5, 0), (40, 6, 0), (40, 7, 0), (40, 8, 0), (40, 9, 0), (40, 10, 0), (40, 11, 0), (20, 12, 0), (20, 13, 0), (20, 14, 0), (20, 15, 0), (20, 16, 0), (20, 17, 0), (20, 27, 0), (20, 41, 0), (20, 42, 0), (20, 43, 0), (20, 44, 0)] S := KW.rf hK0
  refine jg_sg tl_X12_init 4 (i' := 150) (fun kk => rfl) ?_
  have hlen : ce_L (kS_row S 41 4) 41 5 = 4 := by
    show (if (41 : Nat) = 41 ∧ 5 = ce_C S 41 then 4 else ce_L S 41 5) = 4
    rw [if_pos ⟨rfl, (hK0.1 41).symm⟩]
  refine jg_newa (i' := 151) (t := 41) (MC := 30) (MS := 4126) (j := 5) (n := 4) (nn' := (14, 78)) (c' := lgd [1, 1, 1, 1, 1, 1, 1, 1, 1, 1, 6, 19, 3, 1, 1, 4, 4, 1, 0, 0, 1, 1, 1, 1, 1, 1, 1, 1, 0, 0, 0, 0, 0, 0, 0, 0, 0, 0, 0, 0, 1, 6]) hK rfl rfl (by decide) (by decide) rfl rfl (Nat.le_of_ble_eq_true rfl) rfl (by decide) ⟨Nat.le_of_ble_eq_true rfl, Nat.le_of_ble_eq_true rfl⟩ (by decide) (lgd_set (by decide) (by decide) rfl) (fun hK => ?_)
  refine jg_sg tl_X12_init 4 (i' := 154) (fun kk => rfl) ?_
  refine jg_ist (i' := 155) (t := 41) (e := 0) (j := 5) (n := 4) (x := 0) (v := 99) hK rfl rfl (by decide) (by decide) hlen (by decide) (by decide) (fun hK => ?_)
  refine jg_sg tl_X12_init 4 (i' := 158) (fun kk => rfl) ?_
  refine jg_ist (i' := 159) (t := 41) (e := 1) (j := 5) (n := 4) (x := 1) (v := 117) hK rfl rfl (by decide) (by decide) hlen (by decide) (by decide) (fun hK => ?_)
  refine jg_sg tl_X12_init 4 (i' := 162) (fun kk => rfl) ?_
  refine jg_ist (i' := 163) (t := 41) (e := 2) (j := 5) (n := 4) (x := 2) (v := 112) hK rfl rfl (by decide) (by decide) hlen (by decide) (by decide) (fun hK => ?_)
  refine jg_sg tl_X12_init 4 (i' := 166) (fun kk => rfl) ?_
  refine jg_ist (i' := 167) (t := 41) (e := 3) (j := 5) (n := 4) (x := 3) (v := 115) hK rfl rfl (by decide) (by decide) hlen (by decide) (by decide) (fun hK => ?_)
  refine jg_aast (i' := 168) (t := 40) (e := 5) (j := 0) (v := 5) (n := 12) (t' := 41) (x := 5) (g0 := ce_k0) (l' := [(40, 6, 0), (40, 7, 0), (40, 8, 0), (40, 9, 0), (40, 10, 0), (40, 11, 0), (20, 12, 0), (20, 13, 0), (20, 14, 0), (20, 15, 0), (20, 16, 0), (20, 17, 0), (20, 27, 0), (20, 41, 0), (20, 42, 0), (20, 43, 0), (20, 44, 0)]) hK rfl rfl (by decide) (by decide) rfl rfl rfl (by decide) (by decide +kernel) (fun hK => ?_)
  exact g _ hK hlen (fun e he => by
    match e, he with
    | 0, _ => rfl
    | 1, _ => rfl
    | 2, _ => rfl
    | 3, _ => rfl)
set_option maxRecDepth 20000 in
theorem x12_W6 {S : ce_S} {Q : Option ce_V → ce_S → Prop} (hK0 : KN (lgd [1, 1, 1, 1, 1, 1, 1, 1, 1, 1, 6, 19, 3, 1, 1, 4, 4, 1, 0, 0, 1, 1, 1, 1, 1, 1, 1, 1, 0, 0, 0, 0, 0, 0, 0, 0, 0, 0, 0, 0, 1, 6]) [(40, 6, 0), (40, 7, 0), (40, 8, 0), (40, 9, 0), (40, 10, 0), (40, 11, 0), (20, 12, 0), (20, 13, 0), (20, 14, 0), (20, 15, 0), (20, 16, 0), (20, 17, 0), (20, 27, 0), (20, 41, 0), (20, 42, 0), (20, 43, 0), (20, 44, 0)] S)
    (g : ∀ S1, KW (fun t j => t = 41 ∧ j = 6) S (lgd [1, 1, 1, 1, 1, 1, 1, 1, 1, 1, 6, 19, 3, 1, 1, 4, 4, 1, 0, 0, 1, 1, 1, 1, 1, 1, 1, 1, 0, 0, 0, 0, 0, 0, 0, 0, 0, 0, 0, 0, 1, 7]) [(40, 7, 0), (40, 8, 0), (40, 9, 0), (40, 10, 0), (40, 11, 0), (20, 12, 0), (20, 13, 0), (20, 14, 0), (20, 15, 0), (20, 16, 0), (20, 17, 0), (20, 27, 0), (20, 41, 0), (20, 42, 0), (20, 43, 0), (20, 44, 0)] S1 → ce_L S1 41 6 = 5 → (∀ e, e < 5 → ce_A S1 41 6 e = (m_wd.getD 6 []).getD e 0) → Jg tb_X12_init 193 (15, 83) [some (.inr (.inl (20, 0))), none] [.inr (.inl (40, 0)), .inr (.inl (20, 0))] S1 Q) : Jg tb_X12_init 168 (14, 78) [some (.inr (.inl (20, 0))), none] [.inr (.inl (40, 0)), .inr (.inl (20, 0))] S Q := by
  have hK : KW (fun t j => t = 41 ∧ j = 6) S (lgd [1, 1, 1, 1, 1, 1, 1, 1, 1, 1, 6, 19, 3, 1, 1, 4, 4, 1, 0, 0, 1, 1, 1, 1, 1, 1, 1, 1, 0, 0, 0, 0, 0, 0, 0, 0, 0, 0, 0, 0, 1, 6]) [(40, 6, 0), (40, 7, 0), (40, 8, 0), (40, 9, 0), (40, 10, 0), (40, 11, 0), (20, 12, 0), (20, 13, 0), (20, 14, 0), (20, 15, 0), (20, 16, 0), (20, 17, 0), (20, 27, 0), (20, 41, 0), (20, 42, 0), (20, 43, 0), (20, 44, 0)] S := KW.rf hK0
  refine jg_sg tl_X12_init 4 (i' := 171) (fun kk => rfl) ?_
  have hlen : ce_L (kS_row S 41 5) 41 6 = 5 := by
    show (if (41 : Nat) = 41 ∧ 6 = ce_C S 41 then 5 else ce_L S 41 6) = 5
    rw [if_pos ⟨rfl, (hK0.1 41).symm⟩]
  refine jg_newa (i' := 172) (t := 41) (MC := 30) (MS := 4126) (j := 6) (n := 5) (nn' := (15, 83)) (c' := lgd [1, 1, 1, 1, 1, 1, 1, 1, 1, 1, 6, 19, 3, 1, 1, 4, 4, 1, 0, 0, 1, 1, 1, 1, 1, 1, 1, 1, 0, 0, 0, 0, 0, 0, 0, 0, 0, 0, 0, 0, 1, 7]) hK rfl rfl (by decide) (by decide) rfl rfl (Nat.le_of_ble_eq_true rfl) rfl (by decide) ⟨Nat.le_of_ble_eq_true rfl, Nat.le_of_ble_eq_true rfl⟩ (by decide) (lgd_set (by decide) (by decide) rfl) (fun hK => ?_)
  refine jg_sg tl_X12_init 4 (i' := 175) (fun kk => rfl) ?_
  refine jg_ist (i' := 176) (t := 41) (e := 0) (j := 6) (n := 5) (x := 0) (v := 108) hK rfl rfl (by decide) (by decide) hlen (by decide) (by decide) (fun hK => ?_)
  refine jg_sg tl_X12_init 4 (i' := 179) (fun kk => rfl) ?_
  refine jg_ist (i' := 180) (t := 41) (e := 1) (j := 6) (n := 5) (x := 1) (v := 101) hK rfl rfl (by decide) (by decide) hlen (by decide) (by decide) (fun hK => ?_)
  refine jg_sg tl_X12_init 4 (i' := 183) (fun kk => rfl) ?_
  refine jg_ist (i' := 184) (t := 41) (e := 2) (j := 6) (n := 5) (x := 2) (v := 97) hK rfl rfl (by decide) (by decide) hlen (by decide) (by decide) (fun hK => ?_)
  refine jg_sg tl_X12_init 4 (i' := 187) (fun kk => rfl) ?_
  refine jg_ist (i' := 188) (t := 41) (e := 3) (j := 6) (n := 5) (x := 3) (v := 115) hK rfl rfl (by decide) (by decide) hlen (by decide) (by decide) (fun hK => ?_)
  refine jg_sg tl_X12_init 4 (i' := 191) (fun kk => rfl) ?_
  refine jg_ist (i' := 192) (t := 41) (e := 4) (j := 6) (n := 5) (x := 4) (v := 116) hK rfl rfl (by decide) (by decide) hlen (by decide) (by decide) (fun hK => ?_)
  refine jg_aast (i' := 193) (t := 40) (e := 6) (j := 0) (v := 6) (n := 12) (t' := 41) (x := 6) (g0 := ce_k0) (l' := [(40, 7, 0), (40, 8, 0), (40, 9, 0), (40, 10, 0), (40, 11, 0), (20, 12, 0), (20, 13, 0), (20, 14, 0), (20, 15, 0), (20, 16, 0), (20, 17, 0), (20, 27, 0), (20, 41, 0), (20, 42, 0), (20, 43, 0), (20, 44, 0)]) hK rfl rfl (by decide) (by decide) rfl rfl rfl (by decide) (by decide +kernel) (fun hK => ?_)
  exact g _ hK hlen (fun e he => by
    match e, he with
    | 0, _ => rfl
    | 1, _ => rfl
    | 2, _ => rfl
    | 3, _ => rfl
    | 4, _ => rfl)
set_option maxRecDepth 20000 in
theorem x12_W7 {S : ce_S} {Q : Option ce_V → ce_S → Prop} (hK0 : KN (lgd [1, 1, 1, 1, 1, 1, 1, 1, 1, 1, 6, 19, 3, 1, 1, 4, 4, 1, 0, 0, 1, 1, 1, 1, 1, 1, 1, 1, 0, 0, 0, 0, 0, 0, 0, 0, 0, 0, 0, 0, 1, 7]) [(40, 7, 0), (40, 8, 0), (40, 9, 0), (40, 10, 0), (40, 11, 0), (20, 12, 0), (20, 13, 0), (20, 14, 0), (20, 15, 0), (20, 16, 0), (20, 17, 0), (20, 27, 0), (20, 41, 0), (20, 42, 0), (20, 43, 0), (20, 44, 0)] S)
    (g : ∀ S1, KW (fun t j => t = 41 ∧ j = 7) S (lgd [1, 1, 1, 1, 1, 1, 1, 1, 1, 1, 6, 19, 3, 1, 1, 4, 4, 1, 0, 0, 1, 1, 1, 1, 1, 1, 1, 1, 0, 0, 0, 0, 0, 0, 0, 0, 0, 0, 0, 0, 1, 8]) [(40, 8, 0), (40, 9, 0), (40, 10, 0), (40, 11, 0), (20, 12, 0), (20, 13, 0), (20, 14, 0), (20, 15, 0), (20, 16, 0), (20, 17, 0), (20, 27, 0), (20, 41, 0), (20, 42, 0), (20, 43, 0), (20, 44, 0)] S1 → ce_L S1 41 7 = 5 → (∀ e, e < 5 → ce_A S1 41 7 e = (m_wd.getD 7 []).getD e 0) → Jg tb_X12_init 218 (16, 88) [some (.inr (.inl (20, 0))), none] [.inr (.inl (40, 0)), .inr (.inl (20, 0))] S1 Q) : Jg tb_X12_init 193 (15, 83) [some (.inr (.inl (20, 0))), none] [.inr (.inl (40, 0)), .inr (.inl (20, 0))] S Q := by
  have hK : KW (fun t j => t = 41 ∧ j = 7) S (lgd [1, 1, 1, 1, 1, 1, 1, 1, 1, 1, 6, 19, 3, 1, 1, 4, 4, 1, 0, 0, 1, 1, 1, 1, 1, 1, 1, 1, 0, 0, 0, 0, 0, 0, 0, 0, 0, 0, 0, 0, 1, 7]) [(40, 7, 0), (40, 8, 0), (40, 9, 0), (40, 10, 0), (40, 11, 0), (20, 12, 0), (20, 13, 0), (20, 14, 0), (20, 15, 0), (20, 16, 0), (20, 17, 0), (20, 27, 0), (20, 41, 0), (20, 42, 0), (20, 43, 0), (20, 44, 0)] S := KW.rf hK0
  refine jg_sg tl_X12_init 4 (i' := 196) (fun kk => rfl) ?_
  have hlen : ce_L (kS_row S 41 5) 41 7 = 5 := by
    show (if (41 : Nat) = 41 ∧ 7 = ce_C S 41 then 5 else ce_L S 41 7) = 5
    rw [if_pos ⟨rfl, (hK0.1 41).symm⟩]
  refine jg_newa (i' := 197) (t := 41) (MC := 30) (MS := 4126) (j := 7) (n := 5) (nn' := (16, 88)) (c' := lgd [1, 1, 1, 1, 1, 1, 1, 1, 1, 1, 6, 19, 3, 1, 1, 4, 4, 1, 0, 0, 1, 1, 1, 1, 1, 1, 1, 1, 0, 0, 0, 0, 0, 0, 0, 0, 0, 0, 0, 0, 1, 8]) hK rfl rfl (by decide) (by decide) rfl rfl (Nat.le_of_ble_eq_true rfl) rfl (by decide) ⟨Nat.le_of_ble_eq_true rfl, Nat.le_of_ble_eq_true rfl⟩ (by decide) (lgd_set (by decide) (by decide) rfl) (fun hK => ?_)
  refine jg_sg tl_X12_init 4 (i' := 200) (fun kk => rfl) ?_
  refine jg_ist (i' := 201) (t := 41) (e := 0) (j := 7) (n := 5) (x := 0) (v := 102) hK rfl rfl (by decide) (by decide) hlen (by decide) (by decide) (fun hK => ?_)
  refine jg_sg tl_X12_init 4 (i' := 204) (fun kk => rfl) ?_
  refine jg_ist (i' := 205) (t := 41) (e := 1) (j := 7) (n := 5) (x := 1) (v := 105) hK rfl rfl (by decide) (by decide) hlen (by decide) (by decide) (fun hK => ?_)
  refine jg_sg tl_X12_init 4 (i' := 208) (fun kk => rfl) ?_
  refine jg_ist (i' := 209) (t := 41) (e := 2) (j := 7) (n := 5) (x := 2) (v := 114) hK rfl rfl (by decide) (by decide) hlen (by decide) (by decide) (fun hK => ?_)
  refine jg_sg tl_X12_init 4 (i' := 212) (fun kk => rfl) ?_
  refine jg_ist (i' := 213) (t := 41) (e := 3) (j := 7) (n := 5) (x := 3) (v := 115) hK rfl rfl (by decide) (by decide) hlen (by decide) (by decide) (fun hK => ?_)
  refine jg_sg tl_X12_init 4 (i' := 216) (fun kk => rfl) ?_
  refine jg_ist (i' := 217) (t := 41) (e := 4) (j := 7) (n := 5) (x := 4) (v := 116) hK rfl rfl (by decide) (by decide) hlen (by decide) (by decide) (fun hK => ?_)
  refine jg_aast (i' := 218) (t := 40) (e := 7) (j := 0) (v := 7) (n := 12) (t' := 41) (x := 7) (g0 := ce_k0) (l' := [(40, 8, 0), (40, 9, 0), (40, 10, 0), (40, 11, 0), (20, 12, 0), (20, 13, 0), (20, 14, 0), (20, 15, 0), (20, 16, 0), (20, 17, 0), (20, 27, 0), (20, 41, 0), (20, 42, 0), (20, 43, 0), (20, 44, 0)]) hK rfl rfl (by decide) (by decide) rfl rfl rfl (by decide) (by decide +kernel) (fun hK => ?_)
  exact g _ hK hlen (fun e he => by
    match e, he with
    | 0, _ => rfl
    | 1, _ => rfl
    | 2, _ => rfl
    | 3, _ => rfl
    | 4, _ => rfl)
set_option maxRecDepth 20000 in
theorem x12_W8 {S : ce_S} {Q : Option ce_V → ce_S → Prop} (hK0 : KN (lgd [1, 1, 1, 1, 1, 1, 1, 1, 1, 1, 6, 19, 3, 1, 1, 4, 4, 1, 0, 0, 1, 1, 1, 1, 1, 1, 1, 1, 0, 0, 0, 0, 0, 0, 0, 0, 0, 0, 0, 0, 1, 8]) [(40, 8, 0), (40, 9, 0), (40, 10, 0), (40, 11, 0), (20, 12, 0), (20, 13, 0), (20, 14, 0), (20, 15, 0), (20, 16, 0), (20, 17, 0), (20, 27, 0), (20, 41, 0), (20, 42, 0), (20, 43, 0), (20, 44, 0)] S)
    (g : ∀ S1, KW (fun t j => t = 41 ∧ j = 8) S (lgd [1, 1, 1, 1, 1, 1, 1, 1, 1, 1, 6, 19, 3, 1, 1, 4, 4, 1, 0, 0, 1, 1, 1, 1, 1, 1, 1, 1, 0, 0, 0, 0, 0, 0, 0, 0, 0, 0, 0, 0, 1, 9]) [(40, 9, 0), (40, 10, 0), (40, 11, 0), (20, 12, 0), (20, 13, 0), (20, 14, 0), (20, 15, 0), (20, 16, 0), (20, 17, 0), (20, 27, 0), (20, 41, 0), (20, 42, 0), (20, 43, 0), (20, 44, 0)] S1 → ce_L S1 41 8 = 4 → (∀ e, e < 4 → ce_A S1 41 8 e = (m_wd.getD 8 []).getD e 0) → Jg tb_X12_init 239 (17, 92) [some (.inr (.inl (20, 0))), none] [.inr (.inl (40, 0)), .inr (.inl (20, 0))] S1 Q) : Jg tb_X12_init 218 (16, 88) [some (.inr (.inl (20, 0))), none] [.inr (.inl (40, 0)), .inr (.inl (20, 0))] S Q := by
  have hK : KW (fun t j => t = 41 ∧ j = 8) S (lgd [1, 1, 1, 1, 1, 1, 1, 1, 1, 1, 6, 19, 3, 1, 1, 4, 4, 1, 0, 0, 1, 1, 1, 1, 1, 1, 1, 1, 0, 0, 0, 0, 0, 0, 0, 0, 0, 0, 0, 0, 1, 8]) [(40, 8, 0), (40, 9, 0), (40, 10, 0), (40, 11, 0), (20, 12, 0), (20, 13, 0), (20, 14, 0), (20, 15, 0), (20, 16, 0), (20, 17, 0), (20, 27, 0), (20, 41, 0), (20, 42, 0), (20, 43, 0), (20, 44, 0)] S := KW.rf hK0
  refine jg_sg tl_X12_init 4 (i' := 221) (fun kk => rfl) ?_
  have hlen : ce_L (kS_row S 41 4) 41 8 = 4 := by
    show (if (41 : Nat) = 41 ∧ 8 = ce_C S 41 then 4 else ce_L S 41 8) = 4
    rw [if_pos ⟨rfl, (hK0.1 41).symm⟩]
  refine jg_newa (i' := 222) (t := 41) (MC := 30) (MS := 4126) (j := 8) (n := 4) (nn' := (17, 92)) (c' := lgd [1, 1, 1, 1, 1, 1, 1, 1, 1, 1, 6, 19, 3, 1, 1, 4, 4, 1, 0, 0, 1, 1, 1, 1, 1, 1, 1, 1, 0, 0, 0, 0, 0, 0, 0, 0, 0, 0, 0, 0, 1, 9]) hK rfl rfl (by decide) (by decide) rfl rfl (Nat.le_of_ble_eq_true rfl) rfl (by decide) ⟨Nat.le_of_ble_eq_true rfl, Nat.le_of_ble_eq_true rfl⟩ (by decide) (lgd_set (by decide) (by decide) rfl) (fun hK => ?_)
  refine jg_sg tl_X12_init 4 (i' := 225) (fun kk => rfl) ?_
  refine jg_ist (i' := 226) (t := 41) (e := 0) (j := 8) (n := 4) (x := 0) (v := 112) hK rfl rfl (by decide) (by decide) hlen (by decide) (by decide) (fun hK => ?_)
  refine jg_sg tl_X12_init 4 (i' := 229) (fun kk => rfl) ?_
  refine jg_ist (i' := 230) (t := 41) (e := 1) (j := 8) (n := 4) (x := 1) (v := 117) hK rfl rfl (by decide) (by decide) hlen (by decide) (by decide) (fun hK => ?_)
  refine jg_sg tl_X12_init 4 (i' := 233) (fun kk => rfl) ?_
  refine jg_ist (i' := 234) (t := 41) (e := 2) (j := 8) (n := 4) (x := 2) (v := 108) hK rfl rfl (by decide) (by decide) hlen (by decide) (by decide) (fun hK => ?_)
  refine jg_sg tl_X12_init 4 (i' := 237) (fun kk => rfl) ?_
  refine jg_ist (i' := 238) (t := 41) (e := 3) (j := 8) (n := 4) (x := 3) (v := 108) hK rfl rfl (by decide) (by decide) hlen (by decide) (by decide) (fun hK => ?_)
  refine jg_aast (i' := 239) (t := 40) (e := 8) (j := 0) (v := 8) (n := 12) (t' := 41) (x := 8) (g0 := ce_k0) (l' := [(40, 9, 0), (40, 10, 0), (40, 11, 0), (20, 12, 0), (20, 13, 0), (20, 14, 0), (20, 15, 0), (20, 16, 0), (20, 17, 0), (20, 27, 0), (20, 41, 0), (20, 42, 0), (20, 43, 0), (20, 44, 0)]) hK rfl rfl (by decide) (by decide) rfl rfl rfl (by decide) (by decide +kernel) (fun hK => ?_)
  exact g _ hK hlen (fun e he => by
    match e, he with
    | 0, _ => rfl
    | 1, _ => rfl
    | 2, _ => rfl
    | 3, _ => rfl)
set_option maxRecDepth 20000 in
theorem x12_W9 {S : ce_S} {Q : Option ce_V → ce_S → Prop} (hK0 : KN (lgd [1, 1, 1, 1, 1, 1, 1, 1, 1, 1, 6, 19, 3, 1, 1, 4, 4, 1, 0, 0, 1, 1, 1, 1, 1, 1, 1, 1, 0, 0, 0, 0, 0, 0, 0, 0, 0, 0, 0, 0, 1, 9]) [(40, 9, 0), (40, 10, 0), (40, 11, 0), (20, 12, 0), (20, 13, 0), (20, 14, 0), (20, 15, 0), (20, 16, 0), (20, 17, 0), (20, 27, 0), (20, 41, 0), (20, 42, 0), (20, 43, 0), (20, 44, 0)] S)
    (g : ∀ S1, KW (fun t j => t = 41 ∧ j = 9) S (lgd [1, 1, 1, 1, 1, 1, 1, 1, 1, 1, 6, 19, 3, 1, 1, 4, 4, 1, 0, 0, 1, 1, 1, 1, 1, 1, 1, 1, 0, 0, 0, 0, 0, 0, 0, 0, 0, 0, 0, 0, 1, 10]) [(40, 10, 0), (40, 11, 0), (20, 12, 0), (20, 13, 0), (20, 14, 0), (20, 15, 0), (20, 16, 0), (20, 17, 0), (20, 27, 0), (20, 41, 0), (20, 42, 0), (20, 43, 0), (20, 44, 0)] S1 → ce_L S1 41 9 = 2 → (∀ e, e < 2 → ce_A S1 41 9 e = (m_wd.getD 9 []).getD e 0) → Jg tb_X12_init 252 (18, 94) [some (.inr (.inl (20, 0))), none] [.inr (.inl (40, 0)), .inr (.inl (20, 0))] S1 Q) : Jg tb_X12_init 239 (17, 92) [some (.inr (.inl (20, 0))), none] [.inr (.inl (40, 0)), .inr (.inl (20, 0))] S Q := by
  have hK : KW (fun t j => t = 41 ∧ j = 9) S (lgd [1, 1, 1, 1, 1, 1, 1, 1, 1, 1, 6, 19, 3, 1, 1, 4, 4, 1, 0, 0, 1, 1, 1, 1, 1, 1, 1, 1, 0, 0, 0, 0, 0, 0, 0, 0, 0, 0, 0, 0, 1, 9]) [(40, 9, 0), (40, 10, 0), (40, 11, 0), (20, 12, 0), (20, 13, 0), (20, 14, 0), (20, 15, 0), (20, 16, 0), (20, 17, 0), (20, 27, 0), (20, 41, 0), (20, 42, 0), (20, 43, 0), (20, 44, 0)] S := KW.rf hK0
  refine jg_sg tl_X12_init 4 (i' := 242) (fun kk => rfl) ?_
  have hlen : ce_L (kS_row S 41 2) 41 9 = 2 := by
    show (if (41 : Nat) = 41 ∧ 9 = ce_C S 41 then 2 else ce_L S 41 9) = 2
    rw [if_pos ⟨rfl, (hK0.1 41).symm⟩]
  refine jg_newa (i' := 243) (t := 41) (MC := 30) (MS := 4126) (j := 9) (n := 2) (nn' := (18, 94)) (c' := lgd [1, 1, 1, 1, 1, 1, 1, 1, 1, 1, 6, 19, 3, 1, 1, 4, 4, 1, 0, 0, 1, 1, 1, 1, 1, 1, 1, 1, 0, 0, 0, 0, 0, 0, 0, 0, 0, 0, 0, 0, 1, 10]) hK rfl rfl (by decide) (by decide) rfl rfl (Nat.le_of_ble_eq_true rfl) rfl (by decide) ⟨Nat.le_of_ble_eq_true rfl, Nat.le_of_ble_eq_true rfl⟩ (by decide) (lgd_set (by decide) (by decide) rfl) (fun hK => ?_)
  refine jg_sg tl_X12_init 4 (i' := 246) (fun kk => rfl) ?_
  refine jg_ist (i' := 247) (t := 41) (e := 0) (j := 9) (n := 2) (x := 0) (v := 111) hK rfl rfl (by decide) (by decide) hlen (by decide) (by decide) (fun hK => ?_)
  refine jg_sg tl_X12_init 4 (i' := 250) (fun kk => rfl) ?_
  refine jg_ist (i' := 251) (t := 41) (e := 1) (j := 9) (n := 2) (x := 1) (v := 114) hK rfl rfl (by decide) (by decide) hlen (by decide) (by decide) (fun hK => ?_)
  refine jg_aast (i' := 252) (t := 40) (e := 9) (j := 0) (v := 9) (n := 12) (t' := 41) (x := 9) (g0 := ce_k0) (l' := [(40, 10, 0), (40, 11, 0), (20, 12, 0), (20, 13, 0), (20, 14, 0), (20, 15, 0), (20, 16, 0), (20, 17, 0), (20, 27, 0), (20, 41, 0), (20, 42, 0), (20, 43, 0), (20, 44, 0)]) hK rfl rfl (by decide) (by decide) rfl rfl rfl (by decide) (by decide +kernel) (fun hK => ?_)
  exact g _ hK hlen (fun e he => by
    match e, he with
    | 0, _ => rfl
    | 1, _ => rfl)
set_option maxRecDepth 20000 in
theorem x12_W10 {S : ce_S} {Q : Option ce_V → ce_S → Prop} (hK0 : KN (lgd [1, 1, 1, 1, 1, 1, 1, 1, 1, 1, 6, 19, 3, 1, 1, 4, 4, 1, 0, 0, 1, 1, 1, 1, 1, 1, 1, 1, 0, 0, 0, 0, 0, 0, 0, 0, 0, 0, 0, 0, 1, 10]) [(40, 10, 0), (40, 11, 0), (20, 12, 0), (20, 13, 0), (20, 14, 0), (20, 15, 0), (20, 16, 0), (20, 17, 0), (20, 27, 0), (20, 41, 0), (20, 42, 0), (20, 43, 0), (20, 44, 0)] S)
    (g : ∀ S1, KW (fun t j => t = 41 ∧ j = 10) S (lgd [1, 1, 1, 1, 1, 1, 1, 1, 1, 1, 6, 19, 3, 1, 1, 4, 4, 1, 0, 0, 1, 1, 1, 1, 1, 1, 1, 1, 0, 0, 0, 0, 0, 0, 0, 0, 0, 0, 0, 0, 1, 11]) [(40, 11, 0), (20, 12, 0), (20, 13, 0), (20, 14, 0), (20, 15, 0), (20, 16, 0), (20, 17, 0), (20, 27, 0), (20, 41, 0), (20, 42, 0), (20, 43, 0), (20, 44, 0)] S1 → ce_L S1 41 10 = 3 → (∀ e, e < 3 → ce_A S1 41 10 e = (m_wd.getD 10 []).getD e 0) → Jg tb_X12_init 269 (19, 97) [some (.inr (.inl (20, 0))), none] [.inr (.inl (40, 0)), .inr (.inl (20, 0))] S1 Q) : Jg tb_X12_init 252 (18, 94) [some (.inr (.inl (20, 0))), none] [.inr (.inl (40, 0)), .inr (.inl (20, 0))] S Q := by
  have hK : KW (fun t j => t = 41 ∧ j = 10) S (lgd [1, 1, 1, 1, 1, 1, 1, 1, 1, 1, 6, 19, 3, 1, 1, 4, 4, 1, 0, 0, 1, 1, 1, 1, 1, 1, 1, 1, 0, 0, 0, 0, 0, 0, 0, 0, 0, 0, 0, 0, 1, 10]) [(40, 10, 0), (40, 11, 0), (20, 12, 0), (20, 13, 0), (20, 14, 0), (20, 15, 0), (20, 16, 0), (20, 17, 0), (20, 27, 0), (20, 41, 0), (20, 42, 0), (20, 43, 0), (20, 44, 0)] S := KW.rf hK0
  refine jg_sg tl_X12_init 4 (i' := 255) (fun kk => rfl) ?_
  have hlen : ce_L (kS_row S 41 3) 41 10 = 3 := by
    show (if (41 : Nat) = 41 ∧ 10 = ce_C S 41 then 3 else ce_L S 41 10) = 3
    rw [if_pos ⟨rfl, (hK0.1 41).symm⟩]
  refine jg_newa (i' := 256) (t := 41) (MC := 30) (MS := 4126) (j := 10) (n := 3) (nn' := (19, 97)) (c' := lgd [1, 1, 1, 1, 1, 1, 1, 1, 1, 1, 6, 19, 3, 1, 1, 4, 4, 1, 0, 0, 1, 1, 1, 1, 1, 1, 1, 1, 0, 0, 0, 0, 0, 0, 0, 0, 0, 0, 0, 0, 1, 11]) hK rfl rfl (by decide) (by decide) rfl rfl (Nat.le_of_ble_eq_true rfl) rfl (by decide) ⟨Nat.le_of_ble_eq_true rfl, Nat.le_of_ble_eq_true rfl⟩ (by decide) (lgd_set (by decide) (by decide) rfl) (fun hK => ?_)
  refine jg_sg tl_X12_init 4 (i' := 259) (fun kk => rfl) ?_
  refine jg_ist (i' := 260) (t := 41) (e := 0) (j := 10) (n := 3) (x := 0) (v := 97) hK rfl rfl (by decide) (by decide) hlen (by decide) (by decide) (fun hK => ?_)
  refine jg_sg tl_X12_init 4 (i' := 263) (fun kk => rfl) ?_
  refine jg_ist (i' := 264) (t := 41) (e := 1) (j := 10) (n := 3) (x := 1) (v := 110) hK rfl rfl (by decide) (by decide) hlen (by decide) (by decide) (fun hK => ?_)
  refine jg_sg tl_X12_init 4 (i' := 267) (fun kk => rfl) ?_
  refine jg_ist (i' := 268) (t := 41) (e := 2) (j := 10) (n := 3) (x := 2) (v := 100) hK rfl rfl (by decide) (by decide) hlen (by decide) (by decide) (fun hK => ?_)
  refine jg_aast (i' := 269) (t := 40) (e := 10) (j := 0) (v := 10) (n := 12) (t' := 41) (x := 10) (g0 := ce_k0) (l' := [(40, 11, 0), (20, 12, 0), (20, 13, 0), (20, 14, 0), (20, 15, 0), (20, 16, 0), (20, 17, 0), (20, 27, 0), (20, 41, 0), (20, 42, 0), (20, 43, 0), (20, 44, 0)]) hK rfl rfl (by decide) (by decide) rfl rfl rfl (by decide) (by decide +kernel) (fun hK => ?_)
  exact g _ hK hlen (fun e he => by
    match e, he with
    | 0, _ => rfl
    | 1, _ => rfl
    | 2, _ => rfl)
set_option maxRecDepth 20000 in
theorem x12_W11 {S : ce_S} {Q : Option ce_V → ce_S → Prop} (hK0 : KN (lgd [1, 1, 1, 1, 1, 1, 1, 1, 1, 1, 6, 19, 3, 1, 1, 4, 4, 1, 0, 0, 1, 1, 1, 1, 1, 1, 1, 1, 0, 0, 0, 0, 0, 0, 0, 0, 0, 0, 0, 0, 1, 11]) [(40, 11, 0), (20, 12, 0), (20, 13, 0), (20, 14, 0), (20, 15, 0), (20, 16, 0), (20, 17, 0), (20, 27, 0), (20, 41, 0), (20, 42, 0), (20, 43, 0), (20, 44, 0)] S)
    (g : ∀ S1, KW (fun t j => t = 41 ∧ j = 11) S (lgd [1, 1, 1, 1, 1, 1, 1, 1, 1, 1, 6, 19, 3, 1, 1, 4, 4, 1, 0, 0, 1, 1, 1, 1, 1, 1, 1, 1, 0, 0, 0, 0, 0, 0, 0, 0, 0, 0, 0, 0, 1, 12]) [(20, 12, 0), (20, 13, 0), (20, 14, 0), (20, 15, 0), (20, 16, 0), (20, 17, 0), (20, 27, 0), (20, 41, 0), (20, 42, 0), (20, 43, 0), (20, 44, 0)] S1 → ce_L S1 41 11 = 3 → (∀ e, e < 3 → ce_A S1 41 11 e = (m_wd.getD 11 []).getD e 0) → Jg tb_X12_init 286 (20, 100) [some (.inr (.inl (20, 0))), none] [.inr (.inl (40, 0)), .inr (.inl (20, 0))] S1 Q) : Jg tb_X12_init 269 (19, 97) [some (.inr (.inl (20, 0))), none] [.inr (.inl (40, 0)), .inr (.inl (20, 0))] S Q := by
  have hK : KW (fun t j => t = 41 ∧ j = 11) S (lgd [1, 1, 1, 1, 1, 1, 1, 1, 1, 1, 6, 19, 3, 1, 1, 4, 4, 1, 0, 0, 1, 1, 1, 1, 1, 1, 1, 1, 0, 0, 0, 0, 0, 0, 0, 0, 0, 0, 0, 0, 1, 11]) [(40, 11, 0), (20, 12, 0), (20, 13, 0), (20, 14, 0), (20, 15, 0), (20, 16, 0), (20, 17, 0), (20, 27, 0), (20, 41, 0), (20, 42, 0), (20, 43, 0), (20, 44, 0)] S := KW.rf hK0
  refine jg_sg tl_X12_init 4 (i' := 272) (fun kk => rfl) ?_
  have hlen : ce_L (kS_row S 41 3) 41 11 = 3 := by
    show (if (41 : Nat) = 41 ∧ 11 = ce_C S 41 then 3 else ce_L S 41 11) = 3
    rw [if_pos ⟨rfl, (hK0.1 41).symm⟩]
  refine jg_newa (i' := 273) (t := 41) (MC := 30) (MS := 4126) (j := 11) (n := 3) (nn' := (20, 100)) (c' := lgd [1, 1, 1, 1, 1, 1, 1, 1, 1, 1, 6, 19, 3, 1, 1, 4, 4, 1, 0, 0, 1, 1, 1, 1, 1, 1, 1, 1, 0, 0, 0, 0, 0, 0, 0, 0, 0, 0, 0, 0, 1, 12]) hK rfl rfl (by decide) (by decide) rfl rfl (Nat.le_of_ble_eq_true rfl) rfl (by decide) ⟨Nat.le_of_ble_eq_true rfl, Nat.le_of_ble_eq_true rfl⟩ (by decide) (lgd_set (by decide) (by decide) rfl) (fun hK => ?_)
  refine jg_sg tl_X12_init 4 (i' := 276) (fun kk => rfl) ?_
  refine jg_ist (i' := 277) (t := 41) (e := 0) (j := 11) (n := 3) (x := 0) (v := 110) hK rfl rfl (by decide) (by decide) hlen (by decide) (by decide) (fun hK => ?_)
  refine jg_sg tl_X12_init 4 (i' := 280) (fun kk => rfl) ?_
  refine jg_ist (i' := 281) (t := 41) (e := 1) (j := 11) (n := 3) (x := 1) (v := 111) hK rfl rfl (by decide) (by decide) hlen (by decide) (by decide) (fun hK => ?_)
  refine jg_sg tl_X12_init 4 (i' := 284) (fun kk => rfl) ?_
  refine jg_ist (i' := 285) (t := 41) (e := 2) (j := 11) (n := 3) (x := 2) (v := 116) hK rfl rfl (by decide) (by decide) hlen (by decide) (by decide) (fun hK => ?_)
  refine jg_aast (i' := 286) (t := 40) (e := 11) (j := 0) (v := 11) (n := 12) (t' := 41) (x := 11) (g0 := ce_k0) (l' := [(20, 12, 0), (20, 13, 0), (20, 14, 0), (20, 15, 0), (20, 16, 0), (20, 17, 0), (20, 27, 0), (20, 41, 0), (20, 42, 0), (20, 43, 0), (20, 44, 0)]) hK rfl rfl (by decide) (by decide) rfl rfl rfl (by decide) (by decide +kernel) (fun hK => ?_)
  exact g _ hK hlen (fun e he => by
    match e, he with
    | 0, _ => rfl
    | 1, _ => rfl
    | 2, _ => rfl)
