/-! the small constructors -/
def lgd (cl : List Nat) (t : Nat) : Nat := if t = 61 ∨ t = 62 then 13 else cl.getD t 0
theorem lgd_set {cl cl' : List Nat} {t v : Nat} (h : t < cl.length) (h60 : t < 60) (e : cl.set t v = cl') : ∀ t', kcv (lgd cl) t v t' = lgd cl' t' := by
  subst e
  intro t'
  unfold kcv lgd
  by_cases q : t' = t
  · subst q
    rw [if_pos rfl, if_neg (by omega), List.getD_eq_getElem?_getD, List.getElem?_set_self h]
    rfl
  · rw [if_neg q]
    by_cases z : t' = 61 ∨ t' = 62
    · rw [if_pos z, if_pos z]
    · rw [if_neg z, if_neg z, List.getD_eq_getElem?_getD, List.getD_eq_getElem?_getD, List.getElem?_set_ne (Ne.symm q)]
theorem fV_jgE {tb : List ce_Op} {nL : Nat} {t : Option Nat} {a : List ce_V} {S T : ce_S} (hT : ce_TL tb) (hg : ce_gd t nL a) (h : Jg tb 0 (0, 0) (ce_ls nL a) [] S (fun x S' => x = none ∧ S' = T)) : ce_fV tb nL t a S = some T := by
  obtain ⟨S', h1, h2⟩ := fV_jg hT hg h
  rw [← h2]; exact h1
theorem f_x3 (j : Nat) (S : ce_S) : F_X3_init [.inr (.inl (10, j))] S = some S := by
  refine fV_jgE tl_X3_init (gd_r rfl rfl) ?_
  refine jg_sg tl_X3_init 2 (i' := 1) (fun kk => rfl) ?_
  refine jg_kinit (i' := 2) rfl rfl (Nat.zero_le _) ?_
  exact jg_end (x := none) (fun k => rfl) ⟨rfl, rfl⟩
theorem f_x2 (j : Nat) (S : ce_S) : F_X2_init [.inr (.inl (10, j))] S = some S := by
  refine fV_jgE tl_X2_init (gd_r rfl rfl) ?_
  refine jg_sg tl_X2_init 2 (i' := 1) (fun kk => rfl) ?_
  refine jg_cv (i' := 2) (n := 1) (mc := 0) (ms := 0) (MC := 0) (MS := 0) (nn' := (0, 0)) (F := F_X3_init) (a := [.inr (.inl (10, j))]) (rest := []) rfl rfl rfl rfl rfl (f_x3 j S) ⟨Nat.le_refl _, Nat.le_refl _, Nat.zero_le _, Nat.le_refl _⟩ ?_
  exact jg_end (x := none) (fun k => rfl) ⟨rfl, rfl⟩
theorem f_x8 (j : Nat) (S : ce_S) : F_X8_init [.inr (.inl (10, j))] S = some S := by
  refine fV_jgE tl_X8_init (gd_r rfl rfl) ?_
  refine jg_sg tl_X8_init 2 (i' := 1) (fun kk => rfl) ?_
  refine jg_cv (i' := 2) (n := 1) (mc := 0) (ms := 0) (MC := 0) (MS := 0) (nn' := (0, 0)) (F := F_X3_init) (a := [.inr (.inl (10, j))]) (rest := []) rfl rfl rfl rfl rfl (f_x3 j S) ⟨Nat.le_refl _, Nat.le_refl _, Nat.zero_le _, Nat.le_refl _⟩ ?_
  exact jg_end (x := none) (fun k => rfl) ⟨rfl, rfl⟩
theorem f_x7 (j : Nat) (S : ce_S) : F_X7_init [.inr (.inl (10, j))] S = some S := by
  refine fV_jgE tl_X7_init (gd_r rfl rfl) ?_
  refine jg_sg tl_X7_init 2 (i' := 1) (fun kk => rfl) ?_
  refine jg_cv (i' := 2) (n := 1) (mc := 0) (ms := 0) (MC := 0) (MS := 0) (nn' := (0, 0)) (F := F_X8_init) (a := [.inr (.inl (10, j))]) (rest := []) rfl rfl rfl rfl rfl (f_x8 j S) ⟨Nat.le_refl _, Nat.le_refl _, Nat.zero_le _, Nat.le_refl _⟩ ?_
  exact jg_end (x := none) (fun k => rfl) ⟨rfl, rfl⟩
theorem f_x0 (j : Nat) (S : ce_S) : F_X0_init [.inr (.inl (10, j))] S = some S := by
  refine fV_jgE tl_X0_init (gd_r rfl rfl) ?_
  refine jg_sg tl_X0_init 2 (i' := 1) (fun kk => rfl) ?_
  refine jg_cv (i' := 2) (n := 1) (mc := 0) (ms := 0) (MC := 0) (MS := 0) (nn' := (0, 0)) (F := F_X2_init) (a := [.inr (.inl (10, j))]) (rest := []) rfl rfl rfl rfl rfl (f_x2 j S) ⟨Nat.le_refl _, Nat.le_refl _, Nat.zero_le _, Nat.le_refl _⟩ ?_
  exact jg_end (x := none) (fun k => rfl) ⟨rfl, rfl⟩
theorem f_x1 (j : Nat) (S : ce_S) : F_X1_init [.inr (.inl (10, j))] S = some S := by
  refine fV_jgE tl_X1_init (gd_r rfl rfl) ?_
  refine jg_sg tl_X1_init 2 (i' := 1) (fun kk => rfl) ?_
  refine jg_cv (i' := 2) (n := 1) (mc := 0) (ms := 0) (MC := 0) (MS := 0) (nn' := (0, 0)) (F := F_X2_init) (a := [.inr (.inl (10, j))]) (rest := []) rfl rfl rfl rfl rfl (f_x2 j S) ⟨Nat.le_refl _, Nat.le_refl _, Nat.zero_le _, Nat.le_refl _⟩ ?_
  exact jg_end (x := none) (fun k => rfl) ⟨rfl, rfl⟩
set_option maxRecDepth 20000 in
theorem x5_init {W : Nat → Nat → Prop} {S0 : ce_S} {c : Nat → Nat} {l l' : List (Nat × Nat × Nat)} {S : ce_S} {j m : Nat} (hK : KW W S0 c l S) (w : W 11 j) (hl : ∀ q ∈ l, q ≠ (11, 0, j) → q ∈ l') : ∃ S', F_X5_init [.inr (.inl (11, j)), .inr (.inl (10, m))] S = some S' ∧ KW W S0 c l' S' := by
  refine fV_jg tl_X5_init (gd_r rfl rfl) ?_
  refine jg_sg tl_X5_init 2 (i' := 1) (fun kk => rfl) ?_
  refine jg_kinit (i' := 2) rfl rfl (Nat.zero_le _) ?_
  refine jg_sg tl_X5_init 3 (i' := 4) (fun kk => rfl) ?_
  refine jg_putI (i' := 5) (t := 11) (f := 1) (j := j) (x := 0) hK rfl rfl w (fun hK => ?_)
  refine jg_sg tl_X5_init 3 (i' := 7) (fun kk => rfl) ?_
  refine jg_putI (i' := 8) (t := 11) (f := 2) (j := j) (x := 0) hK rfl rfl w (fun hK => ?_)
  refine jg_sg tl_X5_init 3 (i' := 10) (fun kk => rfl) ?_
  refine jg_putI (i' := 11) (t := 11) (f := 3) (j := j) (x := 0) hK rfl rfl w (fun hK => ?_)
  refine jg_sg tl_X5_init 3 (i' := 13) (fun kk => rfl) ?_
  refine jg_putI (i' := 14) (t := 11) (f := 4) (j := j) (x := 0) hK rfl rfl w (fun hK => ?_)
  refine jg_sg tl_X5_init 3 (i' := 16) (fun kk => rfl) ?_
  refine jg_putI (i' := 17) (t := 11) (f := 5) (j := j) (x := 0) hK rfl rfl w (fun hK => ?_)
  refine jg_sg tl_X5_init 3 (i' := 19) (fun kk => rfl) ?_
  refine jg_putI (i' := 20) (t := 11) (f := 6) (j := j) (x := 0) hK rfl rfl w (fun hK => ?_)
  refine jg_sg tl_X5_init 3 (i' := 22) (fun kk => rfl) ?_
  refine jg_putI (i' := 23) (t := 11) (f := 7) (j := j) (x := (-1)) hK rfl rfl w (fun hK => ?_)
  refine jg_sg tl_X5_init 3 (i' := 25) (fun kk => rfl) ?_
  refine jg_putM (i' := 26) (t := 11) (f := 0) (t' := 10) (j := j) (r := m) hK rfl rfl w (by decide) hl (fun hK => ?_)
  exact jg_end (x := none) (fun k => rfl) ⟨rfl, hK⟩
theorem r_I_putM (S : ce_S) (t f j v : Nat) : ce_I (kS_putM S t f j v) = ce_I S := rfl
set_option maxRecDepth 20000 in
theorem x4_init {W : Nat → Nat → Prop} {S0 : ce_S} {c : Nat → Nat} {l l' : List (Nat × Nat × Nat)} {S : ce_S} {j m : Nat} (hK : KW W S0 c l S) (w : W 12 j) (hl : ∀ q ∈ l, q ≠ (12, 4, j) → q ∈ l') : ∃ S', F_X4_init [.inr (.inl (12, j)), .inr (.inl (13, m))] S = some S' ∧ KW W S0 c l' S' ∧ ce_I S' 12 0 j = 4 ∧ ce_I S' 12 1 j = 12 ∧ ce_I S' 12 2 j = 250 ∧ ce_I S' 12 3 j = 0 ∧ ce_R S' 12 4 j = m := by
  refine fV_jg tl_X4_init (gd_r rfl rfl) ?_
  refine jg_sg tl_X4_init 2 (i' := 1) (fun kk => rfl) ?_
  refine jg_kinit (i' := 2) rfl rfl (Nat.zero_le _) ?_
  refine jg_sg tl_X4_init 3 (i' := 4) (fun kk => rfl) ?_
  refine jg_putI (i' := 5) (t := 12) (f := 0) (j := j) (x := 4) hK rfl rfl w (fun hK => ?_)
  refine jg_sg tl_X4_init 3 (i' := 7) (fun kk => rfl) ?_
  refine jg_putI (i' := 8) (t := 12) (f := 1) (j := j) (x := 12) hK rfl rfl w (fun hK => ?_)
  refine jg_sg tl_X4_init 3 (i' := 10) (fun kk => rfl) ?_
  refine jg_putI (i' := 11) (t := 12) (f := 2) (j := j) (x := 250) hK rfl rfl w (fun hK => ?_)
  refine jg_sg tl_X4_init 3 (i' := 13) (fun kk => rfl) ?_
  refine jg_putI (i' := 14) (t := 12) (f := 3) (j := j) (x := 0) hK rfl rfl w (fun hK => ?_)
  refine jg_sg tl_X4_init 3 (i' := 16) (fun kk => rfl) ?_
  refine jg_putM (i' := 17) (t := 12) (f := 4) (t' := 13) (j := j) (r := m) hK rfl rfl w (by decide) hl (fun hK => ?_)
  refine jg_end (x := none) (fun k => rfl) ⟨rfl, hK, ?_, ?_, ?_, ?_, ?_⟩
  · rw [r_I_putM, r_I_sI, if_pos rfl, if_neg (by decide), r_I_sI, if_pos rfl, if_neg (by decide), r_I_sI, if_pos rfl, if_neg (by decide), r_I_sI, if_pos rfl, if_pos rfl, if_pos rfl]
  · rw [r_I_putM, r_I_sI, if_pos rfl, if_neg (by decide), r_I_sI, if_pos rfl, if_neg (by decide), r_I_sI, if_pos rfl, if_pos rfl, if_pos rfl]
  · rw [r_I_putM, r_I_sI, if_pos rfl, if_neg (by decide), r_I_sI, if_pos rfl, if_pos rfl, if_pos rfl]
  · rw [r_I_putM, r_I_sI, if_pos rfl, if_pos rfl, if_pos rfl]
  · unfold kS_putM
    rw [r_R_sR, if_neg (by decide), r_R_sR, if_pos rfl, if_pos rfl, if_pos rfl]
set_option maxRecDepth 20000 in
theorem x6_init {W : Nat → Nat → Prop} {S0 : ce_S} {c c' : Nat → Nat} {l l' : List (Nat × Nat × Nat)} {S : ce_S} {j : Nat} (hK : KW W S0 c l S) (w : W 15 j) (w16 : W 16 j) (h16 : c 16 = j) (hc : ∀ t', kcv c 16 (j + 1) t' = c' t') (hl : ∀ q ∈ l, q ≠ (15, 0, j) → q ∈ l') : ∃ S', F_X6_init [.inr (.inl (15, j))] S = some S' ∧ KW W S0 c' l' S' ∧ ce_I S' 15 1 j = -1 ∧ ce_I S' 15 2 j = 0 := by
  refine fV_jg tl_X6_init (gd_r rfl rfl) ?_
  refine jg_sg tl_X6_init 2 (i' := 1) (fun kk => rfl) ?_
  refine jg_kinit (i' := 2) rfl rfl (Nat.zero_le _) ?_
  refine jg_sg tl_X6_init 3 (i' := 4) (fun kk => rfl) ?_
  refine jg_newa (i' := 5) (t := 16) (MC := 1) (MS := 40) (j := j) (n := 40) (nn' := (1, 40)) (c' := c') hK rfl rfl rfl (by decide) rfl h16 (by decide) rfl (by decide) ⟨Nat.le_refl _, Nat.le_refl _⟩ w16 hc (fun hK => ?_)
  refine jg_putS (i' := 6) (t := 15) (f := 0) (t' := 16) (g0 := ce_k0) (j := j) (r := j) hK rfl rfl rfl hl (fun hK => ?_)
  refine jg_sg tl_X6_init 3 (i' := 8) (fun kk => rfl) ?_
  refine jg_putI (i' := 9) (t := 15) (f := 1) (j := j) (x := (-1)) hK rfl rfl w (fun hK => ?_)
  refine jg_sg tl_X6_init 3 (i' := 11) (fun kk => rfl) ?_
  refine jg_putI (i' := 12) (t := 15) (f := 2) (j := j) (x := 0) hK rfl rfl w (fun hK => ?_)
  refine jg_end (x := none) (fun k => rfl) ⟨rfl, hK, ?_, ?_⟩
  · rw [r_I_sI, if_pos rfl, if_neg (by decide), r_I_sI, if_pos rfl, if_pos rfl, if_pos rfl]
  · rw [r_I_sI, if_pos rfl, if_pos rfl, if_pos rfl]
set_option maxRecDepth 20000 in
theorem x9_init {W : Nat → Nat → Prop} {S0 : ce_S} {c c1 c' : Nat → Nat} {l l1 l' : List (Nat × Nat × Nat)} {S : ce_S} (hK : KW W S0 c l S) (w : W 7 0) (w8 : W 8 0) (w9 : W 9 0) (h8 : c 8 = 0) (h9 : c1 9 = 0) (hc1 : ∀ t', kcv c 8 1 t' = c1 t') (hc : ∀ t', kcv c1 9 1 t' = c' t') (hl1 : ∀ q ∈ l, q ≠ (7, 1, 0) → q ∈ l1) (hl : ∀ q ∈ l1, q ≠ (7, 2, 0) → q ∈ l') : ∃ S', F_X9_init [.inr (.inl (7, 0))] S = some S' ∧ KW W S0 c' l' S' ∧ ce_I S' 7 0 0 = 0 := by
  refine fV_jg tl_X9_init (gd_r rfl rfl) ?_
  refine jg_sg tl_X9_init 2 (i' := 1) (fun kk => rfl) ?_
  refine jg_kinit (i' := 2) rfl rfl (Nat.zero_le _) ?_
  refine jg_sg tl_X9_init 3 (i' := 4) (fun kk => rfl) ?_
  refine jg_putI (i' := 5) (t := 7) (f := 0) (j := 0) (x := 0) hK rfl rfl w (fun hK => ?_)
  refine jg_sg tl_X9_init 3 (i' := 7) (fun kk => rfl) ?_
  refine jg_newa (i' := 8) (t := 8) (MC := 2) (MS := 320) (j := 0) (n := 160) (nn' := (1, 160)) (c' := c1) hK rfl rfl rfl (by decide) rfl h8 (by decide) rfl (by decide) ⟨Nat.le_of_ble_eq_true rfl, Nat.le_of_ble_eq_true rfl⟩ w8 hc1 (fun hK => ?_)
  refine jg_putS (i' := 9) (t := 7) (f := 1) (t' := 8) (g0 := fun _ => 0) (j := 0) (r := 0) hK rfl rfl rfl hl1 (fun hK => ?_)
  refine jg_sg tl_X9_init 3 (i' := 11) (fun kk => rfl) ?_
  refine jg_newa (i' := 12) (t := 9) (MC := 2) (MS := 320) (j := 0) (n := 160) (nn' := (2, 320)) (c' := c') hK rfl rfl rfl (by decide) rfl h9 (by decide) rfl (by decide) ⟨Nat.le_of_ble_eq_true rfl, Nat.le_of_ble_eq_true rfl⟩ w9 hc (fun hK => ?_)
  refine jg_putS (i' := 13) (t := 7) (f := 2) (t' := 9) (g0 := fun _ => 0) (j := 0) (r := 0) hK rfl rfl rfl hl (fun hK => ?_)
  refine jg_sg tl_X9_init 3 (i' := 15) (fun kk => rfl) ?_
  refine jg_putI (i' := 16) (t := 7) (f := 3) (j := 0) (x := 0) hK rfl rfl w (fun hK => ?_)
  refine jg_sg tl_X9_init 3 (i' := 18) (fun kk => rfl) ?_
  refine jg_putI (i' := 19) (t := 7) (f := 4) (j := 0) (x := 0) hK rfl rfl w (fun hK => ?_)
  refine jg_sg tl_X9_init 3 (i' := 21) (fun kk => rfl) ?_
  refine jg_putI (i' := 22) (t := 7) (f := 5) (j := 0) (x := 0) hK rfl rfl w (fun hK => ?_)
  refine jg_sg tl_X9_init 3 (i' := 24) (fun kk => rfl) ?_
  refine jg_putI (i' := 25) (t := 7) (f := 6) (j := 0) (x := 0) hK rfl rfl w (fun hK => ?_)
  refine jg_sg tl_X9_init 3 (i' := 27) (fun kk => rfl) ?_
  refine jg_putI (i' := 28) (t := 7) (f := 7) (j := 0) (x := 0) hK rfl rfl w (fun hK => ?_)
  refine jg_sg tl_X9_init 3 (i' := 30) (fun kk => rfl) ?_
  refine jg_putI (i' := 31) (t := 7) (f := 8) (j := 0) (x := 0) hK rfl rfl w (fun hK => ?_)
  refine jg_sg tl_X9_init 3 (i' := 33) (fun kk => rfl) ?_
  refine jg_putI (i' := 34) (t := 7) (f := 9) (j := 0) (x := 0) hK rfl rfl w (fun hK => ?_)
  refine jg_sg tl_X9_init 3 (i' := 36) (fun kk => rfl) ?_
  refine jg_putI (i' := 37) (t := 7) (f := 10) (j := 0) (x := (-1)) hK rfl rfl w (fun hK => ?_)
  exact jg_end (x := none) (fun k => rfl) ⟨rfl, hK, rfl⟩
