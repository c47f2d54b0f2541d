/-! the kinds -/
theorem f_X3_steps (j : Nat) (a b c d e : Int32) (S : ce_S) : F_X3_steps [.inr (.inl (10, j)), .inl a, .inl b, .inl c, .inl d, .inl e] S = some (sp_steps 0 a b c d e, S) := by
  refine fI_by tl_X3_steps (gd_r rfl rfl) (fun kk => sg_X3_steps_0 j a b c d e S kk) ?_
  simp only [q_add_eq, q_sub_eq, q_mul_eq, q_and_eq, q_div_eq, q_rem_eq, q_ushr_eq, q_neg_eq, q_i2b_eq, q_i2s_eq, sp_steps]
theorem f_X2_steps (j : Nat) (a b c d e : Int32) (S : ce_S) : F_X2_steps [.inr (.inl (10, j)), .inl a, .inl b, .inl c, .inl d, .inl e] S = some (sp_steps 1 a b c d e, S) := by
  refine fI_by tl_X2_steps (gd_r rfl rfl) (fun kk => sg_X2_steps_0 j a b c d e S kk) ?_
  simp only [q_add_eq, q_sub_eq, q_mul_eq, q_and_eq, q_div_eq, q_rem_eq, q_ushr_eq, q_neg_eq, q_i2b_eq, q_i2s_eq, sp_steps, f_X3_steps, Option.bind_some]
theorem f_X8_steps (j : Nat) (a b c d e : Int32) (S : ce_S) : F_X8_steps [.inr (.inl (10, j)), .inl a, .inl b, .inl c, .inl d, .inl e] S = some (sp_steps 2 a b c d e, S) := by
  refine fI_by tl_X8_steps (gd_r rfl rfl) (fun kk => sg_X8_steps_0 j a b c d e S kk) ?_
  simp only [q_add_eq, q_sub_eq, q_mul_eq, q_and_eq, q_div_eq, q_rem_eq, q_ushr_eq, q_neg_eq, q_i2b_eq, q_i2s_eq, sp_steps, f_X3_steps, Option.bind_some]
theorem f_X7_steps (j : Nat) (a b c d e : Int32) (S : ce_S) : F_X7_steps [.inr (.inl (10, j)), .inl a, .inl b, .inl c, .inl d, .inl e] S = some (sp_steps 3 a b c d e, S) := by
  refine fI_by tl_X7_steps (gd_r rfl rfl) (fun kk => sg_X7_steps_0 j a b c d e S kk) ?_
  simp only [sp_steps]
theorem f_X0_steps (j : Nat) (a b c d e : Int32) (S : ce_S) : F_X0_steps [.inr (.inl (10, j)), .inl a, .inl b, .inl c, .inl d, .inl e] S = some (sp_steps 4 a b c d e, S) := by
  refine fI_by tl_X0_steps (gd_r rfl rfl) (fun kk => sg_X0_steps_0 j a b c d e S kk) ?_
  simp only [q_add_eq, q_sub_eq, q_mul_eq, q_and_eq, q_div_eq, q_rem_eq, q_ushr_eq, q_neg_eq, q_i2b_eq, q_i2s_eq, sp_steps, f_X2_steps, Option.bind_some]
  by_cases h : c = 3
  · simp only [if_pos h]
  · simp only [if_neg h]
theorem f_X1_steps (j : Nat) (a b c d e : Int32) (S : ce_S) : F_X1_steps [.inr (.inl (10, j)), .inl a, .inl b, .inl c, .inl d, .inl e] S = some (sp_steps 5 a b c d e, S) := by
  refine fI_by tl_X1_steps (gd_r rfl rfl) (fun kk => sg_X1_steps_0 j a b c d e S kk) ?_
  simp only [q_add_eq, q_sub_eq, q_mul_eq, q_and_eq, q_div_eq, q_rem_eq, q_ushr_eq, q_neg_eq, q_i2b_eq, q_i2s_eq, sp_steps, f_X2_steps, Option.bind_some]
theorem f_steps (j : Nat) (a b c d e : Int32) (S : ce_S) : F_kind_steps [.inr (.inl (10, j)), .inl a, .inl b, .inl c, .inl d, .inl e] S = some (sp_steps j a b c d e, S) := by
  match j with
  | 0 => exact f_X3_steps 0 a b c d e S
  | 1 => exact f_X2_steps 1 a b c d e S
  | 2 => exact f_X8_steps 2 a b c d e S
  | 3 => exact f_X7_steps 3 a b c d e S
  | 4 => exact f_X0_steps 4 a b c d e S
  | j + 5 => exact f_X1_steps (j + 5) a b c d e S
theorem b_and (p q : Prop) [Decidable p] [Decidable q] : (decide p && decide q) = true ↔ p ∧ q := by simp
theorem f_X3_takes (j : Nat) (a b c d e : Int32) (S : ce_S) : F_X3_takes [.inr (.inl (10, j)), .inl a, .inl b, .inl c, .inl d, .inl e] S = some (sp_b (sp_takes 0 a b c d e), S) := by
  refine fI_by tl_X3_takes (gd_r rfl rfl) (fun kk => sg_X3_takes_0 j a b c d e S kk) ?_
  simp only [sp_takes, sp_b]
  by_cases h : a < d
  · have h' : ¬ d ≤ a := by rw [i_lt] at h; rw [i_le]; omega
    simp only [if_pos h, decide_eq_false h', Bool.false_and]; rfl
  · have h' : d ≤ a := by rw [i_lt] at h; rw [i_le]; omega
    simp only [if_neg h, decide_eq_true h', Bool.true_and]
    by_cases g : a < e
    · have g' : ¬ e ≤ a := by rw [i_lt] at g; rw [i_le]; omega
      simp only [if_pos g, decide_eq_false g']; rfl
    · have g' : e ≤ a := by rw [i_lt] at g; rw [i_le]; omega
      simp only [if_neg g, decide_eq_true g']; rfl
theorem f_X7_takes (j : Nat) (a b c d e : Int32) (S : ce_S) : F_X7_takes [.inr (.inl (10, j)), .inl a, .inl b, .inl c, .inl d, .inl e] S = some (sp_b (sp_takes 3 a b c d e), S) := by
  refine fI_by tl_X7_takes (gd_r rfl rfl) (fun kk => sg_X7_takes_0 j a b c d e S kk) ?_
  simp only [sp_takes, sp_b]
  by_cases h : a < c
  · have h' : ¬ c ≤ a := by rw [i_lt] at h; rw [i_le]; omega
    simp only [if_pos h, decide_eq_false h']; rfl
  · have h' : c ≤ a := by rw [i_lt] at h; rw [i_le]; omega
    simp only [if_neg h, decide_eq_true h']; rfl
theorem f_X1_takes (j : Nat) (a b c d e : Int32) (S : ce_S) : F_X1_takes [.inr (.inl (10, j)), .inl a, .inl b, .inl c, .inl d, .inl e] S = some (sp_b (sp_takes 5 a b c d e), S) := by
  refine fI_by tl_X1_takes (gd_r rfl rfl) (fun kk => sg_X1_takes_0 j a b c d e S kk) ?_
  simp only [sp_takes, sp_b]
  by_cases h : a < d
  · have h' : ¬ d ≤ a := by rw [i_lt] at h; rw [i_le]; omega
    simp only [if_pos h, decide_eq_false h']; rfl
  · have h' : d ≤ a := by rw [i_lt] at h; rw [i_le]; omega
    simp only [if_neg h, decide_eq_true h']; rfl
theorem sp_b_0 (c : Bool) : (sp_b c = 0) = (c = false) := by cases c <;> simp [sp_b]
theorem f_X0_takes (j : Nat) (a b c d e : Int32) (S : ce_S) : F_X0_takes [.inr (.inl (10, j)), .inl a, .inl b, .inl c, .inl d, .inl e] S = some (sp_b (sp_takes 4 a b c d e), S) := by
  refine fI_by tl_X0_takes (gd_r rfl rfl) (fun kk => sg_X0_takes_0 j a b c d e S kk) ?_
  simp only [f_X3_takes, Option.bind_some, sp_b_0]
  show _ = some (some (Sum.inl (sp_b (sp_takes 0 a b c d e || (decide (d ≤ a) && decide (3 < b))))), S)
  by_cases h : sp_takes 0 a b c d e = false
  · simp only [h, if_true, Bool.false_or]
    by_cases g : a < d
    · have g' : ¬ d ≤ a := by rw [i_lt] at g; rw [i_le]; omega
      simp only [if_pos g, decide_eq_false g', Bool.false_and]; rfl
    · have g' : d ≤ a := by rw [i_lt] at g; rw [i_le]; omega
      simp only [if_neg g, decide_eq_true g', Bool.true_and]
      by_cases u : b ≤ 3
      · have u' : ¬ 3 < b := by rw [i_le] at u; rw [i_lt]; omega
        simp only [if_pos u, decide_eq_false u']; rfl
      · have u' : 3 < b := by rw [i_le] at u; rw [i_lt]; omega
        simp only [if_neg u, decide_eq_true u']; rfl
  · have h' : sp_takes 0 a b c d e = true := by cases q : sp_takes 0 a b c d e; exact absurd q h; rfl
    simp only [if_neg h, h', Bool.true_or]; rfl
theorem f_takes (j : Nat) (a b c d e : Int32) (S : ce_S) : F_kind_takes [.inr (.inl (10, j)), .inl a, .inl b, .inl c, .inl d, .inl e] S = some (sp_b (sp_takes j a b c d e), S) := by
  match j with
  | 0 => exact f_X3_takes 0 a b c d e S
  | 1 => exact f_X3_takes 1 a b c d e S
  | 2 => exact f_X3_takes 2 a b c d e S
  | 3 => exact f_X7_takes 3 a b c d e S
  | 4 => exact f_X0_takes 4 a b c d e S
  | j + 5 => exact f_X1_takes (j + 5) a b c d e S
theorem f_X3_stays (j : Nat) (a : Int32) (S : ce_S) : F_X3_stays [.inr (.inl (10, j)), .inl a] S = some (sp_stays 0 a, S) := by
  refine fI_by tl_X3_stays (gd_r rfl rfl) (fun kk => sg_X3_stays_0 j a S kk) ?_
  simp only [q_add_eq, q_sub_eq, q_mul_eq, q_and_eq, q_div_eq, q_rem_eq, q_ushr_eq, q_neg_eq, q_i2b_eq, q_i2s_eq, sp_stays]
theorem f_X2_stays (j : Nat) (a : Int32) (S : ce_S) : F_X2_stays [.inr (.inl (10, j)), .inl a] S = some (sp_stays 1 a, S) := by
  refine fI_by tl_X2_stays (gd_r rfl rfl) (fun kk => sg_X2_stays_0 j a S kk) ?_
  simp only [q_add_eq, q_sub_eq, q_mul_eq, q_and_eq, q_div_eq, q_rem_eq, q_ushr_eq, q_neg_eq, q_i2b_eq, q_i2s_eq, sp_stays, f_X3_stays, Option.bind_some]
theorem f_X8_stays (j : Nat) (a : Int32) (S : ce_S) : F_X8_stays [.inr (.inl (10, j)), .inl a] S = some (sp_stays 2 a, S) := by
  refine fI_by tl_X8_stays (gd_r rfl rfl) (fun kk => sg_X8_stays_0 j a S kk) ?_
  simp only [q_add_eq, q_sub_eq, q_mul_eq, q_and_eq, q_div_eq, q_rem_eq, q_ushr_eq, q_neg_eq, q_i2b_eq, q_i2s_eq, sp_stays, f_X3_stays, Option.bind_some]
theorem f_X7_stays (j : Nat) (a : Int32) (S : ce_S) : F_X7_stays [.inr (.inl (10, j)), .inl a] S = some (sp_stays 3 a, S) := by
  refine fI_by tl_X7_stays (gd_r rfl rfl) (fun kk => sg_X7_stays_0 j a S kk) ?_
  simp only [q_add_eq, q_sub_eq, q_mul_eq, q_and_eq, q_div_eq, q_rem_eq, q_ushr_eq, q_neg_eq, q_i2b_eq, q_i2s_eq, sp_stays, f_X8_stays, Option.bind_some]
theorem f_X1_stays (j : Nat) (a : Int32) (S : ce_S) : F_X1_stays [.inr (.inl (10, j)), .inl a] S = some (sp_stays 5 a, S) := by
  refine fI_by tl_X1_stays (gd_r rfl rfl) (fun kk => sg_X1_stays_0 j a S kk) ?_
  simp only [q_add_eq, q_sub_eq, q_mul_eq, q_and_eq, q_div_eq, q_rem_eq, q_ushr_eq, q_neg_eq, q_i2b_eq, q_i2s_eq, sp_stays, f_X2_stays, Option.bind_some]
theorem f_stays (j : Nat) (a : Int32) (S : ce_S) : F_kind_stays [.inr (.inl (10, j)), .inl a] S = some (sp_stays j a, S) := by
  match j with
  | 0 => exact f_X3_stays 0 a S
  | 1 => exact f_X2_stays 1 a S
  | 2 => exact f_X8_stays 2 a S
  | 3 => exact f_X7_stays 3 a S
  | 4 => exact f_X2_stays 4 a S
  | j + 5 => exact f_X1_stays (j + 5) a S
/-! what stands alone -/
theorem cl_of (lo hi v : Int32) (h : lo ≤ hi) : (if lo < (if hi < v then hi else v) then (if hi < v then hi else v) else lo) = sp_cl lo hi v := by
  unfold sp_cl
  by_cases h1 : hi < v
  · simp only [if_pos h1]
    have h2 : ¬ v < lo := by rw [i_lt] at h1 ⊢; rw [i_le] at h; omega
    simp only [if_neg h2]
    by_cases h3 : lo < hi
    · simp only [if_pos h3]
    · simp only [if_neg h3]
      rw [i_eq]; rw [i_lt] at h3; rw [i_le] at h; omega
  · simp only [if_neg h1]
    by_cases h2 : v < lo
    · have h3 : ¬ lo < v := by rw [i_lt] at h2 ⊢; omega
      simp only [if_pos h2, if_neg h3]
    · simp only [if_neg h2]
      by_cases h3 : lo < v
      · simp only [if_pos h3]
      · simp only [if_neg h3]
        rw [i_eq]; rw [i_lt] at h2 h3; omega
theorem cl_bd (lo hi v : Int32) (h : lo ≤ hi) : lo ≤ sp_cl lo hi v ∧ sp_cl lo hi v ≤ hi := by
  unfold sp_cl
  split
  · exact ⟨Int32.le_refl _, h⟩
  · split
    · exact ⟨h, Int32.le_refl _⟩
    · rename_i h1 h2
      rw [i_lt] at h1 h2; rw [i_le, i_le]; omega
theorem f_within (v lo hi : Int32) (S : ce_S) (h : lo ≤ hi) : F_X11_within [.inl v, .inl lo, .inl hi] S = some (sp_cl lo hi v, S) := by
  refine fI_by tl_X11_within (gd_n rfl rfl) (fun kk => sg_X11_within_0 v lo hi S kk) ?_
  rw [cl_of _ _ _ h]
theorem f_isSheet (x : Int32) (S : ce_S) : F_X11_isSheet [.inl x] S = some (sp_b (decide (0 ≤ x ∧ x < 4)), S) := by
  refine fI_by tl_X11_isSheet (gd_n rfl rfl) (fun kk => sg_X11_isSheet_0 x S kk) ?_
  by_cases h : 0 ≤ x ∧ x < 4
  · have h1 : ¬ x < 0 := by rw [i_lt]; rw [i_le, i_lt] at h; omega
    have h2 : ¬ (4 : Int32) ≤ x := by rw [i_le]; rw [i_le, i_lt] at h; omega
    simp only [if_neg h1, if_neg h2, decide_eq_true h]; rfl
  · simp only [decide_eq_false h]
    by_cases h1 : x < 0
    · simp only [if_pos h1]; rfl
    · have h2 : (4 : Int32) ≤ x := by rw [i_lt] at h1; rw [i_le, i_lt] at h; rw [i_le]; omega
      simp only [if_neg h1, if_pos h2]; rfl
theorem f_isBid (x : Int32) (S : ce_S) : F_X11_isBid [.inl x] S = some (sp_b (decide (0 ≤ x ∧ x ≤ 1999)), S) := by
  refine fI_by tl_X11_isBid (gd_n rfl rfl) (fun kk => sg_X11_isBid_0 x S kk) ?_
  by_cases h : 0 ≤ x ∧ x ≤ 1999
  · have h1 : ¬ x < 0 := by rw [i_lt]; rw [i_le, i_le] at h; omega
    have h2 : ¬ (1999 : Int32) < x := by rw [i_lt]; rw [i_le, i_le] at h; omega
    simp only [if_neg h1, if_neg h2, decide_eq_true h]; rfl
  · simp only [decide_eq_false h]
    by_cases h1 : x < 0
    · simp only [if_pos h1]; rfl
    · have h2 : (1999 : Int32) < x := by rw [i_lt] at h1; rw [i_le, i_le] at h; rw [i_lt]; omega
      simp only [if_neg h1, if_pos h2]; rfl
theorem f_isRule (a p : Int32) (S : ce_S) : F_X11_isRule [.inl a, .inl p] S = some (sp_b (decide ((0 ≤ a ∧ a ≤ 1999) ∧ 0 ≤ p ∧ p ≤ 10)), S) := by
  refine fI_by tl_X11_isRule (gd_n rfl rfl) (fun kk => sg_X11_isRule_0 a p S kk) ?_
  by_cases h1 : a < 0
  · have h : ¬ ((0 ≤ a ∧ a ≤ 1999) ∧ 0 ≤ p ∧ p ≤ 10) := by rw [i_lt] at h1; rw [i_le, i_le]; omega
    simp only [if_pos h1, decide_eq_false h]; rfl
  simp only [if_neg h1]
  by_cases h2 : (1999 : Int32) < a
  · have h : ¬ ((0 ≤ a ∧ a ≤ 1999) ∧ 0 ≤ p ∧ p ≤ 10) := by rw [i_lt] at h2; rw [i_le, i_le]; omega
    simp only [if_pos h2, decide_eq_false h]; rfl
  simp only [if_neg h2]
  by_cases h3 : p < 0
  · have h : ¬ ((0 ≤ a ∧ a ≤ 1999) ∧ 0 ≤ p ∧ p ≤ 10) := by rw [i_lt] at h3; rw [i_le, i_le, i_le, i_le]; omega
    simp only [if_pos h3, decide_eq_false h]; rfl
  simp only [if_neg h3]
  by_cases h4 : (10 : Int32) < p
  · have h : ¬ ((0 ≤ a ∧ a ≤ 1999) ∧ 0 ≤ p ∧ p ≤ 10) := by rw [i_lt] at h4; rw [i_le, i_le, i_le, i_le]; omega
    simp only [if_pos h4, decide_eq_false h]; rfl
  have h : ((0 ≤ a ∧ a ≤ 1999) ∧ 0 ≤ p ∧ p ≤ 10) := by rw [i_lt] at h1 h2 h3 h4; rw [i_le, i_le, i_le, i_le]; omega
  simp only [if_neg h4, decide_eq_true h]; rfl
def sp_top (w : Int32) : Int32 := if w = 0 then 9 else if w = 1 then 23 else 1999
theorem f_topOf (x : Int32) (S : ce_S) : F_X11_topOf [.inl x] S = some (sp_top x, S) := by
  refine fI_by tl_X11_topOf (gd_n rfl rfl) (fun kk => sg_X11_topOf_0 x S kk) ?_
  unfold sp_top
  by_cases h : x = 0
  · simp only [if_pos h]
  · simp only [if_neg h]
    by_cases g : x = 1
    · simp only [if_pos g]
    · simp only [if_neg g]
