/-! the texts' evaluation, component -/
theorem f_named (x : Int32) (j i : Nat) (bid : Int32) (S : ce_S) : F_X10_named [.inl x, .inr (.inl (11, j)), .inr (.inl (12, i)), .inl bid] S = some (sp_name (rc S j) (ce_I S 12 0 i) (ce_I S 12 1 i) bid x, S) := by
  refine fI_by tl_X10_named (gd_n rfl rfl) (fun kk => sg_X10_named_0 x j i bid S kk) ?_
  unfold sp_name
  by_cases h5 : x = -5
  · subst h5; rfl
  simp only [if_neg h5]
  by_cases h4 : x = -4
  · subst h4; rfl
  simp only [if_neg h4]
  by_cases h3 : x = -3
  · subst h3; rfl
  simp only [if_neg h3]
  by_cases h2 : x = -2
  · subst h2; rfl
  simp only [if_neg h2]
  by_cases h1 : x = -1
  · subst h1; rfl
  simp only [if_neg h1]; rfl
theorem f_joined (x a b : Int32) (S : ce_S) : F_X10_joined [.inl x, .inl a, .inl b] S = some (sp_join x a b, S) := by
  refine fI_by tl_X10_joined (gd_n rfl rfl) (fun kk => sg_X10_joined_0 x a b S kk) ?_
  simp only [q_add_eq, q_sub_eq, q_mul_eq, q_and_eq, q_div_eq, q_rem_eq, q_ushr_eq, q_neg_eq, q_i2b_eq, q_i2s_eq]
  unfold sp_join
  by_cases h9 : x = -9
  · subst h9
    simp only [show ¬ ((-9 : Int32) = -14) by decide, show ¬ ((-9 : Int32) = -13) by decide, show ¬ ((-9 : Int32) = -12) by decide, show ¬ ((-9 : Int32) = -11) by decide, show ¬ ((-9 : Int32) = -10) by decide, if_false, if_true]
    by_cases ha : a = 0
    · by_cases hb : b = 0
      · simp only [ha, hb, if_true, and_self]
      · simp only [ha, hb, if_true, if_false, and_false]
    · simp only [ha, if_false, false_and]
  simp only [if_neg h9]
  by_cases h10 : x = -10
  · subst h10
    simp only [show ¬ ((-10 : Int32) = -14) by decide, show ¬ ((-10 : Int32) = -13) by decide, show ¬ ((-10 : Int32) = -12) by decide, show ¬ ((-10 : Int32) = -11) by decide, if_false, if_true]
    by_cases ha : a = 0
    · simp only [ha, if_true, true_or]
    · by_cases hb : b = 0
      · simp only [ha, hb, if_true, if_false, or_true]
      · simp only [ha, hb, if_false, or_self]
  simp only [if_neg h10]
  by_cases h11 : x = -11
  · subst h11
    simp only [show ¬ ((-11 : Int32) = -14) by decide, show ¬ ((-11 : Int32) = -13) by decide, show ¬ ((-11 : Int32) = -12) by decide, if_false, if_true]
    by_cases ha : b ≤ a
    · have hb : ¬ a < b := by rw [i_le] at ha; rw [i_lt]; omega
      simp only [if_pos ha, if_neg hb]
    · have hb : a < b := by rw [i_le] at ha; rw [i_lt]; omega
      simp only [if_neg ha, if_pos hb]
  simp only [if_neg h11]
  by_cases h12 : x = -12
  · subst h12
    simp only [show ¬ ((-12 : Int32) = -14) by decide, show ¬ ((-12 : Int32) = -13) by decide, if_false, if_true]
    by_cases ha : a = b
    · simp only [if_pos ha]
    · simp only [if_neg ha]
  simp only [if_neg h12]
  by_cases h13 : x = -13
  · subst h13
    simp only [show ¬ ((-13 : Int32) = -14) by decide, if_false, if_true]
  simp only [if_neg h13]
  by_cases h14 : x = -14
  · simp only [if_pos h14]
  · simp only [if_neg h14]
/-- a row holds a stack, its top last -/
def skv (g : Nat → Int32) : List Int32 → Prop
  | [] => True
  | v :: r => g r.length = v ∧ skv g r
theorem skv_of {g g' : Nat → Int32} : ∀ {st : List Int32}, skv g st → (∀ e, e < st.length → g' e = g e) → skv g' st
  | [], _, _ => trivial
  | v :: r, h, e => ⟨(e r.length (Nat.lt_succ_self _)).trans h.1, skv_of h.2 (fun e' q => e e' (Nat.lt_succ_of_lt q))⟩
theorem skv_push {f : Nat → Nat → Int32} {k : Nat} {st : List Int32} {v : Int32} (h : skv (f k) st) : skv (ce_put3 f k st.length v k) (v :: st) := by
  refine ⟨by simp only [ce_put3, if_true], skv_of h (fun e q => ?_)⟩
  have : ¬ e = st.length := by omega
  simp only [ce_put3, if_true, if_neg this]
def sk_nm (S : ce_S) (j i : Nat) (bid : Int32) : Int32 → Int32 := sp_name (rc S j) (ce_I S 12 0 i) (ce_I S 12 1 i) bid
theorem ev_value (S : ce_S) (k j i : Nat) (bid x1 : Int32) (b : Nat) (hb : b ≤ ce_L S 14 k) (hn : ce_L S 14 k ≤ 160) (h17 : ce_L S 17 k = ce_L S 14 k) : ∀ (m c : Nat) (st : List Int32) (f : Nat → Nat → Int32) (z8 z9 : Option ce_V), c + m = b → st.length ≤ c → skv (f k) st → ∃ f', ce_Ev tb_X10_value 6 (0, 0) [some (.inr (.inl (13, k))), some (.inl x1), some (.inl (nI b)), some (.inr (.inl (11, j))), some (.inr (.inl (12, i))), some (.inl bid), some (.inl (nI st.length)), some (.inl (nI c)), z8, z9] [] (ce_tA S 17 f) (some (.inl (((cds (ce_A S 14 k) c m).foldl (sp_step (sk_nm S j i bid)) st).headD 0)), ce_tA S 17 f') := by
  intro m
  induction m with
  | zero =>
    intro c st f z8 z9 hc hl hf
    have hc : c = b := hc
    subst hc
    refine ⟨f, ce_by tl_X10_value (fun kk => sg_X10_value_6 k x1 (nI c) j i bid (nI st.length) (nI c) z8 z9 (ce_tA S 17 f) kk) ?_⟩
    rw [cds_zero]
    simp only [if_pos (Int32.le_refl (nI c)), List.foldl_nil]
    cases st with
    | nil => simp only [List.length_nil]; rfl
    | cons v r =>
      have hl : r.length + 1 ≤ c := hl
      have h1 : ¬ nI (r.length + 1) ≤ 0 := by
        rw [show (0 : Int32) = nI 0 from rfl, nJ_le (by omega) (by omega)]; omega
      simp only [List.length_cons, if_neg h1, q_add_eq, q_sub_eq, q_mul_eq, q_and_eq, q_div_eq, q_rem_eq, q_ushr_eq, q_neg_eq, q_i2b_eq, q_i2s_eq, nI_pred]
      rw [if_neg (nI_in (N := ce_L (ce_tA S 17 f) 17 k) (by rw [r_L_tA, h17]; omega) (by rw [r_L_tA]; omega)), nI_clamp (by omega)]
      rw [r_A_tA, if_pos rfl]
      have : f k r.length = v := hf.1
      rw [this]; rfl
  | succ m ih =>
    intro c st f z8 z9 hc hl hf
    have h1 : ¬ nI b ≤ nI c := by rw [nJ_le (by omega) (by omega)]; omega
    have h2 : ¬ nI (ce_L S 14 k) ≤ nI c := by rw [nJ_le (by omega) (by omega)]; omega
    have h3 : ¬ (nI c < 0 ∨ ce_L S 14 k ≤ c) := nJ_in (by omega) (by omega)
    have h4 : (nI c).toNatClampNeg = c := nI_clamp (by omega)
    have hA : ce_A (ce_tA S 17 f) 14 k c = ce_A S 14 k c := rfl
    rw [cds_succ, List.foldl_cons]
    by_cases g6 : ce_A S 14 k c < -6
    · by_cases g8 : ce_A S 14 k c < -8
      · match st, hl, hf with
        | [], hl, hf =>
          obtain ⟨f', e⟩ := ih (c + 1) [] f (some (.inl (ce_A S 14 k c))) z9 (by omega) (by simp) hf
          refine ⟨f', ce_by tl_X10_value (fun kk => sg_X10_value_6 k x1 (nI b) j i bid (nI 0) (nI c) z8 z9 (ce_tA S 17 f) kk) ?_⟩
          have h5 : (nI 0 < 2) := by decide
          simp only [if_neg h1, r_L_tA, if_neg h2, if_neg h3, h4, hA, if_pos g6, if_pos g8, if_pos h5, q_add_eq, q_sub_eq, q_mul_eq, q_and_eq, q_div_eq, q_rem_eq, q_ushr_eq, q_neg_eq, q_i2b_eq, q_i2s_eq, nJ_succ, sp_step]
          exact ce_kk_of e
        | [v], hl, hf =>
          obtain ⟨f', e⟩ := ih (c + 1) [v] f (some (.inl (ce_A S 14 k c))) z9 (by omega) (by simp) hf
          refine ⟨f', ce_by tl_X10_value (fun kk => sg_X10_value_6 k x1 (nI b) j i bid (nI 1) (nI c) z8 z9 (ce_tA S 17 f) kk) ?_⟩
          have h5 : (nI 1 < 2) := by decide
          simp only [if_neg h1, r_L_tA, if_neg h2, if_neg h3, h4, hA, if_pos g6, if_pos g8, if_pos h5, q_add_eq, q_sub_eq, q_mul_eq, q_and_eq, q_div_eq, q_rem_eq, q_ushr_eq, q_neg_eq, q_i2b_eq, q_i2s_eq, nJ_succ, sp_step]
          exact ce_kk_of e
        | w :: v :: r, hl, hf =>
          have hl : r.length + 1 + 1 ≤ c := hl
          have hw : f k (r.length + 1) = w := hf.1
          have hv : f k r.length = v := hf.2.1
          have hr : skv (f k) r := hf.2.2
          obtain ⟨f', e⟩ := ih (c + 1) (sp_join (ce_A S 14 k c) v w :: r) (ce_put3 f k r.length (sp_join (ce_A S 14 k c) v w)) (some (.inl (ce_A S 14 k c))) z9 (by omega) (by simp only [List.length_cons]; omega) (skv_push hr)
          refine ⟨f', ce_by tl_X10_value (fun kk => sg_X10_value_6 k x1 (nI b) j i bid (nI (r.length + 1 + 1)) (nI c) z8 z9 (ce_tA S 17 f) kk) ?_⟩
          have h5 : ¬ (nI (r.length + 1 + 1) < 2) := by
            rw [show (2 : Int32) = nI 2 from rfl, nJ_lt (by omega) (by omega)]; omega
          have h6 : ¬ (nI r.length < 0 ∨ ce_L S 17 k ≤ r.length) := nJ_in (by omega) (by omega)
          have h7 : ¬ (nI (r.length + 1) < 0 ∨ ce_L S 17 k ≤ (r.length + 1)) := nJ_in (by omega) (by omega)
          have h8 : (nI r.length).toNatClampNeg = r.length := nI_clamp (by omega)
          have h9 : (nI (r.length + 1)).toNatClampNeg = r.length + 1 := nI_clamp (by omega)
          have hA1 : ce_A (ce_tA S 17 f) 17 k (r.length + 1) = w := hw
          have hA0 : ce_A (ce_tA S 17 f) 17 k r.length = v := hv
          simp only [if_neg h1, r_L_tA, if_neg h2, if_neg h3, h4, hA, if_pos g6, if_pos g8, if_neg h5, q_add_eq, q_sub_eq, q_mul_eq, q_and_eq, q_div_eq, q_rem_eq, q_ushr_eq, q_neg_eq, q_i2b_eq, q_i2s_eq, pk_m1, nI_pred, if_neg h6, if_neg h7, h8, h9, hA1, hA0, f_joined, Option.bind_some, nJ_succ, sp_step, tA_sA]
          exact ce_kk_of e
      · match st, hl, hf with
        | [], hl, hf =>
          obtain ⟨f', e⟩ := ih (c + 1) [] f (some (.inl (ce_A S 14 k c))) z9 (by omega) (by simp) hf
          refine ⟨f', ce_by tl_X10_value (fun kk => sg_X10_value_6 k x1 (nI b) j i bid (nI 0) (nI c) z8 z9 (ce_tA S 17 f) kk) ?_⟩
          have h5 : (nI 0 < 1) := by decide
          simp only [if_neg h1, r_L_tA, if_neg h2, if_neg h3, h4, hA, if_pos g6, if_neg g8, if_pos h5, q_add_eq, q_sub_eq, q_mul_eq, q_and_eq, q_div_eq, q_rem_eq, q_ushr_eq, q_neg_eq, q_i2b_eq, q_i2s_eq, nJ_succ, sp_step]
          exact ce_kk_of e
        | v :: r, hl, hf =>
          have hl : r.length + 1 ≤ c := hl
          have hv : f k r.length = v := hf.1
          have hr : skv (f k) r := hf.2
          have h5 : ¬ (nI (r.length + 1) < 1) := by
            rw [show (1 : Int32) = nI 1 from rfl, nJ_lt (by omega) (by omega)]; omega
          have h6 : ¬ (nI r.length < 0 ∨ ce_L S 17 k ≤ r.length) := nJ_in (by omega) (by omega)
          have h8 : (nI r.length).toNatClampNeg = r.length := nI_clamp (by omega)
          have hA0 : ce_A (ce_tA S 17 f) 17 k r.length = v := hv
          by_cases g7 : ce_A S 14 k c = -8
          · obtain ⟨f', e⟩ := ih (c + 1) (-v :: r) (ce_put3 f k r.length (-v)) (some (.inl (ce_A S 14 k c))) (some (.inl v)) (by omega) (by simp only [List.length_cons]; omega) (skv_push hr)
            refine ⟨f', ce_by tl_X10_value (fun kk => sg_X10_value_6 k x1 (nI b) j i bid (nI (r.length + 1)) (nI c) z8 z9 (ce_tA S 17 f) kk) ?_⟩
            simp only [if_neg h1, r_L_tA, if_neg h2, if_neg h3, h4, hA, if_pos g6, if_neg g8, if_neg h5, q_add_eq, q_sub_eq, q_mul_eq, q_and_eq, q_div_eq, q_rem_eq, q_ushr_eq, q_neg_eq, q_i2b_eq, q_i2s_eq, nI_pred, if_neg h6, h8, if_pos g7, hA0, nJ_succ, sp_step, tA_sA]
            exact ce_kk_of e
          · by_cases gv : v = 0
            · obtain ⟨f', e⟩ := ih (c + 1) (1 :: r) (ce_put3 f k r.length 1) (some (.inl (ce_A S 14 k c))) (some (.inl v)) (by omega) (by simp only [List.length_cons]; omega) (skv_push hr)
              refine ⟨f', ce_by tl_X10_value (fun kk => sg_X10_value_6 k x1 (nI b) j i bid (nI (r.length + 1)) (nI c) z8 z9 (ce_tA S 17 f) kk) ?_⟩
              simp only [if_neg h1, r_L_tA, if_neg h2, if_neg h3, h4, hA, if_pos g6, if_neg g8, if_neg h5, q_add_eq, q_sub_eq, q_mul_eq, q_and_eq, q_div_eq, q_rem_eq, q_ushr_eq, q_neg_eq, q_i2b_eq, q_i2s_eq, nI_pred, if_neg h6, h8, if_neg g7, hA0, if_pos gv, nJ_succ, sp_step, tA_sA]
              exact ce_kk_of e
            · obtain ⟨f', e⟩ := ih (c + 1) (0 :: r) (ce_put3 f k r.length 0) (some (.inl (ce_A S 14 k c))) (some (.inl v)) (by omega) (by simp only [List.length_cons]; omega) (skv_push hr)
              refine ⟨f', ce_by tl_X10_value (fun kk => sg_X10_value_6 k x1 (nI b) j i bid (nI (r.length + 1)) (nI c) z8 z9 (ce_tA S 17 f) kk) ?_⟩
              simp only [if_neg h1, r_L_tA, if_neg h2, if_neg h3, h4, hA, if_pos g6, if_neg g8, if_neg h5, q_add_eq, q_sub_eq, q_mul_eq, q_and_eq, q_div_eq, q_rem_eq, q_ushr_eq, q_neg_eq, q_i2b_eq, q_i2s_eq, nI_pred, if_neg h6, h8, if_neg g7, hA0, if_neg gv, nJ_succ, sp_step, tA_sA]
              exact ce_kk_of e
    · have h5 : ¬ nI (ce_L S 17 k) ≤ nI st.length := by rw [nJ_le (by omega) (by omega)]; omega
      have h6 : ¬ (nI st.length < 0 ∨ ce_L S 17 k ≤ st.length) := nJ_in (by omega) (by omega)
      have h8 : (nI st.length).toNatClampNeg = st.length := nI_clamp (by omega)
      by_cases g0 : ce_A S 14 k c < 0
      · obtain ⟨f', e⟩ := ih (c + 1) (sk_nm S j i bid (ce_A S 14 k c) :: st) (ce_put3 f k st.length (sk_nm S j i bid (ce_A S 14 k c))) (some (.inl (ce_A S 14 k c))) z9 (by omega) (by simp only [List.length_cons]; omega) (skv_push hf)
        refine ⟨f', ce_by tl_X10_value (fun kk => sg_X10_value_6 k x1 (nI b) j i bid (nI st.length) (nI c) z8 z9 (ce_tA S 17 f) kk) ?_⟩
        simp only [if_neg h1, r_L_tA, if_neg h2, if_neg h3, h4, hA, if_neg g6, if_neg h5, if_pos g0, f_named, Option.bind_some, if_neg h6, h8, q_add_eq, q_sub_eq, q_mul_eq, q_and_eq, q_div_eq, q_rem_eq, q_ushr_eq, q_neg_eq, q_i2b_eq, q_i2s_eq, nJ_succ, sp_step, tA_sA]
        exact ce_kk_of e
      · obtain ⟨f', e⟩ := ih (c + 1) (ce_A S 14 k c :: st) (ce_put3 f k st.length (ce_A S 14 k c)) (some (.inl (ce_A S 14 k c))) z9 (by omega) (by simp only [List.length_cons]; omega) (skv_push hf)
        refine ⟨f', ce_by tl_X10_value (fun kk => sg_X10_value_6 k x1 (nI b) j i bid (nI st.length) (nI c) z8 z9 (ce_tA S 17 f) kk) ?_⟩
        simp only [if_neg h1, r_L_tA, if_neg h2, if_neg h3, h4, hA, if_neg g6, if_neg h5, if_neg g0, if_neg h6, h8, q_add_eq, q_sub_eq, q_mul_eq, q_and_eq, q_div_eq, q_rem_eq, q_ushr_eq, q_neg_eq, q_i2b_eq, q_i2s_eq, nJ_succ, sp_step, tA_sA]
        exact ce_kk_of e
theorem f_value (S : ce_S) (k j i : Nat) (bid : Int32) (a b : Nat) (hab : a ≤ b) (hb : b ≤ ce_L S 14 k) (hn : ce_L S 14 k ≤ 160) (h17 : ce_L S 17 k = ce_L S 14 k) : ∃ f', F_X10_value [.inr (.inl (13, k)), .inl (nI a), .inl (nI b), .inr (.inl (11, j)), .inr (.inl (12, i)), .inl bid] S = some (sp_ev (sk_nm S j i bid) (cds (ce_A S 14 k) a (b - a)), ce_tA S 17 f') := by
  obtain ⟨f', e⟩ := ev_value S k j i bid (nI a) b hb hn h17 (b - a) a [] (ce_A S 17) none none (by omega) (by simp) trivial
  refine ⟨f', fI_by tl_X10_value (gd_r rfl rfl) (fun kk => sg_X10_value_0 k (nI a) (nI b) j i bid S kk) ?_⟩
  have h0 : (if (0 : Int32) < nI a then nI a else 0) = nI a := by
    by_cases h : (0 : Int32) < nI a
    · rw [if_pos h]
    · rw [if_neg h]
      rw [show (0 : Int32) = nI 0 from rfl, nJ_lt (by omega) (by omega)] at h
      rw [show a = 0 by omega]; rfl
  rw [h0]
  rw [tA_self] at e
  exact ce_kk_of e
