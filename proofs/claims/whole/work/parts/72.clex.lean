/-! the component's tape: its letters, token by token -/
theorem f_blank (c : Int32) (S : ce_S) : F_X9_isBlank [.inl c] S = some (if x_bl c = true then 1 else 0, S) := by
  refine fI_by tl_X9_isBlank (gd_n rfl rfl) (fun kk => sg_X9_isBlank_0 c S kk) ?_
  unfold x_bl
  by_cases h1 : c = 32
  · simp only [h1, decide_true, Bool.true_or, if_true]
  · by_cases h2 : c = 10
    · simp only [h2, decide_true, Bool.or_true, if_true]
      rw [if_neg (by decide)]
    · simp only [h1, h2, decide_false, Bool.or_false, if_false]
      rfl
theorem f_small (c : Int32) (S : ce_S) : F_X9_isSmallLetter [.inl c] S = some (if x_sm c = true then 1 else 0, S) := by
  refine fI_by tl_X9_isSmallLetter (gd_n rfl rfl) (fun kk => sg_X9_isSmallLetter_0 c S kk) ?_
  unfold x_sm
  by_cases h1 : c < 97
  · rw [if_pos h1, if_neg]
    rw [Bool.and_eq_true, decide_eq_true_eq]
    exact fun q => i_lt_not h1 q.1
  · rw [if_neg h1]
    have h1' : (97 : Int32) ≤ c := by rw [i_lt] at h1; rw [i_le]; omega
    by_cases h2 : (122 : Int32) < c
    · rw [if_pos h2, if_neg]
      rw [Bool.and_eq_true, decide_eq_true_eq, decide_eq_true_eq]
      exact fun q => i_lt_not h2 q.2
    · rw [if_neg h2, if_pos]
      rw [Bool.and_eq_true, decide_eq_true_eq, decide_eq_true_eq]
      refine ⟨h1', ?_⟩
      rw [i_lt] at h2; rw [i_le]; omega
theorem f_digit (c : Int32) (S : ce_S) : F_X9_isDigit [.inl c] S = some (if x_dg c = true then 1 else 0, S) := by
  refine fI_by tl_X9_isDigit (gd_n rfl rfl) (fun kk => sg_X9_isDigit_0 c S kk) ?_
  unfold x_dg
  by_cases h1 : c < 48
  · rw [if_pos h1, if_neg]
    rw [Bool.and_eq_true, decide_eq_true_eq]
    exact fun q => i_lt_not h1 q.1
  · rw [if_neg h1]
    have h1' : (48 : Int32) ≤ c := by rw [i_lt] at h1; rw [i_le]; omega
    by_cases h2 : (57 : Int32) < c
    · rw [if_pos h2, if_neg]
      rw [Bool.and_eq_true, decide_eq_true_eq, decide_eq_true_eq]
      exact fun q => i_lt_not h2 q.2
    · rw [if_neg h2, if_pos]
      rw [Bool.and_eq_true, decide_eq_true_eq, decide_eq_true_eq]
      refine ⟨h1', ?_⟩
      rw [i_lt] at h2; rw [i_le]; omega
theorem f_sign (c : Int32) (S : ce_S) : F_X9_signToken [.inl c] S = some (x_sign c, S) := by
  refine fI_by tl_X9_signToken (gd_n rfl rfl) (fun kk => sg_X9_signToken_0 c S kk) ?_
  unfold x_sign
  by_cases h40 : c = 40
  · subst h40; rfl
  by_cases h41 : c = 41
  · subst h41; rfl
  by_cases h42 : c = 42
  · subst h42; rfl
  by_cases h43 : c = 43
  · subst h43; rfl
  by_cases h44 : c = 44
  · subst h44; rfl
  by_cases h45 : c = 45
  · subst h45; rfl
  by_cases h46 : c = 46
  · subst h46; rfl
  by_cases h47 : c = 47
  · subst h47; rfl
  by_cases h48 : c = 48
  · subst h48; rfl
  by_cases h49 : c = 49
  · subst h49; rfl
  by_cases h50 : c = 50
  · subst h50; rfl
  by_cases h51 : c = 51
  · subst h51; rfl
  by_cases h52 : c = 52
  · subst h52; rfl
  by_cases h53 : c = 53
  · subst h53; rfl
  by_cases h54 : c = 54
  · subst h54; rfl
  by_cases h55 : c = 55
  · subst h55; rfl
  by_cases h56 : c = 56
  · subst h56; rfl
  by_cases h57 : c = 57
  · subst h57; rfl
  by_cases h58 : c = 58
  · subst h58; rfl
  by_cases h59 : c = 59
  · subst h59; rfl
  by_cases h60 : c = 60
  · subst h60; rfl
  by_cases h61 : c = 61
  · subst h61; rfl
  rw [if_neg h40, if_neg h41, if_neg h42, if_neg h43, if_neg h44, if_neg h45, if_neg h46, if_neg h47, if_neg h48, if_neg h49, if_neg h50, if_neg h51, if_neg h52, if_neg h53, if_neg h54, if_neg h55, if_neg h56, if_neg h57, if_neg h58, if_neg h59, if_neg h60, if_neg h61]
  rw [if_neg h40, if_neg h41, if_neg h59, if_neg h43, if_neg h45, if_neg h42, if_neg h60, if_neg h61]
/-- what the component holds of a text -/
def TL (p : List Int32) (S : ce_S) : Prop := ce_I S 7 0 0 = nI p.length ∧ p.length ≤ 160 ∧ ∀ e, e < p.length → ce_A S 8 0 e = p.getD e 0
theorem TL_sI {p : List Int32} {S : ce_S} (h : TL p S) (k : Nat) (v : Int32) (hk : k ≠ 0) : TL p (ce_sI S 7 k 0 v) := by
  refine ⟨?_, h.2.1, h.2.2⟩
  rw [r_I_sI, if_pos rfl, if_neg (fun q => hk q.symm)]; exact h.1
def adq (S S' : ce_S) : Prop := (∀ t k i, ¬ (t = 7 ∧ 3 ≤ k ∧ k ≤ 6) → ce_I S' t k i = ce_I S t k i) ∧ S'.2 = S.2
theorem adq_refl (S : ce_S) : adq S S := ⟨fun _ _ _ _ => rfl, rfl⟩
theorem adq_trans {S S' S'' : ce_S} (h : adq S S') (g : adq S' S'') : adq S S'' := ⟨fun t k i q => (g.1 t k i q).trans (h.1 t k i q), g.2.trans h.2⟩
theorem adq_sI (S : ce_S) (k : Nat) (v : Int32) (h : 3 ≤ k ∧ k ≤ 6) : adq S (ce_sI S 7 k 0 v) := by
  refine ⟨fun t k' i q => ?_, rfl⟩
  rw [r_I_sI]
  by_cases h1 : t = 7
  · have h2 : ¬ k' = k := fun e => q ⟨h1, by omega⟩
    rw [if_pos h1, if_neg h2]
  · rw [if_neg h1]
theorem TL_adq {p : List Int32} {S S' : ce_S} (h : TL p S) (g : adq S S') : TL p S' := by
  refine ⟨(g.1 7 0 0 (by omega)).trans h.1, h.2.1, ?_⟩
  have e : ce_A S' = ce_A S := by unfold ce_A; rw [g.2]
  rw [e]; exact h.2.2
theorem x_run_s {P : Int32 → Bool} {p : List Int32} {q : Nat} (h : q < p.length) : x_run P (p.drop q) = if P (p.getD q 0) = true then x_run P (p.drop (q + 1)) + 1 else 0 := by
  rw [drop_cons h]; rfl
theorem x_run_e {P : Int32 → Bool} {p : List Int32} {q : Nat} (h : p.length ≤ q) : x_run P (p.drop q) = 0 := by
  rw [List.drop_eq_nil_of_le h]; rfl
theorem nK_sub {a b : Nat} (h : b ≤ a) : nI a - nI b = nI (a - b) := by
  rw [show nI a = nI (a - b) + nI b by rw [nJ_add, Nat.sub_add_cancel h], Int32.sub_eq_add_neg, Int32.add_assoc, Int32.add_right_neg, Int32.add_zero]

theorem t_adv0 {p : List Int32} : ∀ m q (S : ce_S) (res : Option ce_V × ce_S), TL p S → ce_I S 7 3 0 = nI q → q + m = p.length → ce_Ev tb_X9_advance 19 (0, 0) [some (.inr (.inl (7, 0)))] [] (ce_sI S 7 3 0 (nI (q + x_run x_bl (p.drop q)))) res → ce_Ev tb_X9_advance 0 (0, 0) [some (.inr (.inl (7, 0)))] [] S res := by
  intro m
  induction m with
  | zero =>
    intro q S res hL hq hm h
    have hn := hL.2.1
    rw [x_run_e (by omega), Nat.add_zero, ← hq, sI_id] at h
    refine ce_by tl_X9_advance (fun kk => sg_X9_advance_0 S kk) ?_
    rw [hL.1, hq, if_pos (by rw [nJ_le (by omega) (by omega)]; omega)]
    exact ce_kk_of h
  | succ m ih =>
    intro q S res hL hq hm h
    have hn := hL.2.1
    refine ce_by tl_X9_advance (fun kk => sg_X9_advance_0 S kk) ?_
    rw [hL.1, hq, if_neg (by rw [nJ_le (by omega) (by omega)]; omega), nI_clamp (by omega), if_neg (nJ_in (by omega) (by decide)), hL.2.2 q (by omega), f_blank]
    simp only [Option.bind_some]
    rw [x_run_s (by omega)] at h
    by_cases hb : x_bl (p.getD q 0) = true
    · rw [if_pos hb] at h ⊢
      rw [if_neg (show ¬ (1 : Int32) = 0 by decide)]
      refine ce_kk_of (ih (q + 1) _ res (TL_sI hL 3 _ (by decide)) ?_ (by omega) ?_)
      · rw [r_I_sI, if_pos rfl, if_pos rfl, if_pos rfl, q_add_eq, hq, nJ_succ]
      · rw [sI_sI, show q + 1 + x_run x_bl (p.drop (q + 1)) = q + (x_run x_bl (p.drop (q + 1)) + 1) by omega]
        exact h
    · rw [if_neg hb] at h ⊢
      rw [if_pos rfl]
      rw [Nat.add_zero, ← hq, sI_id] at h
      exact ce_kk_of h

theorem t_adv39 {p : List Int32} : ∀ m q (S : ce_S) (res : Option ce_V × ce_S), TL p S → ce_I S 7 3 0 = nI q → q + m = p.length → ce_Ev tb_X9_advance 58 (0, 0) [some (.inr (.inl (7, 0)))] [] (ce_sI S 7 3 0 (nI (q + x_run x_sm (p.drop q)))) res → ce_Ev tb_X9_advance 39 (0, 0) [some (.inr (.inl (7, 0)))] [] S res := by
  intro m
  induction m with
  | zero =>
    intro q S res hL hq hm h
    have hn := hL.2.1
    rw [x_run_e (by omega), Nat.add_zero, ← hq, sI_id] at h
    refine ce_by tl_X9_advance (fun kk => sg_X9_advance_39 S kk) ?_
    rw [hL.1, hq, if_pos (by rw [nJ_le (by omega) (by omega)]; omega)]
    exact ce_kk_of h
  | succ m ih =>
    intro q S res hL hq hm h
    have hn := hL.2.1
    refine ce_by tl_X9_advance (fun kk => sg_X9_advance_39 S kk) ?_
    rw [hL.1, hq, if_neg (by rw [nJ_le (by omega) (by omega)]; omega), nI_clamp (by omega), if_neg (nJ_in (by omega) (by decide)), hL.2.2 q (by omega), f_small]
    simp only [Option.bind_some]
    rw [x_run_s (by omega)] at h
    by_cases hb : x_sm (p.getD q 0) = true
    · rw [if_pos hb] at h ⊢
      rw [if_neg (show ¬ (1 : Int32) = 0 by decide)]
      refine ce_kk_of (ih (q + 1) _ res (TL_sI hL 3 _ (by decide)) ?_ (by omega) ?_)
      · rw [r_I_sI, if_pos rfl, if_pos rfl, if_pos rfl, q_add_eq, hq, nJ_succ]
      · rw [sI_sI, show q + 1 + x_run x_sm (p.drop (q + 1)) = q + (x_run x_sm (p.drop (q + 1)) + 1) by omega]
        exact h
    · rw [if_neg hb] at h ⊢
      rw [if_pos rfl]
      rw [Nat.add_zero, ← hq, sI_id] at h
      exact ce_kk_of h

theorem t_num3 {p : List Int32} {q0 : Nat} : ∀ m q (S : ce_S), TL p S → ce_I S 7 3 0 = nI q → ce_I S 7 5 0 = nI q0 → q + m = p.length → q0 ≤ q → ∃ S', adq S S' ∧ ce_I S' 7 3 0 = nI (q + x_run x_dg (p.drop q)) ∧ ce_I S' 7 5 0 = nI q0 ∧ ce_I S' 7 6 0 = x_num (ce_I S 7 6 0) ((p.drop q).take (x_run x_dg (p.drop q))) ∧ ce_Ev tb_X9_numberToken 3 (0, 0) [some (.inr (.inl (7, 0)))] [] S (some (.inl (if q + x_run x_dg (p.drop q) - q0 ≤ 4 then 1 else 8)), S') := by
  intro m
  induction m with
  | zero =>
    intro q S hL hq h5 hm hle
    have hn := hL.2.1
    rw [x_run_e (by omega), Nat.add_zero]
    refine ⟨S, adq_refl S, hq, h5, rfl, ce_by tl_X9_numberToken (fun kk => sg_X9_numberToken_3 S kk) ?_⟩
    rw [hL.1, hq, h5, if_pos (by rw [nJ_le (by omega) (by omega)]; omega), q_sub_eq, nK_sub hle]
    by_cases h4 : q - q0 ≤ 4
    · rw [if_neg (by rw [show (4 : Int32) = nI 4 from rfl, nJ_lt (by omega) (by omega)]; omega), if_pos h4]
    · rw [if_pos (by rw [show (4 : Int32) = nI 4 from rfl, nJ_lt (by omega) (by omega)]; omega), if_neg h4]
  | succ m ih =>
    intro q S hL hq h5 hm hle
    have hn := hL.2.1
    by_cases hb : x_dg (p.getD q 0) = true
    · obtain ⟨S', a1, a2, a3, a4, a5⟩ := ih (q + 1) (ce_sI (ce_sI S 7 6 0 (10 * ce_I S 7 6 0 + p.getD q 0 - 48)) 7 3 0 (nI (q + 1))) (TL_sI (TL_sI hL 6 _ (by decide)) 3 _ (by decide)) (by rw [r_I_sI, if_pos rfl, if_pos rfl, if_pos rfl]) (by rw [r_I_sI, if_pos rfl, if_neg (by decide), r_I_sI, if_pos rfl, if_neg (by decide)]; exact h5) (by omega) (by omega)
      rw [x_run_s (q := q) (by omega), if_pos hb]
      rw [show q + 1 + x_run x_dg (p.drop (q + 1)) = q + (x_run x_dg (p.drop (q + 1)) + 1) by omega] at a2 a5
      refine ⟨S', adq_trans (adq_trans (adq_sI _ 6 _ (by decide)) (adq_sI _ 3 _ (by decide))) a1, a2, a3, ?_, ce_by tl_X9_numberToken (fun kk => sg_X9_numberToken_3 S kk) ?_⟩
      · rw [a4, drop_cons (show q < p.length by omega), List.take_succ_cons]
        show x_num _ _ = x_num (10 * ce_I S 7 6 0 + p.getD q 0 - 48) _
        rw [r_I_sI, if_pos rfl, if_neg (by decide), r_I_sI, if_pos rfl, if_pos rfl, if_pos rfl]
      · rw [hL.1, hq, if_neg (by rw [nJ_le (by omega) (by omega)]; omega), nI_clamp (by omega), if_neg (nJ_in (by omega) (by decide)), hL.2.2 q (by omega), f_digit, if_pos hb]
        simp only [Option.bind_some]
        rw [if_neg (show ¬ (1 : Int32) = 0 by decide), hq, nI_clamp (by omega), if_neg (nJ_in (by omega) (by decide)), hL.2.2 q (by omega), q_add_eq, q_add_eq, q_sub_eq, q_mul_eq, nJ_succ]
        exact ce_kk_of a5
    · rw [x_run_s (q := q) (by omega), if_neg hb, Nat.add_zero]
      refine ⟨S, adq_refl S, hq, h5, rfl, ce_by tl_X9_numberToken (fun kk => sg_X9_numberToken_3 S kk) ?_⟩
      rw [hL.1, hq, if_neg (by rw [nJ_le (by omega) (by omega)]; omega), nI_clamp (by omega), if_neg (nJ_in (by omega) (by decide)), hL.2.2 q (by omega), f_digit, if_neg hb]
      simp only [Option.bind_some]
      rw [if_pos trivial, hq, h5, q_sub_eq, nK_sub hle]
      by_cases h4 : q - q0 ≤ 4
      · rw [if_neg (by rw [show (4 : Int32) = nI 4 from rfl, nJ_lt (by omega) (by omega)]; omega), if_pos h4]
      · rw [if_pos (by rw [show (4 : Int32) = nI 4 from rfl, nJ_lt (by omega) (by omega)]; omega), if_neg h4]
theorem t_num {p : List Int32} {q : Nat} {S : ce_S} (hL : TL p S) (hq : ce_I S 7 3 0 = nI q) (h5 : ce_I S 7 5 0 = nI q) (hq2 : q ≤ p.length) : ∃ S', F_X9_numberToken [.inr (.inl (7, 0))] S = some (if x_run x_dg (p.drop q) ≤ 4 then 1 else 8, S') ∧ adq S S' ∧ ce_I S' 7 3 0 = nI (q + x_run x_dg (p.drop q)) ∧ ce_I S' 7 5 0 = nI q ∧ ce_I S' 7 6 0 = x_num 0 ((p.drop q).take (x_run x_dg (p.drop q))) := by
  obtain ⟨S', a1, a2, a3, a4, a5⟩ := t_num3 (q0 := q) (p.length - q) q (ce_sI S 7 6 0 0) (TL_sI hL 6 _ (by decide)) (by rw [r_I_sI, if_pos rfl, if_neg (by decide)]; exact hq) (by rw [r_I_sI, if_pos rfl, if_neg (by decide)]; exact h5) (by omega) (Nat.le_refl _)
  rw [r_I_sI, if_pos rfl, if_pos rfl, if_pos rfl] at a4
  rw [Nat.add_sub_cancel_left] at a5
  exact ⟨S', fI_by tl_X9_numberToken (gd_r rfl rfl) (fun kk => sg_X9_numberToken_0 S kk) (ce_kk_of a5), adq_trans (adq_sI _ 6 _ (by decide)) a1, a2, a3, a4⟩
theorem x_ext {a b : List Int32} (h : a.length = b.length) (g : ∀ i, i < a.length → a.getD i 0 = b.getD i 0) : a = b := by
  refine List.ext_getElem h (fun i h1 h2 => ?_)
  have q := g i h1
  rw [List.getD_eq_getElem?_getD, List.getD_eq_getElem?_getD, List.getElem?_eq_getElem h1, List.getElem?_eq_getElem h2] at q
  exact q
theorem x_dt {p : List Int32} {q k i : Nat} (hi : i < k) : ((p.drop q).take k).getD i 0 = p.getD (q + i) 0 := by
  rw [List.getD_eq_getElem?_getD, List.getElem?_take, if_pos hi, List.getElem?_drop, ← List.getD_eq_getElem?_getD]
theorem sBN : ∀ j, j < 12 → (ce_sB.getD j []).length = ce_sN.getD j 0 ∧ ce_sN.getD j 0 ≤ 5 := by decide
theorem t_sp12 {p : List Int32} {q k j : Nat} (hj : j < 12) (hk : k = ce_sN.getD j 0) (hqk : q + k ≤ p.length) {S : ce_S} (hL : TL p S) (h5 : ce_I S 7 5 0 = nI q) : ∀ m e, e + m = k → (∀ i, i < e → p.getD (q + i) 0 = (ce_sB.getD j []).getD i 0) → ce_Ev tb_X9_spells 12 (0, 0) [some (.inr (.inl (7, 0))), some (.inr (.inl (61, j))), some (.inl (nI e))] [] S (some (.inl (if (p.drop q).take k = ce_sB.getD j [] then 1 else 0)), S) := by
  have hn := hL.2.1
  have hN := sBN j hj
  have hlen : ((p.drop q).take k).length = k := by rw [List.length_take, List.length_drop]; omega
  intro m
  induction m with
  | zero =>
    intro e he hall
    refine ce_by tl_X9_spells (fun kk => sg_X9_spells_12 j (nI e) S kk) ?_
    rw [f_slen j (by omega)]
    simp only [Option.bind_some]
    rw [if_pos (by rw [nJ_le (by omega) (by omega)]; omega), if_pos]
    refine x_ext (by rw [hlen, hN.1, hk]) (fun i hi => ?_)
    rw [hlen] at hi
    rw [x_dt hi]; exact hall i (by omega)
  | succ m ih =>
    intro e he hall
    refine ce_by tl_X9_spells (fun kk => sg_X9_spells_12 j (nI e) S kk) ?_
    rw [f_slen j (by omega)]
    simp only [Option.bind_some]
    rw [if_neg (by rw [nJ_le (by omega) (by omega)]; omega), h5, q_add_eq, nJ_add, nI_clamp (by omega), if_neg (nJ_in (by omega) (by decide)), f_sch j (by omega) e (by omega), hL.2.2 (q + e) (by omega)]
    simp only [Option.bind_some]
    by_cases hc : p.getD (q + e) 0 = (ce_sB.getD j []).getD e 0
    · rw [if_pos hc, q_add_eq, nJ_succ]
      refine ce_kk_of (ih (e + 1) (by omega) (fun i hi => ?_))
      by_cases e1 : i = e
      · rw [e1]; exact hc
      · exact hall i (by omega)
    · rw [if_neg hc, if_neg]
      intro q1
      rw [← x_dt (k := k) (show e < k by omega), q1] at hc
      exact hc rfl
theorem t_sp {p : List Int32} {q k : Nat} {S : ce_S} (hL : TL p S) (h3 : ce_I S 7 3 0 = nI (q + k)) (h5 : ce_I S 7 5 0 = nI q) (hqk : q + k ≤ p.length) {j : Nat} (hj : j < 12) : F_X9_spells [.inr (.inl (7, 0)), .inr (.inl (61, j))] S = some (if (p.drop q).take k = ce_sB.getD j [] then 1 else 0, S) := by
  have hn := hL.2.1
  have hN := sBN j hj
  refine fI_by tl_X9_spells (gd_r rfl rfl) (fun kk => sg_X9_spells_0 j S kk) ?_
  rw [f_slen j (by omega), h3, h5, q_sub_eq, nK_sub (by omega), Nat.add_sub_cancel_left]
  simp only [Option.bind_some]
  by_cases hk : k = ce_sN.getD j 0
  · rw [if_pos (show nI k = nI (ce_sN.getD j 0) by rw [hk])]
    exact ce_kk_of (t_sp12 hj hk hqk hL h5 k 0 (by omega) (fun i hi => absurd hi (Nat.not_lt_zero _)))
  · rw [if_neg (show ¬ nI k = nI (ce_sN.getD j 0) by rw [nJ_inj (by omega) (by omega)]; exact hk), if_neg]
    intro e
    have q1 : ((p.drop q).take k).length = k := by rw [List.length_take, List.length_drop]; omega
    rw [e, hN.1] at q1
    exact hk q1.symm
theorem t_word {p : List Int32} {q k : Nat} {S : ce_S} (hL : TL p S) (h3 : ce_I S 7 3 0 = nI (q + k)) (h5 : ce_I S 7 5 0 = nI q) (hqk : q + k ≤ p.length) : F_X9_wordToken [.inr (.inl (7, 0))] S = some (x_word ((p.drop q).take k), S) := by
  refine fI_by tl_X9_wordToken (gd_r rfl rfl) (fun kk => sg_X9_wordToken_0 S kk) ?_
  unfold x_word
  rw [t_sp hL h3 h5 hqk (show 0 < 12 by decide)]
  simp only [Option.bind_some]
  conv => rhs; unfold x_at
  by_cases g0 : (p.drop q).take k = ce_sB.getD 0 []
  · rw [if_pos g0, if_neg (by decide), if_pos g0]; rfl
  rw [if_neg g0, if_pos rfl, if_neg g0]
  rw [t_sp hL h3 h5 hqk (show 1 < 12 by decide)]
  simp only [Option.bind_some]
  conv => rhs; unfold x_at
  by_cases g1 : (p.drop q).take k = ce_sB.getD 1 []
  · rw [if_pos g1, if_neg (by decide), if_pos g1]; rfl
  rw [if_neg g1, if_pos rfl, if_neg g1]
  rw [t_sp hL h3 h5 hqk (show 2 < 12 by decide)]
  simp only [Option.bind_some]
  conv => rhs; unfold x_at
  by_cases g2 : (p.drop q).take k = ce_sB.getD 2 []
  · rw [if_pos g2, if_neg (by decide), if_pos g2]; rfl
  rw [if_neg g2, if_pos rfl, if_neg g2]
  rw [t_sp hL h3 h5 hqk (show 3 < 12 by decide)]
  simp only [Option.bind_some]
  conv => rhs; unfold x_at
  by_cases g3 : (p.drop q).take k = ce_sB.getD 3 []
  · rw [if_pos g3, if_neg (by decide), if_pos g3]; rfl
  rw [if_neg g3, if_pos rfl, if_neg g3]
  rw [t_sp hL h3 h5 hqk (show 4 < 12 by decide)]
  simp only [Option.bind_some]
  conv => rhs; unfold x_at
  by_cases g4 : (p.drop q).take k = ce_sB.getD 4 []
  · rw [if_pos g4, if_neg (by decide), if_pos g4]; rfl
  rw [if_neg g4, if_pos rfl, if_neg g4]
  rw [t_sp hL h3 h5 hqk (show 5 < 12 by decide)]
  simp only [Option.bind_some]
  conv => rhs; unfold x_at
  by_cases g5 : (p.drop q).take k = ce_sB.getD 5 []
  · rw [if_pos g5, if_neg (by decide), if_pos g5]; rfl
  rw [if_neg g5, if_pos rfl, if_neg g5]
  rw [t_sp hL h3 h5 hqk (show 6 < 12 by decide)]
  simp only [Option.bind_some]
  conv => rhs; unfold x_at
  by_cases g6 : (p.drop q).take k = ce_sB.getD 6 []
  · rw [if_pos g6, if_neg (by decide), if_pos g6]; rfl
  rw [if_neg g6, if_pos rfl, if_neg g6]
  rw [t_sp hL h3 h5 hqk (show 7 < 12 by decide)]
  simp only [Option.bind_some]
  conv => rhs; unfold x_at
  by_cases g7 : (p.drop q).take k = ce_sB.getD 7 []
  · rw [if_pos g7, if_neg (by decide), if_pos g7]; rfl
  rw [if_neg g7, if_pos rfl, if_neg g7]
  rw [t_sp hL h3 h5 hqk (show 8 < 12 by decide)]
  simp only [Option.bind_some]
  conv => rhs; unfold x_at
  by_cases g8 : (p.drop q).take k = ce_sB.getD 8 []
  · rw [if_pos g8, if_neg (by decide), if_pos g8]; rfl
  rw [if_neg g8, if_pos rfl, if_neg g8]
  rw [t_sp hL h3 h5 hqk (show 9 < 12 by decide)]
  simp only [Option.bind_some]
  conv => rhs; unfold x_at
  by_cases g9 : (p.drop q).take k = ce_sB.getD 9 []
  · rw [if_pos g9, if_neg (by decide), if_pos g9]; rfl
  rw [if_neg g9, if_pos rfl, if_neg g9]
  rw [t_sp hL h3 h5 hqk (show 10 < 12 by decide)]
  simp only [Option.bind_some]
  conv => rhs; unfold x_at
  by_cases g10 : (p.drop q).take k = ce_sB.getD 10 []
  · rw [if_pos g10, if_neg (by decide), if_pos g10]; rfl
  rw [if_neg g10, if_pos rfl, if_neg g10]
  rw [t_sp hL h3 h5 hqk (show 11 < 12 by decide)]
  simp only [Option.bind_some]
  conv => rhs; unfold x_at
  by_cases g11 : (p.drop q).take k = ce_sB.getD 11 []
  · rw [if_pos g11, if_neg (by decide), if_pos g11]; rfl
  rw [if_neg g11, if_pos rfl, if_neg g11]
  rfl
/-- where the component stands in its tokens -/
def TK (p : List Int32) (T : List tk) (S : ce_S) : Prop := ∃ u q, q ≤ p.length ∧ T = u :: (if u.1 = 0 then [] else x_toks (p.drop q)) ∧ ce_I S 7 4 0 = u.1 ∧ u.2.2 ≤ p.length ∧ ce_I S 7 5 0 = nI (p.length - u.2.2) ∧ (u.1 = 1 → ce_I S 7 6 0 = u.2.1) ∧ ce_I S 7 3 0 = nI q
theorem x_sign_0 (c : Int32) : x_sign c ≠ 0 ∧ x_sign c ≠ 1 := by
  unfold x_sign
  constructor
  all_goals repeat' split
  all_goals decide
theorem x_wc_0 (j : Nat) : x_wc j ≠ 0 ∧ x_wc j ≠ 1 := by
  unfold x_wc
  constructor
  all_goals split
  all_goals decide
theorem t_adv {p : List Int32} {S : ce_S} {q : Nat} (hL : TL p S) (hq : ce_I S 7 3 0 = nI q) (hq2 : q ≤ p.length) : ∃ S', F_X9_advance [.inr (.inl (7, 0))] S = some S' ∧ adq S S' ∧ TK p (x_toks (p.drop q)) S' := by
  have hn := hL.2.1
  have hr := x_run_le x_bl (p.drop q)
  rw [List.length_drop] at hr
  obtain ⟨b, hb⟩ : ∃ b, b = q + x_run x_bl (p.drop q) := ⟨_, rfl⟩
  have hsk : x_skip (p.drop q) = p.drop b := by unfold x_skip; rw [List.drop_drop, hb]
  rw [x_toks_eq, hsk]
  have key : ∀ S', ce_Ev tb_X9_advance 19 (0, 0) [some (.inr (.inl (7, 0)))] [] (ce_sI S 7 3 0 (nI b)) (none, S') → F_X9_advance [.inr (.inl (7, 0))] S = some S' := fun S' h => by
    refine ce_fV_eq tl_X9_advance (gd_r rfl rfl) ?_
    rw [hb] at h
    exact t_adv0 (p.length - q) q S _ hL hq (by omega) h
  have hL1 : TL p (ce_sI S 7 3 0 (nI b)) := TL_sI hL 3 _ (by decide)
  have e3 : ce_I (ce_sI S 7 3 0 (nI b)) 7 3 0 = nI b := by rw [r_I_sI, if_pos rfl, if_pos rfl, if_pos rfl]
  have hq1 : adq S (ce_sI S 7 3 0 (nI b)) := adq_sI _ 3 _ (by decide)
  generalize ce_sI S 7 3 0 (nI b) = S1 at key hL1 e3 hq1
  by_cases hE : b = p.length
  · rw [List.drop_eq_nil_of_le (by omega)]
    refine ⟨ce_sI (ce_sI S1 7 5 0 (ce_I S1 7 3 0)) 7 4 0 0, key _ (ce_by tl_X9_advance (fun kk => sg_X9_advance_19 S1 kk) ?_), adq_trans hq1 (adq_trans (adq_sI _ 5 _ (by decide)) (adq_sI _ 4 _ (by decide))), (0, 0, 0), b, by omega, rfl, rfl, Nat.zero_le _, ?_, fun h => absurd h (by decide), ?_⟩
    · rw [if_neg (by rw [hL1.1, e3, nJ_lt (by omega) (by omega)]; omega)]
      exact ce_kk_of (ce_by tl_X9_advance (fun kk => sg_X9_advance_89 _ kk) rfl)
    · rw [r_I_sI, if_pos rfl, if_neg (by decide), r_I_sI, if_pos rfl, if_pos rfl, if_pos rfl, e3, hE]; rfl
    · rw [r_I_sI, if_pos rfl, if_neg (by decide), r_I_sI, if_pos rfl, if_neg (by decide), e3]
  have hlt : b < p.length := by omega
  obtain ⟨r, hcr⟩ : ∃ r, p.drop b = p.getD b 0 :: r := ⟨_, drop_cons hlt⟩
  have hlr : r.length + 1 = p.length - b := by
    have := congrArg List.length hcr
    rw [List.length_drop, List.length_cons] at this; omega
  rw [hcr]
  simp only
  have hL5 : TL p (ce_sI S1 7 5 0 (nI b)) := TL_sI hL1 5 _ (by decide)
  have e33 : ce_I (ce_sI S1 7 5 0 (nI b)) 7 3 0 = nI b := by rw [r_I_sI, if_pos rfl, if_neg (by decide)]; exact e3
  have e55 : ce_I (ce_sI S1 7 5 0 (nI b)) 7 5 0 = nI b := by rw [r_I_sI, if_pos rfl, if_pos rfl, if_pos rfl]
  have hq5 : adq S (ce_sI S1 7 5 0 (nI b)) := adq_trans hq1 (adq_sI _ 5 _ (by decide))
  have hS : ∀ S', ce_Ev tb_X9_advance 89 (0, 0) [some (.inr (.inl (7, 0)))] [] S' (none, S') := fun S' => ce_by tl_X9_advance (fun kk => sg_X9_advance_89 _ kk) rfl
  have hin : ¬ (nI b < 0 ∨ 160 ≤ b) := nJ_in (by omega) (by decide)
  have ecl : (nI b).toNatClampNeg = b := nI_clamp (by omega)
  have e0 : ∀ S', (∀ e, e < p.length → ce_A S' 8 0 e = p.getD e 0) → ce_A S' 8 0 b = p.getD b 0 := fun S' h => h b hlt
  have hA5 : ce_A (ce_sI S1 7 5 0 (nI b)) 8 0 b = p.getD b 0 := hL5.2.2 b hlt
  have hA1 : ce_A S1 8 0 b = p.getD b 0 := hL1.2.2 b hlt
  have hltI : nI b < nI p.length := by rw [nJ_lt (by omega) (by omega)]; exact hlt
  have hpl : p.length - (r.length + 1) = b := by omega
  by_cases hs : x_sm (p.getD b 0) = true
  · -- a word
    obtain ⟨k, hk⟩ : ∃ k, k = x_run x_sm (p.getD b 0 :: r) := ⟨_, rfl⟩
    have hkl : k ≤ p.length - b := by
      have := x_run_le x_sm (p.getD b 0 :: r)
      rw [List.length_cons] at this; omega
    have hk' : x_run x_sm (p.drop b) = k := by rw [hcr, hk]
    have hxl : x_len (p.getD b 0 :: r) = k := by
      unfold x_len; simp only; rw [if_pos hs, hk]
    have hxt : x_tok (p.getD b 0 :: r) = (x_word ((p.drop b).take k), 0, r.length + 1) := by
      unfold x_tok; simp only; rw [if_pos hs, ← hk, hcr]
    have hL6 : TL p (ce_sI (ce_sI S1 7 5 0 (nI b)) 7 3 0 (nI (b + k))) := TL_sI hL5 3 _ (by decide)
    refine ⟨ce_sI (ce_sI (ce_sI S1 7 5 0 (nI b)) 7 3 0 (nI (b + k))) 7 4 0 (x_word ((p.drop b).take k)), key _ (ce_by tl_X9_advance (fun kk => sg_X9_advance_19 S1 kk) ?_), adq_trans hq5 (adq_trans (adq_sI _ 3 _ (by decide)) (adq_sI _ 4 _ (by decide))), x_tok (p.getD b 0 :: r), b + k, by omega, ?_, ?_, ?_, ?_, ?_, ?_⟩
    · rw [hL1.1, e3, if_pos hltI, ecl, if_neg hin, hA1, f_small, if_pos hs]
      simp only [Option.bind_some]
      rw [if_neg (show ¬ (1 : Int32) = 0 by decide)]
      refine ce_kk_of (t_adv39 (p.length - b) b _ _ hL5 e33 (by omega) ?_)
      rw [hk']
      refine ce_by tl_X9_advance (fun kk => sg_X9_advance_58 _ kk) ?_
      rw [t_word hL6 (q := b) (k := k) (by rw [r_I_sI, if_pos rfl, if_pos rfl, if_pos rfl]) (by rw [r_I_sI, if_pos rfl, if_neg (by decide)]; exact e55) (by omega)]
      simp only [Option.bind_some]
      exact ce_kk_of (hS _)
    · rw [if_neg (by rw [hxt]; exact (x_wc_0 _).1), hxl, ← hcr, List.drop_drop]
    · rw [hxt, r_I_sI, if_pos rfl, if_pos rfl, if_pos rfl]
    · rw [hxt]; show r.length + 1 ≤ p.length; omega
    · rw [hxt, r_I_sI, if_pos rfl, if_neg (by decide), r_I_sI, if_pos rfl, if_neg (by decide), e55]; show nI b = nI (p.length - (r.length + 1)); rw [hpl]
    · intro h; rw [hxt] at h; exact absurd h (x_wc_0 _).2
    · rw [r_I_sI, if_pos rfl, if_neg (by decide), r_I_sI, if_pos rfl, if_pos rfl, if_pos rfl]
  by_cases hd : x_dg (p.getD b 0) = true
  · -- a number
    obtain ⟨k, hk⟩ : ∃ k, k = x_run x_dg (p.getD b 0 :: r) := ⟨_, rfl⟩
    have hkl : k ≤ p.length - b := by
      have := x_run_le x_dg (p.getD b 0 :: r)
      rw [List.length_cons] at this; omega
    have hk' : x_run x_dg (p.drop b) = k := by rw [hcr, hk]
    have hxl : x_len (p.getD b 0 :: r) = k := by
      unfold x_len; simp only; rw [if_neg hs, if_pos hd, hk]
    have hxt : x_tok (p.getD b 0 :: r) = if k ≤ 4 then (1, x_num 0 ((p.drop b).take k), r.length + 1) else (8, 0, r.length + 1) := by
      unfold x_tok; simp only; rw [if_neg hs, if_pos hd, ← hk, hcr]
    have hne : ¬ (x_tok (p.getD b 0 :: r)).1 = 0 := by
      rw [hxt]
      by_cases h4 : k ≤ 4
      · rw [if_pos h4]; exact (show ¬ (1 : Int32) = 0 by decide)
      · rw [if_neg h4]; exact (show ¬ (8 : Int32) = 0 by decide)
    obtain ⟨S', n1, n2, n3, n4, n5⟩ := t_num hL5 e33 e55 (by omega)
    rw [hk'] at n1 n3 n5
    refine ⟨ce_sI S' 7 4 0 (if k ≤ 4 then 1 else 8), key _ (ce_by tl_X9_advance (fun kk => sg_X9_advance_19 S1 kk) ?_), adq_trans hq5 (adq_trans n2 (adq_sI _ 4 _ (by decide))), x_tok (p.getD b 0 :: r), b + k, by omega, ?_, ?_, ?_, ?_, ?_, ?_⟩
    · rw [hL1.1, e3, if_pos hltI, ecl, if_neg hin, hA1, f_small, if_neg hs]
      simp only [Option.bind_some]
      rw [if_pos trivial, e33, ecl, if_neg hin, hA5, f_digit, if_pos hd]
      simp only [Option.bind_some]
      rw [if_neg (show ¬ (1 : Int32) = 0 by decide), n1]
      simp only [Option.bind_some]
      exact ce_kk_of (hS _)
    · rw [if_neg hne, hxl, ← hcr, List.drop_drop]
    · rw [hxt, r_I_sI, if_pos rfl, if_pos rfl, if_pos rfl]; split <;> rfl
    · rw [hxt]; split <;> (show r.length + 1 ≤ p.length; omega)
    · rw [hxt, r_I_sI, if_pos rfl, if_neg (by decide), n4]; split <;> (show nI b = nI (p.length - (r.length + 1)); rw [hpl])
    · intro h
      rw [hxt] at h ⊢
      rw [r_I_sI, if_pos rfl, if_neg (by decide), n5]
      by_cases h4 : k ≤ 4
      · rw [if_pos h4]
      · rw [if_neg h4] at h; exact absurd h (show ¬ (8 : Int32) = 1 by decide)
    · rw [r_I_sI, if_pos rfl, if_neg (by decide), n3]
  · -- a sign
    have hxl : x_len (p.getD b 0 :: r) = 1 := by
      unfold x_len; simp only; rw [if_neg hs, if_neg hd]
    have hxt : x_tok (p.getD b 0 :: r) = (x_sign (p.getD b 0), 0, r.length + 1) := by
      unfold x_tok; simp only; rw [if_neg hs, if_neg hd]
    refine ⟨ce_sI (ce_sI (ce_sI S1 7 5 0 (nI b)) 7 4 0 (x_sign (p.getD b 0))) 7 3 0 (nI (b + 1)), key _ (ce_by tl_X9_advance (fun kk => sg_X9_advance_19 S1 kk) ?_), adq_trans hq5 (adq_trans (adq_sI _ 4 _ (by decide)) (adq_sI _ 3 _ (by decide))), x_tok (p.getD b 0 :: r), b + 1, by omega, ?_, ?_, ?_, ?_, ?_, ?_⟩
    · rw [hL1.1, e3, if_pos hltI, ecl, if_neg hin, hA1, f_small, if_neg hs]
      simp only [Option.bind_some]
      rw [if_pos trivial, e33, ecl, if_neg hin, hA5, f_digit, if_neg hd]
      simp only [Option.bind_some]
      rw [if_pos trivial, e33, ecl, if_neg hin, hA5, f_sign]
      simp only [Option.bind_some]
      rw [e33, q_add_eq, nJ_succ]
      exact ce_kk_of (hS _)
    · rw [if_neg (by rw [hxt]; exact (x_sign_0 _).1), hxl, ← hcr, List.drop_drop]
    · rw [hxt, r_I_sI, if_pos rfl, if_neg (by decide), r_I_sI, if_pos rfl, if_pos rfl, if_pos rfl]
    · rw [hxt]; show r.length + 1 ≤ p.length; omega
    · rw [hxt, r_I_sI, if_pos rfl, if_neg (by decide), r_I_sI, if_pos rfl, if_neg (by decide), e55]; show nI b = nI (p.length - (r.length + 1)); rw [hpl]
    · intro h; rw [hxt] at h; exact absurd h (x_sign_0 _).2
    · rw [r_I_sI, if_pos rfl, if_pos rfl, if_pos rfl]
