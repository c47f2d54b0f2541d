/-! the reference's other methods -/
theorem MR_put {w : sp_W} {S S' : ce_S} (hR : MR w S) {s : Nat} (o : mo s S S') {r : sp_R} (h : mr S' s r) (hr : rok r) : MR (w_set w s r) S' := by
  refine ⟨MX_mq hR.1 o.1, fun i hi => ?_⟩
  show mr S' i (w_put (w_r w) s r i) ∧ rok (w_put (w_r w) s r i)
  unfold w_put
  by_cases q : i = s
  · subst q; rw [if_pos rfl]; exact ⟨h, hr⟩
  · rw [if_neg q, mo_mr o q]; exact hR.2 i hi
theorem m_hm4 {w : sp_W} (x : Int32) : ∀ m, m ≤ w_n w → ∀ (acc : Int32) (S : ce_S), ce_I S 20 7 0 = nI (w_n w) → w_n w ≤ 6 → (∀ i, i < w_n w → ce_A S 26 0 i = sp_st (w_r w i)) → ce_Ev tb_X12_standing 4 (0, 0) [some (.inr (.inl (20, 0))), some (.inl x), some (.inl acc), some (.inl (nI (w_n w - m)))] [] S (some (.inl (sp_hm (w_r w) x (w_n w) m acc)), S) := by
  intro m
  induction m with
  | zero =>
    intro _ acc S h0 hn hr
    refine ce_by tl_X12_standing (fun kk => sg_X12_standing_4 x acc (nI (w_n w - 0)) S kk) ?_
    have h1 : ce_I S 20 7 0 ≤ nI (w_n w - 0) := by rw [h0]; exact Int32.le_refl _
    rw [if_pos h1]; rfl
  | succ m ih =>
    intro hm acc S h0 hn hr
    have hi : w_n w - (m + 1) < w_n w := by omega
    have e2 : (nI (w_n w - (m + 1))).toNatClampNeg = w_n w - (m + 1) := nI_clamp (by omega)
    have hin : ¬ (nI (w_n w - (m + 1)) < 0 ∨ 6 ≤ w_n w - (m + 1)) := nJ_in (by omega) (by decide)
    have h1 : ¬ ce_I S 20 7 0 ≤ nI (w_n w - (m + 1)) := by rw [h0, nJ_le (by omega) (by omega)]; omega
    have e1 : nI (w_n w - (m + 1)) + 1 = nI (w_n w - m) := by rw [nJ_succ, show w_n w - (m + 1) + 1 = w_n w - m by omega]
    have hrc := hr _ hi
    unfold sp_hm
    refine ce_by tl_X12_standing (fun kk => sg_X12_standing_4 x acc (nI (w_n w - (m + 1))) S kk) ?_
    by_cases ho : sp_st (w_r w (w_n w - (m + 1))) = x
    · simp only [if_neg h1, e2, if_neg hin, hrc, if_pos ho, q_add_eq, e1]
      exact ce_kk_of (ih (by omega) _ S h0 hn hr)
    · simp only [if_neg h1, e2, if_neg hin, hrc, if_neg ho, q_add_eq, e1, Int32.add_zero]
      exact ce_kk_of (ih (by omega) _ S h0 hn hr)
theorem m_many' {w : sp_W} {S : ce_S} (h0 : ce_I S 20 7 0 = nI (w_n w)) (hn : w_n w ≤ 6) (hr : ∀ i, i < w_n w → ce_A S 26 0 i = sp_st (w_r w i)) (x : Int32) : F_X12_standing [.inr (.inl (20, 0)), .inl x] S = some (s_many w x, S) := by
  refine fI_by tl_X12_standing (gd_r rfl rfl) (fun kk => sg_X12_standing_0 x S kk) ?_
  have := m_hm4 (w := w) x (w_n w) (Nat.le_refl _) 0 S h0 hn hr
  rw [Nat.sub_self] at this
  exact ce_kk_of this
theorem m_many {w : sp_W} {S : ce_S} (hR : MR w S) (x : Int32) : F_X12_standing [.inr (.inl (20, 0)), .inl x] S = some (s_many w x, S) := m_many' hR.1.1.1 hR.1.1.2 (fun i hi => (hR.2 i hi).1.2.2.2.2.2.1) x
theorem m_count {w : sp_W} {S : ce_S} (hR : MR w S) (x : Int32) : F_X12_count [.inr (.inl (20, 0)), .inl x] S = some (s_count w x, S) := by
  refine fI_by tl_X12_count (gd_r rfl rfl) (fun kk => sg_X12_count_0 x S kk) ?_
  unfold s_count
  have hc := hR.1.2.1
  have ht := hR.1.2.2.1.1
  have hp := hR.1.2.2.2.1.1
  simp only [m_many hR, Option.bind_some, hR.1.1.1, hc.1, hc.2.1, hc.2.2.1, hc.2.2.2.1, ht, hp]
  by_cases x0 : x = 0
  · simp only [if_pos x0]
  by_cases x1 : x = 1
  · simp only [if_neg x0, if_pos x1]
  by_cases x2 : x = 2
  · simp only [if_neg x0, if_neg x1, if_pos x2]
  by_cases x3 : x = 3
  · simp only [if_neg x0, if_neg x1, if_neg x2, if_pos x3]
  by_cases x4 : x = 4
  · simp only [if_neg x0, if_neg x1, if_neg x2, if_neg x3, if_pos x4]
  by_cases x5 : x = 5
  · simp only [if_neg x0, if_neg x1, if_neg x2, if_neg x3, if_neg x4, if_pos x5]
  by_cases x6 : x = 6
  · simp only [if_neg x0, if_neg x1, if_neg x2, if_neg x3, if_neg x4, if_neg x5, if_pos x6]
  by_cases x7 : x = 7
  · simp only [if_neg x0, if_neg x1, if_neg x2, if_neg x3, if_neg x4, if_neg x5, if_neg x6, if_pos x7]
  by_cases x8 : x = 8
  · simp only [if_neg x0, if_neg x1, if_neg x2, if_neg x3, if_neg x4, if_neg x5, if_neg x6, if_neg x7, if_pos x8]
  · simp only [if_neg x0, if_neg x1, if_neg x2, if_neg x3, if_neg x4, if_neg x5, if_neg x6, if_neg x7, if_neg x8]
theorem m_anew {w : sp_W} {S : ce_S} (hR : MR w S) (x : Int32) : ∃ S', F_X12_anew [.inr (.inl (20, 0)), .inl x] S = some ((s_anew w x).1, S') ∧ MR (s_anew w x).2 S' ∧ cEq S S' := by
  obtain ⟨hM, hf⟩ := id hR
  unfold s_anew
  by_cases h : isS w x
  · obtain ⟨s, hs, h6, rfl, e2, hin, hsel⟩ := m_sel hM h
    obtain ⟨S1, b1, b2, b3⟩ := m_begins hM h6 (hf s hs).1
    rw [if_pos h, hsel, e2]
    refine ⟨S1, fI_by tl_X12_anew (gd_r rfl rfl) (fun kk => sg_X12_anew_0 (nI s) S kk) ?_, MR_put hR b2 b3 (rok_beg _ (hf s hs).2.1), cEq_mq b2.1⟩
    simp only [m_isS1 hM h, Option.bind_some, i_10, if_false, b1, e2, if_neg hin, b3.2.2.2.1]
  · rw [if_neg h]
    refine ⟨S, fI_by tl_X12_anew (gd_r rfl rfl) (fun kk => sg_X12_anew_0 x S kk) ?_, hR, cEq_refl S⟩
    simp only [m_isS0 hM h, Option.bind_some, if_true]
theorem m_told {w : sp_W} {S : ce_S} (hR : MR w S) (x y : Int32) : ∃ S', F_X12_told [.inr (.inl (20, 0)), .inl x, .inl y] S = some (s_told w x y, S') ∧ MR w S' ∧ cEq S S' := by
  obtain ⟨hM, hf⟩ := id hR
  unfold s_told
  by_cases h : isS w x
  · obtain ⟨s, hs, h6, rfl, e2, hin, hsel⟩ := m_sel hM h
    rw [if_pos h, hsel]
    obtain ⟨q1, q2, q3, q4, q5, q6, q7⟩ := (hf s hs).1
    obtain ⟨g, el⟩ := m_least hM h6 q2 q5 0 (sp_sa (w_r w s))
    rw [ws_self] at el
    by_cases h7 : y = 7
    · subst h7
      refine ⟨ce_tA S 32 g, fI_by tl_X12_told (gd_r rfl rfl) (fun kk => sg_X12_told_0 (nI s) 7 S kk) ?_, ⟨MX_mq hM (mq_tA S g), hf⟩, cEq_mq (mq_tA S g)⟩
      simp only [m_isS1 hM h, Option.bind_some, i_10, if_false, e2, if_neg hin, q4, el]
      rfl
    · refine ⟨S, fI_by tl_X12_told (gd_r rfl rfl) (fun kk => sg_X12_told_0 (nI s) y S kk) ?_, hR, cEq_refl S⟩
      simp only [m_isS1 hM h, Option.bind_some, i_10, if_false, e2, if_neg hin, q1, q2, q3, q4, q5, q6, q7, if_neg h7, m_stays h6 (hf s hs).1 (hf s hs).2]
      by_cases g0 : y = 0
      · simp only [if_pos g0]
      by_cases g1 : y = 1
      · simp only [if_neg g0, if_pos g1]
      by_cases g2 : y = 2
      · simp only [if_neg g0, if_neg g1, if_pos g2]
      by_cases g3 : y = 3
      · simp only [if_neg g0, if_neg g1, if_neg g2, if_pos g3]
      by_cases g4 : y = 4
      · simp only [if_neg g0, if_neg g1, if_neg g2, if_neg g3, if_pos g4]
      by_cases g5 : y = 5
      · simp only [if_neg g0, if_neg g1, if_neg g2, if_neg g3, if_neg g4, if_pos g5]
      by_cases g6 : y = 6
      · simp only [if_neg g0, if_neg g1, if_neg g2, if_neg g3, if_neg g4, if_neg g5, if_pos g6]
      by_cases g8 : y = 8
      · simp only [if_neg g0, if_neg g1, if_neg g2, if_neg g3, if_neg g4, if_neg g5, if_neg g6, if_pos g8]
      · simp only [if_neg g0, if_neg g1, if_neg g2, if_neg g3, if_neg g4, if_neg g5, if_neg g6, if_neg g8]
  · rw [if_neg h]
    refine ⟨S, fI_by tl_X12_told (gd_r rfl rfl) (fun kk => sg_X12_told_0 x y S kk) ?_, hR, cEq_refl S⟩
    simp only [m_isS0 hM h, Option.bind_some, if_true]
theorem m_word {w : sp_W} {S : ce_S} (hR : MR w S) (x y : Int32) : ∃ S', F_X12_word [.inr (.inl (20, 0)), .inl x, .inl y] S = some ((s_word w x y).1, S') ∧ MR (s_word w x y).2 S' ∧ cEq S S' := by
  obtain ⟨hM, hf⟩ := id hR
  unfold s_word
  by_cases h : isS w x
  · by_cases hy : isB y
    · obtain ⟨s, hs, h6, rfl, e2, hin, hsel⟩ := m_sel hM h
      rw [if_pos (And.intro h hy), hsel, e2]
      have h26 : ce_A S 26 0 s = sp_st (w_r w s) := (hf s hs).1.2.2.2.2.2.1
      by_cases ho : sp_st (w_r w s) = 0
      · rw [if_pos ho]
        obtain ⟨S1, b1, b2, bI, b3⟩ := m_speaks hM h6 (hf s hs).1 (hf s hs).2 hy
        refine ⟨S1, fI_by tl_X12_word (gd_r rfl rfl) (fun kk => sg_X12_word_0 (nI s) y S kk) ?_, MR_put hR b2 b3 (rok_hea (hf s hs).2 (by rw [ho]; decide) hy), cEq_mq b2.1⟩
        simp only [m_isS1 hM h, m_isB1 S hy, Option.bind_some, i_10, if_false, e2, if_neg hin, h26, if_pos ho, b1]
      · rw [if_neg ho]
        refine ⟨S, fI_by tl_X12_word (gd_r rfl rfl) (fun kk => sg_X12_word_0 (nI s) y S kk) ?_, hR, cEq_refl S⟩
        simp only [m_isS1 hM h, m_isB1 S hy, Option.bind_some, i_10, if_false, e2, if_neg hin, h26, if_neg ho]
    · rw [if_neg (show ¬ (isS w x ∧ isB y) from fun q => hy q.2)]
      refine ⟨S, fI_by tl_X12_word (gd_r rfl rfl) (fun kk => sg_X12_word_0 x y S kk) ?_, hR, cEq_refl S⟩
      simp only [m_isS1 hM h, m_isB0 S hy, Option.bind_some, i_10, if_false, if_true]
  · rw [if_neg (show ¬ (isS w x ∧ isB y) from fun q => h q.1)]
    refine ⟨S, fI_by tl_X12_word (gd_r rfl rfl) (fun kk => sg_X12_word_0 x y S kk) ?_, hR, cEq_refl S⟩
    simp only [m_isS0 hM h, Option.bind_some, if_true]
theorem m_agree {w : sp_W} {S : ce_S} (hR : MR w S) (x : Int32) : ∃ S', F_X12_agree [.inr (.inl (20, 0)), .inl x] S = some ((s_agree w x).1, S') ∧ MR (s_agree w x).2 S' ∧ cEq S S' := by
  obtain ⟨hM, hf⟩ := id hR
  unfold s_agree
  by_cases h : isS w x
  · obtain ⟨s, hs, h6, rfl, e2, hin, hsel⟩ := m_sel hM h
    rw [if_pos h, hsel, e2]
    have h26 : ce_A S 26 0 s = sp_st (w_r w s) := (hf s hs).1.2.2.2.2.2.1
    by_cases ho : sp_st (w_r w s) = 0
    · rw [if_pos ho]
      obtain ⟨S1, b1, b2, b3⟩ := m_agrees h6 (hf s hs).1
      refine ⟨S1, fI_by tl_X12_agree (gd_r rfl rfl) (fun kk => sg_X12_agree_0 (nI s) S kk) ?_, MR_put hR b2 b3 (rok_sell (hf s hs).2 (hf s hs).2.2.1), cEq_mq b2.1⟩
      simp only [m_isS1 hM h, Option.bind_some, i_10, if_false, e2, if_neg hin, h26, if_pos ho, b1]
    · rw [if_neg ho]
      refine ⟨S, fI_by tl_X12_agree (gd_r rfl rfl) (fun kk => sg_X12_agree_0 (nI s) S kk) ?_, hR, cEq_refl S⟩
      simp only [m_isS1 hM h, Option.bind_some, i_10, if_false, e2, if_neg hin, h26, if_neg ho]
  · rw [if_neg h]
    refine ⟨S, fI_by tl_X12_agree (gd_r rfl rfl) (fun kk => sg_X12_agree_0 x S kk) ?_, hR, cEq_refl S⟩
    simp only [m_isS0 hM h, Option.bind_some, if_true]
theorem MX_7 {w : sp_W} {S : ce_S} (hM : MX w S) (h6 : w_n w < 6) (r : sp_R) : MX (w_add w r) (ce_sI S 20 7 0 (nI (w_n w + 1))) := by
  obtain ⟨hn, ⟨c1, c2, c3, c4, c5, c6⟩, ⟨t1, t2, t3, t4⟩, hp, hh, ⟨i1, i2⟩, hw⟩ := hM
  have hI : ∀ k, k ≠ 7 → ce_I (ce_sI S 20 7 0 (nI (w_n w + 1))) 20 k 0 = ce_I S 20 k 0 := fun k hk => by rw [r_I_sI, if_pos rfl, if_neg hk]
  refine ⟨⟨by rw [r_I_sI]; rfl, (show w_n w + 1 ≤ 6 by omega)⟩, ⟨(hI 8 (by decide)).trans c1, (hI 9 (by decide)).trans c2, (hI 10 (by decide)).trans c3, (hI 11 (by decide)).trans c4, c5, c6⟩, ⟨(hI 19 (by decide)).trans t1, t2, t3, t4⟩, ⟨(hI 18 (by decide)).trans hp.1, hp.2⟩, hh, ⟨fun e => (hI 33 (by decide)).trans (i1 e), fun m f c e => ?_⟩, hw⟩
  obtain ⟨a1, a2, a3, a4, a5, a6, a7, a8, a9⟩ := i2 m f c e
  exact ⟨(hI 33 (by decide)).trans a1, (hI 28 (by decide)).trans a2, Nat.le_succ_of_le a3, a4, (hI 29 (by decide)).trans a5, (hI 30 (by decide)).trans a6, (hI 31 (by decide)).trans a7, (hI 32 (by decide)).trans a8, a9⟩
theorem m_comes {w : sp_W} {S : ce_S} (hR : MR w S) (x y : Int32) : ∃ S', F_X12_comes [.inr (.inl (20, 0)), .inl x, .inl y] S = some ((s_comes w x y).1, S') ∧ MR (s_comes w x y).2 S' ∧ cEq S S' := by
  obtain ⟨hM, hf⟩ := id hR
  have hn : w_n w ≤ 6 := hM.1.2
  unfold s_comes
  by_cases h1 : 0 ≤ x ∧ x ≤ 5
  · have h6x : x < 6 := by
      have := h1.2
      rw [i_le] at this; rw [i_lt]
      have e5 : ((5 : Int32)).toInt = 5 := by decide
      have e6 : ((6 : Int32)).toInt = 6 := by decide
      omega
    by_cases h2 : 0 ≤ y ∧ y ≤ 9999
    · rw [if_pos (show (0 ≤ x ∧ x < 6) ∧ 0 ≤ y ∧ y ≤ 9999 from ⟨⟨h1.1, h6x⟩, h2⟩)]
      by_cases h6 : w_n w = 6
      · rw [if_pos h6]
        refine ⟨S, fI_by tl_X12_comes (gd_r rfl rfl) (fun kk => sg_X12_comes_0 x y S kk) ?_, hR, cEq_refl S⟩
        have h7 : nI (w_n w) = 6 := by rw [h6]; rfl
        simp only [f_isIn1 S h1, f_isIn1 S h2, Option.bind_some, i_10, if_false, hM.1.1, if_pos h7]
      · rw [if_neg h6]
        obtain ⟨k, hk, rfl, ek2⟩ := i_nat (n := 6) (by decide) ⟨h1.1, h6x⟩
        rw [ek2]
        have h7 : ¬ nI (w_n w) = 6 := by rw [show (6 : Int32) = nI 6 from rfl, nJ_inj (by omega) (by omega)]; exact h6
        have e2 : (nI (w_n w)).toNatClampNeg = w_n w := nI_clamp (by omega)
        have hin : ¬ (nI (w_n w) < 0 ∨ 6 ≤ w_n w) := nJ_in (by omega) (by decide)
        have o1 : mq S (ce_sA (ce_sA (ce_sA S 21 0 (w_n w) (nI k)) 22 0 (w_n w) (y / 10)) 23 0 (w_n w) (y - y / 10 * 10)) := mq_trans (mq_trans (mq_sA S 21 0 _ _ (by decide)) (mq_sA _ 22 0 _ _ (by decide))) (mq_sA _ 23 0 _ _ (by decide))
        have M1 := MX_7 (MX_mq hM o1) (by omega) (sp_beg (w_E w) (k, y / 10, y - y / 10 * 10, 0, 0, 0, -1))
        have hmr : mr (ce_sI (ce_sA (ce_sA (ce_sA S 21 0 (w_n w) (nI k)) 22 0 (w_n w) (y / 10)) 23 0 (w_n w) (y - y / 10 * 10)) 20 7 0 (nI (w_n w + 1))) (w_n w) (k, y / 10, y - y / 10 * 10, ce_A S 24 0 (w_n w), ce_A S 25 0 (w_n w), ce_A S 26 0 (w_n w), ce_A S 27 0 (w_n w)) := by
          refine ⟨?_, ?_, ?_, ?_, ?_, ?_, ?_⟩ <;> simp only [r_I_sR, r_I_sA, r_I_sF, r_I_sQ, r_R_sI, r_R_sA, r_R_sF, r_R_sQ, r_A_sI, r_A_sR, r_A_sQ, r_L_sI, r_L_sR, r_L_sA, r_L_sF, r_L_sQ, r_C_sI, r_C_sR, r_C_sA, r_C_sF, r_C_sQ, r_Q_sI, r_Q_sR, r_Q_sA, r_Q_sF, r_I_sI, r_R_sR, r_A_sA, r_A_sF, r_Q_sQ, r_I_tA, r_R_tA, r_L_tA, r_C_tA, r_Q_tA, r_A_tA, reduceIte, Nat.reduceEqDiff] <;> rfl
        obtain ⟨S1, b1, b2, b3⟩ := m_begins M1 (by omega) hmr
        have b3 : mr S1 (w_n w) (sp_beg (w_E w) (k, y / 10, y - y / 10 * 10, 0, 0, 0, -1)) := b3
        have e1 : nI (w_n w + 1) - 1 = nI (w_n w) := by
          rw [← nJ_succ, Int32.sub_eq_add_neg, Int32.add_assoc, show (1 : Int32) + -1 = 0 by decide, Int32.add_zero]
        have M2 := MX_mq M1 b2.1
        have e7 : ce_I S1 20 7 0 = nI (w_n w + 1) := M2.1.1
        refine ⟨S1, fI_by tl_X12_comes (gd_r rfl rfl) (fun kk => sg_X12_comes_0 (nI k) y S kk) ?_, ⟨M2, fun i hi => ?_⟩, cEq_trans (cEq_trans (cEq_mq o1) (cEq_20 _ _ _ _)) (cEq_mq b2.1)⟩
        · simp only [f_isIn1 S h1, f_isIn1 S h2, Option.bind_some, i_10, if_false, hM.1.1, if_neg h7, e2, if_neg hin, q_add_eq, q_sub_eq, q_mul_eq, q_and_eq, q_div_eq, q_rem_eq, q_ushr_eq, q_neg_eq, q_i2b_eq, q_i2s_eq, nJ_succ, e1, b1, e7]
        · have hi : i < w_n w + 1 := hi
          show mr S1 i (w_put (w_r w) (w_n w) (sp_beg (w_E w) (k, y / 10, y - y / 10 * 10, 0, 0, 0, -1)) i) ∧ rok (w_put (w_r w) (w_n w) (sp_beg (w_E w) (k, y / 10, y - y / 10 * 10, 0, 0, 0, -1)) i)
          unfold w_put
          by_cases q : i = w_n w
          · subst q; rw [if_pos rfl]; exact ⟨b3, rok_beg _ hk⟩
          · rw [if_neg q, mo_mr b2 q]
            refine ⟨?_, (hf i (by omega)).2⟩
            exact mr_sI (mr_ne (mr_ne (mr_ne (hf i (by omega)).1 _ q) _ q) _ q) _ _ _ _
    · rw [if_neg (show ¬ ((0 ≤ x ∧ x < 6) ∧ 0 ≤ y ∧ y ≤ 9999) from fun q => h2 q.2)]
      refine ⟨S, fI_by tl_X12_comes (gd_r rfl rfl) (fun kk => sg_X12_comes_0 x y S kk) ?_, hR, cEq_refl S⟩
      simp only [f_isIn1 S h1, f_isIn0 S h2, Option.bind_some, i_10, if_false, if_true]
  · rw [if_neg (show ¬ ((0 ≤ x ∧ x < 6) ∧ 0 ≤ y ∧ y ≤ 9999) from fun q => h1 ⟨q.1.1, by
      have := q.1.2
      rw [i_lt] at this; rw [i_le]
      have e5 : ((5 : Int32)).toInt = 5 := by decide
      have e6 : ((6 : Int32)).toInt = 6 := by decide
      omega⟩)]
    refine ⟨S, fI_by tl_X12_comes (gd_r rfl rfl) (fun kk => sg_X12_comes_0 x y S kk) ?_, hR, cEq_refl S⟩
    simp only [f_isIn0 S h1, Option.bind_some, if_true]
theorem m_seller {w : sp_W} {S : ce_S} (hR : MR w S) (x y : Int32) : ∃ S', F_X12_seller [.inr (.inl (20, 0)), .inl x, .inl y] S = some ((s_comes w x y).1, S') ∧ MR (s_comes w x y).2 S' ∧ cEq S S' := by
  obtain ⟨S1, h1, h2, h3⟩ := m_comes hR x y
  exact ⟨S1, fI_by tl_X12_seller (gd_r rfl rfl) (fun kk => sg_X12_seller_0 x y S kk) (by rw [h1]; rfl), h2, h3⟩
theorem m_set {w : sp_W} {S : ce_S} (hR : MR w S) (x y v : Int32) : ∃ S', F_X12_set [.inr (.inl (20, 0)), .inl x, .inl y, .inl v] S = some ((s_set w x y v).1, S') ∧ MR (s_set w x y v).2 S' ∧ cEq S S' := by
  obtain ⟨hM, hf⟩ := id hR
  have hc := hM.2.1
  unfold s_set
  by_cases x3 : x = 3
  · subst x3
    simp only [if_true]
    have h03 : (0 : Int32) ≤ 3 ∧ (3 : Int32) ≤ 3 := by decide
    by_cases h1 : isS w y
    · by_cases h2 : 0 ≤ v ∧ v ≤ 999
      · obtain ⟨s, hs, h6, rfl, e2, hin, hsel⟩ := m_sel hM h1
        rw [if_pos (show isS w (nI s) ∧ 0 ≤ v ∧ v ≤ 999 from ⟨h1, h2⟩), hsel, e2]
        have o1 : mq S (ce_sA S 22 0 s v) := mq_sA S 22 0 s _ (by decide)
        obtain ⟨S1, b1, b2, b3⟩ := m_begins (MX_mq hM o1) h6 (mr_22 (hf s hs).1 v)
        have h22 : ce_A S 22 0 s = sp_co (w_r w s) := (hf s hs).1.2.1
        refine ⟨S1, fI_by tl_X12_set (gd_r rfl rfl) (fun kk => sg_X12_set_0 3 (nI s) v S kk) ?_, ⟨MX_mq hM (mq_trans o1 b2.1), fun i hi => ?_⟩, cEq_mq (mq_trans o1 b2.1)⟩
        · simp only [f_isIn1 S h03, Option.bind_some, i_10, if_false, if_neg (show ¬ ((3 : Int32) = 0) by decide), if_neg (show ¬ ((3 : Int32) = 1) by decide), if_neg (show ¬ ((3 : Int32) = 2) by decide), if_true, m_isS1 hM h1]
          refine ce_kk_of (ce_by tl_X12_set (fun kk => sg_X12_set_30 3 (nI s) v 999 none S kk) ?_)
          simp only [f_isIn1 S h2, Option.bind_some, i_10, if_false, if_neg (show ¬ ((3 : Int32) = 0) by decide), if_neg (show ¬ ((3 : Int32) = 1) by decide), if_neg (show ¬ ((3 : Int32) = 2) by decide), e2, if_neg hin, h22]
          refine ce_kk_of (ce_by tl_X12_set (fun kk => sg_X12_set_64 3 (nI s) v 999 (sp_co (w_r w s)) S kk) ?_)
          simp only [if_neg (show ¬ ((3 : Int32) = 1) by decide)]
          refine ce_kk_of (ce_by tl_X12_set (fun kk => sg_X12_set_70 3 (nI s) v 999 (sp_co (w_r w s)) S kk) ?_)
          simp only [if_neg (show ¬ ((3 : Int32) = 2) by decide)]
          refine ce_kk_of (ce_by tl_X12_set (fun kk => sg_X12_set_76 3 (nI s) v 999 (sp_co (w_r w s)) S kk) ?_)
          simp only [if_true, e2, if_neg hin, b1, Option.bind_some]
          exact ce_kk_of (ce_by tl_X12_set (fun kk => sg_X12_set_87 3 (nI s) v 999 (sp_co (w_r w s)) S1 kk) rfl)
        · show mr S1 i (w_put (w_r w) s (sp_beg (w_E w) (sp_wc (w_r w s) v)) i) ∧ rok (w_put (w_r w) s (sp_beg (w_E w) (sp_wc (w_r w s) v)) i)
          unfold w_put
          by_cases q : i = s
          · subst q; rw [if_pos rfl]; exact ⟨b3, rok_beg _ (hf i hi).2.1⟩
          · rw [if_neg q, mo_mr b2 q]; exact ⟨mr_ne (hf i hi).1 _ q, (hf i hi).2⟩
      · rw [if_neg (show ¬ (isS w y ∧ 0 ≤ v ∧ v ≤ 999) from fun q => h2 q.2)]
        refine ⟨S, fI_by tl_X12_set (gd_r rfl rfl) (fun kk => sg_X12_set_0 3 y v S kk) ?_, hR, cEq_refl S⟩
        simp only [f_isIn1 S h03, Option.bind_some, i_10, if_false, if_neg (show ¬ ((3 : Int32) = 0) by decide), if_neg (show ¬ ((3 : Int32) = 1) by decide), if_neg (show ¬ ((3 : Int32) = 2) by decide), if_true, m_isS1 hM h1]
        refine ce_kk_of (ce_by tl_X12_set (fun kk => sg_X12_set_30 3 y v 999 none S kk) ?_)
        simp only [f_isIn0 S h2, Option.bind_some, if_true]
        exact ce_kk_of (ce_by tl_X12_set (fun kk => sg_X12_set_35 3 y v 999 none S kk) rfl)
    · rw [if_neg (show ¬ (isS w y ∧ 0 ≤ v ∧ v ≤ 999) from fun q => h1 q.1)]
      refine ⟨S, fI_by tl_X12_set (gd_r rfl rfl) (fun kk => sg_X12_set_0 3 y v S kk) ?_, hR, cEq_refl S⟩
      simp only [f_isIn1 S h03, Option.bind_some, i_10, if_false, if_neg (show ¬ ((3 : Int32) = 0) by decide), if_neg (show ¬ ((3 : Int32) = 1) by decide), if_neg (show ¬ ((3 : Int32) = 2) by decide), if_true, m_isS0 hM h1]
      exact ce_kk_of (ce_by tl_X12_set (fun kk => sg_X12_set_35 3 y v 999 none S kk) rfl)
  simp only [if_neg x3]
  by_cases x0 : x = 0
  · subst x0
    simp only [if_true]
    have h03 : (0 : Int32) ≤ 0 ∧ (0 : Int32) ≤ 3 := by decide
    by_cases h2 : 0 ≤ v ∧ v ≤ 9
    · rw [if_pos h2]
      refine ⟨ce_sI S 20 8 0 v, fI_by tl_X12_set (gd_r rfl rfl) (fun kk => sg_X12_set_0 0 y v S kk) ?_, ⟨MX_8 hM v, hf⟩, cEq_20 _ _ _ _⟩
      simp only [f_isIn1 S h03, Option.bind_some, i_10, if_false, if_true, if_neg x3]
      refine ce_kk_of (ce_by tl_X12_set (fun kk => sg_X12_set_30 0 y v 9 none S kk) ?_)
      simp only [f_isIn1 S h2, Option.bind_some, i_10, if_false, if_true, hc.1]
      refine ce_kk_of (ce_by tl_X12_set (fun kk => sg_X12_set_64 0 y v 9 (w_sh w) _ kk) ?_)
      simp only [if_neg (show ¬ ((0 : Int32) = 1) by decide)]
      refine ce_kk_of (ce_by tl_X12_set (fun kk => sg_X12_set_70 0 y v 9 (w_sh w) _ kk) ?_)
      simp only [if_neg (show ¬ ((0 : Int32) = 2) by decide)]
      refine ce_kk_of (ce_by tl_X12_set (fun kk => sg_X12_set_76 0 y v 9 (w_sh w) _ kk) ?_)
      simp only [if_neg x3]
      exact ce_kk_of (ce_by tl_X12_set (fun kk => sg_X12_set_87 0 y v 9 (w_sh w) _ kk) rfl)
    · rw [if_neg h2]
      refine ⟨S, fI_by tl_X12_set (gd_r rfl rfl) (fun kk => sg_X12_set_0 0 y v S kk) ?_, hR, cEq_refl S⟩
      simp only [f_isIn1 S h03, Option.bind_some, i_10, if_false, if_true, if_neg x3]
      refine ce_kk_of (ce_by tl_X12_set (fun kk => sg_X12_set_30 0 y v 9 none S kk) ?_)
      simp only [f_isIn0 S h2, Option.bind_some, if_true]
      exact ce_kk_of (ce_by tl_X12_set (fun kk => sg_X12_set_35 0 y v 9 none S kk) rfl)
  simp only [if_neg x0]
  by_cases x1 : x = 1
  · subst x1
    simp only [if_true]
    have h03 : (0 : Int32) ≤ 1 ∧ (1 : Int32) ≤ 3 := by decide
    by_cases h2 : 0 ≤ v ∧ v ≤ 23
    · rw [if_pos h2]
      refine ⟨ce_sI S 20 9 0 v, fI_by tl_X12_set (gd_r rfl rfl) (fun kk => sg_X12_set_0 1 y v S kk) ?_, ⟨MX_9 hM v, hf⟩, cEq_20 _ _ _ _⟩
      simp only [f_isIn1 S h03, Option.bind_some, i_10, if_false, if_true, if_neg x3]
      refine ce_kk_of (ce_by tl_X12_set (fun kk => sg_X12_set_30 1 y v 23 none S kk) ?_)
      simp only [f_isIn1 S h2, Option.bind_some, i_10, if_false, if_true, hc.2.1]
      refine ce_kk_of (ce_by tl_X12_set (fun kk => sg_X12_set_64 1 y v 23 (w_ho w) _ kk) ?_)
      simp only [if_true]
      refine ce_kk_of (ce_by tl_X12_set (fun kk => sg_X12_set_70 1 y v 23 (w_ho w) _ kk) ?_)
      simp only [if_neg (show ¬ ((1 : Int32) = 2) by decide)]
      refine ce_kk_of (ce_by tl_X12_set (fun kk => sg_X12_set_76 1 y v 23 (w_ho w) _ kk) ?_)
      simp only [if_neg x3]
      exact ce_kk_of (ce_by tl_X12_set (fun kk => sg_X12_set_87 1 y v 23 (w_ho w) _ kk) rfl)
    · rw [if_neg h2]
      refine ⟨S, fI_by tl_X12_set (gd_r rfl rfl) (fun kk => sg_X12_set_0 1 y v S kk) ?_, hR, cEq_refl S⟩
      simp only [f_isIn1 S h03, Option.bind_some, i_10, if_false, if_true, if_neg x3]
      refine ce_kk_of (ce_by tl_X12_set (fun kk => sg_X12_set_30 1 y v 23 none S kk) ?_)
      simp only [f_isIn0 S h2, Option.bind_some, if_true]
      exact ce_kk_of (ce_by tl_X12_set (fun kk => sg_X12_set_35 1 y v 23 none S kk) rfl)
  simp only [if_neg x1]
  by_cases x2 : x = 2
  · subst x2
    simp only [if_true]
    have h03 : (0 : Int32) ≤ 2 ∧ (2 : Int32) ≤ 3 := by decide
    by_cases h2 : 0 ≤ v ∧ v ≤ 1999
    · rw [if_pos h2]
      refine ⟨ce_sI S 20 10 0 v, fI_by tl_X12_set (gd_r rfl rfl) (fun kk => sg_X12_set_0 2 y v S kk) ?_, ⟨MX_10 hM h2, hf⟩, cEq_20 _ _ _ _⟩
      simp only [f_isIn1 S h03, Option.bind_some, i_10, if_false, if_true, if_neg x3, if_neg x0, if_neg x1]
      refine ce_kk_of (ce_by tl_X12_set (fun kk => sg_X12_set_30 2 y v 1999 none S kk) ?_)
      simp only [f_isIn1 S h2, Option.bind_some, i_10, if_false, if_true, if_neg x0, if_neg x1, hc.2.2.1]
      refine ce_kk_of (ce_by tl_X12_set (fun kk => sg_X12_set_64 2 y v 1999 (w_li w) _ kk) ?_)
      simp only [if_neg x1]
      refine ce_kk_of (ce_by tl_X12_set (fun kk => sg_X12_set_70 2 y v 1999 (w_li w) _ kk) ?_)
      simp only [if_true]
      refine ce_kk_of (ce_by tl_X12_set (fun kk => sg_X12_set_76 2 y v 1999 (w_li w) _ kk) ?_)
      simp only [if_neg x3]
      exact ce_kk_of (ce_by tl_X12_set (fun kk => sg_X12_set_87 2 y v 1999 (w_li w) _ kk) rfl)
    · rw [if_neg h2]
      refine ⟨S, fI_by tl_X12_set (gd_r rfl rfl) (fun kk => sg_X12_set_0 2 y v S kk) ?_, hR, cEq_refl S⟩
      simp only [f_isIn1 S h03, Option.bind_some, i_10, if_false, if_true, if_neg x3, if_neg x0, if_neg x1]
      refine ce_kk_of (ce_by tl_X12_set (fun kk => sg_X12_set_30 2 y v 1999 none S kk) ?_)
      simp only [f_isIn0 S h2, Option.bind_some, if_true]
      exact ce_kk_of (ce_by tl_X12_set (fun kk => sg_X12_set_35 2 y v 1999 none S kk) rfl)
  simp only [if_neg x2]
  refine ⟨S, fI_by tl_X12_set (gd_r rfl rfl) (fun kk => sg_X12_set_0 x y v S kk) ?_, hR, cEq_refl S⟩
  have hno : ¬ (0 ≤ x ∧ x ≤ 3) := by
    rw [i_le, i_le]; rw [i_eq] at x0 x1 x2 x3
    have e0 : ((0 : Int32)).toInt = 0 := by decide
    have e1 : ((1 : Int32)).toInt = 1 := by decide
    have e2 : ((2 : Int32)).toInt = 2 := by decide
    have e3 : ((3 : Int32)).toInt = 3 := by decide
    omega
  simp only [f_isIn0 S hno, Option.bind_some, if_true]
theorem MX_feed {w : sp_W} {S : ce_S} (hM : MX w S) (hl : (w_p w).length < 160) (x : Int32) : MX (w_setp w (w_p w ++ [x])) (ce_sI (ce_sA S 28 0 (w_p w).length x) 20 18 0 (nI ((w_p w).length + 1))) := by
  obtain ⟨hn, ⟨c1, c2, c3, c4, c5, c6⟩, ⟨t1, t2, t3, t4⟩, hp, hh, ⟨i1, i2⟩, hw⟩ := hM
  have hI : ∀ k, k ≠ 18 → ce_I (ce_sI (ce_sA S 28 0 (w_p w).length x) 20 18 0 (nI ((w_p w).length + 1))) 20 k 0 = ce_I S 20 k 0 := fun k hk => by rw [r_I_sI, if_pos rfl, if_neg hk]; rfl
  have hA : ∀ t, t ≠ 28 → ce_A (ce_sI (ce_sA S 28 0 (w_p w).length x) 20 18 0 (nI ((w_p w).length + 1))) t = ce_A S t := fun t ht => by
    funext a b
    show ce_A (ce_sA S 28 0 (w_p w).length x) t a b = _
    rw [r_A_sA, if_neg ht]
  refine ⟨⟨(hI 7 (by decide)).trans hn.1, hn.2⟩, ⟨(hI 8 (by decide)).trans c1, (hI 9 (by decide)).trans c2, (hI 10 (by decide)).trans c3, (hI 11 (by decide)).trans c4, c5, c6⟩, ⟨(hI 19 (by decide)).trans t1, t2, t3, fun k hk => ?_⟩, ⟨?_, ?_, fun e he => ?_⟩, fun i hi => ?_, ⟨fun e => (hI 33 (by decide)).trans (i1 e), fun m f c e => ?_⟩, fun k hk => ?_⟩
  · have := t4 k hk
    unfold m_row at this ⊢
    rw [hA 30 (by decide), hA 29 (by decide)]; exact this
  · rw [r_I_sI]
    show _ = nI (w_p w ++ [x]).length
    rw [List.length_append]; rfl
  · show (w_p w ++ [x]).length ≤ 160
    rw [List.length_append]
    show (w_p w).length + 1 ≤ 160
    omega
  · show ce_A (ce_sA S 28 0 (w_p w).length x) 28 0 e = (w_p w ++ [x]).getD e 0
    have he : e < (w_p w ++ [x]).length := he
    rw [List.length_append] at he
    have he : e < (w_p w).length + 1 := he
    rw [r_A_sA, if_pos rfl, if_pos rfl]
    by_cases q : e = (w_p w).length
    · subst q; simp
    · rw [if_neg q, hp.2.2 e (by omega)]
      simp only [List.getD_eq_getElem?_getD]
      rw [List.getElem?_append_left (by omega)]
  · rw [hA 34 (by decide), hA 35 (by decide), hA 36 (by decide)]; exact hh i hi
  · obtain ⟨a1, a2, a3, a4, a5, a6, a7, a8, a9⟩ := i2 m f c e
    refine ⟨(hI 33 (by decide)).trans a1, (hI 28 (by decide)).trans a2, a3, fun i hi => ?_, (hI 29 (by decide)).trans a5, (hI 30 (by decide)).trans a6, (hI 31 (by decide)).trans a7, (hI 32 (by decide)).trans a8, a9⟩
    have := a4 i hi
    unfold kpt at this ⊢
    rw [hA 33 (by decide)]; exact this
  · rw [hA 41 (by decide)]; exact hw k hk
theorem MSr_A {n : Nat} {f : Nat → sp_R} {S S' : ce_S} (h : MSr n f S) (g : ∀ t, 21 ≤ t → t ≤ 27 → ce_A S' t = ce_A S t) : MSr n f S' := fun i hi => ⟨by rw [mr_same g]; exact (h i hi).1, (h i hi).2⟩
theorem m_feed {w : sp_W} {S : ce_S} (hR : MR w S) (x : Int32) : ∃ S', F_X12_feed [.inr (.inl (20, 0)), .inl x] S = some ((s_feed w x).1, S') ∧ MR (s_feed w x).2 S' ∧ cEq S S' := by
  obtain ⟨hM, hf⟩ := id hR
  have hp := hM.2.2.2.1
  unfold s_feed
  by_cases h : 0 ≤ x ∧ x ≤ 255
  · rw [if_pos h]
    by_cases h6 : (w_p w).length = 160
    · rw [if_pos h6]
      refine ⟨S, fI_by tl_X12_feed (gd_r rfl rfl) (fun kk => sg_X12_feed_0 x S kk) ?_, hR, cEq_refl S⟩
      have h7 : nI (w_p w).length = 160 := by rw [h6]; rfl
      simp only [f_isIn1 S h, Option.bind_some, i_10, if_false, hp.1, if_pos h7]
    · rw [if_neg h6]
      have hl : (w_p w).length < 160 := by have := hp.2.1; omega
      have h7 : ¬ nI (w_p w).length = 160 := by rw [show (160 : Int32) = nI 160 from rfl, nJ_inj (by omega) (by omega)]; exact h6
      have e2 : (nI (w_p w).length).toNatClampNeg = (w_p w).length := nI_clamp (by omega)
      have hin : ¬ (nI (w_p w).length < 0 ∨ 160 ≤ (w_p w).length) := nJ_in hl (by decide)
      refine ⟨ce_sI (ce_sA S 28 0 (w_p w).length x) 20 18 0 (nI ((w_p w).length + 1)), fI_by tl_X12_feed (gd_r rfl rfl) (fun kk => sg_X12_feed_0 x S kk) ?_, ⟨MX_feed hM hl x, MSr_A hf (fun t h1 h2 => by
        funext a b
        show ce_A (ce_sA S 28 0 (w_p w).length x) t a b = _
        rw [r_A_sA, if_neg (by omega)])⟩, cEq_trans (cEq_sA _ _ _ _ _ (by decide)) (cEq_20 _ _ _ _)⟩
      simp only [f_isIn1 S h, Option.bind_some, i_10, if_false, hp.1, if_neg h7, e2, if_neg hin, q_add_eq, nJ_succ]
  · rw [if_neg h]
    refine ⟨S, fI_by tl_X12_feed (gd_r rfl rfl) (fun kk => sg_X12_feed_0 x S kk) ?_, hR, cEq_refl S⟩
    simp only [f_isIn0 S h, Option.bind_some, if_true]
theorem nI_pm (n : Nat) : nI (n + 1) - 1 = nI n := by
  rw [← nJ_succ, Int32.sub_eq_add_neg, Int32.add_assoc, show (1 : Int32) + -1 = 0 by decide, Int32.add_zero]
theorem m_force {w : sp_W} {S : ce_S} (hR : MR w S) (x : Int32) : ∃ S', F_X12_force [.inr (.inl (20, 0)), .inl x] S = some ((s_force w x).1, S') ∧ MR (s_force w x).2 S' ∧ cEq S S' := by
  obtain ⟨hM, hf⟩ := id hR
  obtain ⟨t1, t2, t3, t4⟩ := hM.2.2.1
  have en : ce_I S 20 19 0 - 1 = nI (w_nt w - 1) := by
    rw [t1, show w_nt w = (w_nt w - 1) + 1 by omega, nI_pm]; simp
  unfold s_force
  by_cases h : 0 ≤ x ∧ x < nI (w_nt w)
  · rw [if_pos h]
    obtain ⟨k, hk, rfl, ek2⟩ := i_nat (n := w_nt w) (by omega) h
    have h2 : 0 ≤ nI k ∧ nI k ≤ nI (w_nt w - 1) := ⟨h.1, by rw [nJ_le (by omega) (by omega)]; omega⟩
    rw [ek2]
    refine ⟨ce_sI S 20 11 0 (nI k), fI_by tl_X12_force (gd_r rfl rfl) (fun kk => sg_X12_force_0 (nI k) S kk) ?_, ⟨MX_11 hM hk, hf⟩, cEq_20 _ _ _ _⟩
    simp only [q_sub_eq, en, f_isIn1 S h2, Option.bind_some, i_10, if_false, hM.2.1.2.2.2.1]
  · rw [if_neg h]
    have h2 : ¬ (0 ≤ x ∧ x ≤ nI (w_nt w - 1)) := fun q => h ⟨q.1, by
      have := q.2
      rw [i_le, i_nI (by omega)] at this
      rw [i_lt, i_nI (by omega)]; omega⟩
    refine ⟨S, fI_by tl_X12_force (gd_r rfl rfl) (fun kk => sg_X12_force_0 x S kk) ?_, hR, cEq_refl S⟩
    simp only [q_sub_eq, en, f_isIn0 S h2, Option.bind_some, if_true]
theorem m_und (S : ce_S) (k c : Nat) (hk : k < 6) (hc : c < 6) : F_X12_isUnder [.inl (nI k), .inl (nI c)] S = some (sp_b (sp_und k (nI c)), S) := by
  refine fI_by tl_X12_isUnder (gd_n rfl rfl) (fun kk => sg_X12_isUnder_0 (nI k) (nI c) S kk) ?_
  have : ∀ (k c : Fin 6), (if nI k.1 = nI c.1 then (1 : Int32) else if nI c.1 = 0 then 1 else if nI c.1 = 1 then (if (3 : Int32) < nI k.1 then 1 else if nI c.1 = 2 then (if nI k.1 = 3 then 1 else 0) else 0) else if nI c.1 = 2 then (if nI k.1 = 3 then 1 else 0) else 0) = sp_b (sp_und k.1 (nI c.1)) := by decide +kernel
  have h := this ⟨k, hk⟩ ⟨c, hc⟩
  simp only at h
  rw [← h]
  by_cases a1 : nI k = nI c
  · simp only [if_pos a1]
  by_cases a2 : nI c = 0
  · simp only [if_neg a1, if_pos a2]
  by_cases a3 : nI c = 1
  · simp only [if_neg a1, if_neg a2, if_pos a3]
    by_cases a4 : (3 : Int32) < nI k
    · simp only [if_pos a4]
    · simp only [if_neg a4]
      by_cases a5 : nI c = 2
      · simp only [if_pos a5]
        by_cases a6 : nI k = 3
        · simp only [if_pos a6]
        · simp only [if_neg a6]
      · simp only [if_neg a5]
  by_cases a5 : nI c = 2
  · simp only [if_neg a1, if_neg a2, if_neg a3, if_pos a5]
    by_cases a6 : nI k = 3
    · simp only [if_pos a6]
    · simp only [if_neg a6]
  · simp only [if_neg a1, if_neg a2, if_neg a3, if_neg a5]
theorem m_taken {w : sp_W} {S : ce_S} (hR : MR w S) (x y : Int32) : F_X12_taken [.inr (.inl (20, 0)), .inl x, .inl y] S = some (s_taken w x y, S) := by
  obtain ⟨hM, hf⟩ := id hR
  unfold s_taken
  refine fI_by tl_X12_taken (gd_r rfl rfl) (fun kk => sg_X12_taken_0 x y S kk) ?_
  by_cases h : 0 ≤ y ∧ y ≤ 5
  · obtain ⟨c, hc, rfl, ec2⟩ := i_nat (x := y) (n := 6) (by decide) ⟨h.1, by
      have := h.2
      rw [i_le] at this; rw [i_lt]
      have e2 : ((5 : Int32)).toInt = 5 := by decide
      have e3 : (nI 6).toInt = 6 := by decide
      omega⟩
    rw [if_pos h]
    by_cases h1 : isS w x
    · obtain ⟨s, hs, h6', rfl, e2, hin, hsel⟩ := m_sel hM h1
      obtain ⟨q1, q2, q3, q4, q5, q6, q7⟩ := (hf s hs).1
      rw [if_pos h1, hsel]
      simp only [f_isIn1 S h, m_isS1 hM h1, Option.bind_some, i_10, if_false, e2, if_neg hin, q1, m_und S _ c (hf s hs).2.1 hc, sp_b_0, q3]
      cases q : sp_und (sp_k (w_r w s)) (nI c) <;> simp
    · rw [if_neg h1]
      simp only [f_isIn1 S h, m_isS0 hM h1, Option.bind_some, i_10, if_false, if_true]
  · rw [if_neg h]
    simp only [f_isIn0 S h, Option.bind_some, if_true]
