/-! the component's other methods -/
theorem mEq_of {S S' : ce_S} (h : qt S S') : mEq S S' := mEq_qt h
theorem beg_eq (E : sp_E) (k : Nat) (c n a b d e : Int32) : sp_beg E (k, c, n, a, b, d, e) = sp_beg E (k, c, n, 0, 0, 0, -1) := rfl
/-- one more seller -/
theorem CR_add {w : sp_W} {S : ce_S} (hC : CR w S) (h6 : w_n w < 6) (r : sp_R) : CR (w_add w r) (ce_sI (wS (ce_sI S 11 1 (3 * w_n w) (nI (sp_k r))) (3 * w_n w) r) 0 6 0 (nI (w_n w + 1))) := by
  obtain ⟨⟨n1, n2⟩, hr, ⟨c1, c2, c3, c4, c5⟩, ⟨t1, t2, t3, t4, t5⟩, ⟨p1, p2, p3⟩, hh, ⟨i1, i2⟩⟩ := hC
  have hI : ∀ t k i, t ≠ 11 → t ≠ 0 → ce_I (ce_sI (wS (ce_sI S 11 1 (3 * w_n w) (nI (sp_k r))) (3 * w_n w) r) 0 6 0 (nI (w_n w + 1))) t k i = ce_I S t k i := fun t k i h h0 => by
    rw [r_I_sI, if_neg h0, wS_I _ _ _ _ _ _ h, r_I_sI, if_neg h]
  have hI0 : ∀ k, k ≠ 6 → ce_I (ce_sI (wS (ce_sI S 11 1 (3 * w_n w) (nI (sp_k r))) (3 * w_n w) r) 0 6 0 (nI (w_n w + 1))) 0 k 0 = ce_I S 0 k 0 := fun k h => by
    rw [r_I_sI, if_pos rfl, if_neg h, wS_I _ _ _ _ _ _ (by decide), r_I_sI, if_neg (by decide)]
  have hR : ∀ t k i, t ≠ 11 → ce_R (ce_sI (wS (ce_sI S 11 1 (3 * w_n w) (nI (sp_k r))) (3 * w_n w) r) 0 6 0 (nI (w_n w + 1))) t k i = ce_R S t k i := fun t k i h => by
    show ce_R (wS (ce_sI S 11 1 (3 * w_n w) (nI (sp_k r))) (3 * w_n w) r) t k i = _
    rw [wS_R _ _ _ _ _ _ h]; rfl
  have hrc : ∀ j, j ≠ 3 * w_n w → rc (ce_sI (wS (ce_sI S 11 1 (3 * w_n w) (nI (sp_k r))) (3 * w_n w) r) 0 6 0 (nI (w_n w + 1))) j = rc S j := fun j h => by
    show rc (wS (ce_sI S 11 1 (3 * w_n w) (nI (sp_k r))) (3 * w_n w) r) j = _
    rw [rc_wS_ne _ _ _ _ h]; rfl
  have htx : ∀ k, txok (ce_sI (wS (ce_sI S 11 1 (3 * w_n w) (nI (sp_k r))) (3 * w_n w) r) 0 6 0 (nI (w_n w + 1))) k = txok S k ∧ txt (ce_sI (wS (ce_sI S 11 1 (3 * w_n w) (nI (sp_k r))) (3 * w_n w) r) 0 6 0 (nI (w_n w + 1))) k = txt S k := fun k => by
    unfold txok txt
    rw [hI _ _ _ (by decide) (by decide), hI _ _ _ (by decide) (by decide)]
    exact ⟨rfl, rfl⟩
  refine ⟨⟨by rw [r_I_sI]; rfl, (show w_n w + 1 ≤ 6 by omega)⟩, fun i hi => ?_, ⟨(hI _ _ _ (by decide) (by decide)).trans c1, (hI _ _ _ (by decide) (by decide)).trans c2, (hI _ _ _ (by decide) (by decide)).trans c3, (hI _ _ _ (by decide) (by decide)).trans c4, (hR _ _ _ (by decide)).trans c5⟩, ⟨(hI0 7 (by decide)).trans t1, t2, t3, t4, fun k hk => ?_⟩, ⟨(hI _ _ _ (by decide) (by decide)).trans p1, p2, p3⟩, fun i hi => ?_, ?_, ?_⟩
  · have hi : i < w_n w + 1 := hi
    show rc _ (3 * i) = w_put (w_r w) (w_n w) r i ∧ ce_I _ 11 1 (3 * i) = nI (sp_k (w_put (w_r w) (w_n w) r i))
    unfold w_put
    by_cases e : i = w_n w
    · subst e
      rw [if_pos rfl]
      refine ⟨?_, ?_⟩
      · show rc (wS (ce_sI S 11 1 (3 * w_n w) (nI (sp_k r))) (3 * w_n w) r) (3 * w_n w) = r
        rw [rc_wS]
      · show ce_I (wS (ce_sI S 11 1 (3 * w_n w) (nI (sp_k r))) (3 * w_n w) r) 11 1 (3 * w_n w) = nI (sp_k r)
        rw [wS_I1, r_I_sI]; simp only [if_true]
    · rw [if_neg e, hrc _ (by omega)]
      refine ⟨(hr i (by omega)).1, ?_⟩
      show ce_I (wS (ce_sI S 11 1 (3 * w_n w) (nI (sp_k r))) (3 * w_n w) r) 11 1 (3 * i) = nI (sp_k (w_r w i))
      rw [wS_I1, r_I_sI, if_pos rfl, if_pos rfl, if_neg (by omega)]
      exact (hr i (by omega)).2
  · rw [(htx k).1, (htx k).2]; exact t5 k hk
  · rw [hI _ _ _ (by decide) (by decide), hI _ _ _ (by decide) (by decide)]; exact hh i hi
  · intro e; rw [hI0 13 (by decide)]; exact i1 e
  · intro m f c e
    obtain ⟨a1, a2, a3, a4, a5, a6, a7, a8, a9⟩ := i2 m f c e
    refine ⟨(hI0 13 (by decide)).trans a1, Nat.le_succ_of_le a2, fun i hi => ?_, (hI _ _ _ (by decide) (by decide)).trans a4, (hI _ _ _ (by decide) (by decide)).trans a5, (hI _ _ _ (by decide) (by decide)).trans a6, (hI _ _ _ (by decide) (by decide)).trans a7, (hR _ _ _ (by decide)).trans a8, a9⟩
    rw [hrc _ (by omega)]; exact a3 i hi
theorem c_comes {w : sp_W} {S : ce_S} (hC : CR w S) (x y : Int32) : ∃ S', F_X11_comes [.inr (.inl (0, 0)), .inl x, .inl y] S = some ((s_comes w x y).1, S') ∧ CR (s_comes w x y).2 S' ∧ mEq S S' := by
  unfold s_comes
  have hn : w_n w ≤ 6 := hC.1.2
  by_cases h : (0 ≤ x ∧ x < 6) ∧ 0 ≤ y ∧ y ≤ 9999
  · obtain ⟨h1, h2, h3⟩ := id h
    obtain ⟨k, hk, ek, ek2⟩ := i_nat (n := 6) (by decide) h1
    have hin6 : ¬ (6 : Int32) ≤ x := i_lt_not h1.2
    have hkin : ¬ (x < 0 ∨ 6 ≤ k) := by rw [ek]; exact nJ_in hk (by decide)
    by_cases h6 : w_n w = 6
    · refine ⟨S, fI_by tl_X11_comes (gd_r rfl rfl) (fun kk => sg_X11_comes_0 x y S kk) ?_, ?_, mEq_refl S⟩
      · have h7 : ¬ nI (w_n w) < 6 := by rw [h6]; decide
        simp only [if_neg (i_le_not h1.1), if_neg hin6, if_neg (i_le_not h2), if_pos h3, hC.1.1, if_neg h7, if_pos h, if_pos h6]
      · simp only [if_pos h, if_pos h6]; exact hC
    · have h7 : nI (w_n w) < 6 := by rw [show (6 : Int32) = nI 6 from rfl, nJ_lt (by omega) (by omega)]; omega
      have hnin : ¬ (nI (w_n w) < 0 ∨ 6 ≤ w_n w) := nJ_in (by omega) (by decide)
      have ecl : (nI (w_n w)).toNatClampNeg = w_n w := nI_clamp (by omega)
      have e0 : ce_sI (ce_sI (ce_sI (ce_sR S 11 0 (3 * w_n w) k) 11 1 (3 * w_n w) x) 11 2 (3 * w_n w) (y / 10)) 11 3 (3 * w_n w) (y - y / 10 * 10) = wS (ce_sI S 11 1 (3 * w_n w) x) (3 * w_n w) (k, y / 10, y - y / 10 * 10, sp_sa (rc S (3 * w_n w)), sp_cu (rc S (3 * w_n w)), sp_st (rc S (3 * w_n w)), sp_pr (rc S (3 * w_n w))) := by
        rw [← sR_sI S 11 0 (3 * w_n w) k 11 1 (3 * w_n w) x, s0_wS, wS_s2, wS_s3]; rfl
      have q1 : mEq S (wS (ce_sI S 11 1 (3 * w_n w) x) (3 * w_n w) (k, y / 10, y - y / 10 * 10, sp_sa (rc S (3 * w_n w)), sp_cu (rc S (3 * w_n w)), sp_st (rc S (3 * w_n w)), sp_pr (rc S (3 * w_n w)))) := mEq_trans (mEq_sI _ _ _ _ _ (by decide)) (mEq_wS _ _ _)
      have hE : scE (wS (ce_sI S 11 1 (3 * w_n w) x) (3 * w_n w) (k, y / 10, y - y / 10 * 10, sp_sa (rc S (3 * w_n w)), sp_cu (rc S (3 * w_n w)), sp_st (rc S (3 * w_n w)), sp_pr (rc S (3 * w_n w)))) 0 = w_E w := by
        rw [scE_wS, ← CR_E hC]; rfl
      have hok : txok (wS (ce_sI S 11 1 (3 * w_n w) x) (3 * w_n w) (k, y / 10, y - y / 10 * 10, sp_sa (rc S (3 * w_n w)), sp_cu (rc S (3 * w_n w)), sp_st (rc S (3 * w_n w)), sp_pr (rc S (3 * w_n w)))) (ce_R (wS (ce_sI S 11 1 (3 * w_n w) x) (3 * w_n w) (k, y / 10, y - y / 10 * 10, sp_sa (rc S (3 * w_n w)), sp_cu (rc S (3 * w_n w)), sp_st (rc S (3 * w_n w)), sp_pr (rc S (3 * w_n w)))) 12 4 0) := by
        rw [txok_wS, wS_R _ _ _ _ _ _ (by decide)]
        exact (CR_ok hC : txok S (ce_R S 12 4 0))
      obtain ⟨f, b1⟩ := f_begin _ (3 * w_n w) 0 hok
      rw [hE, rc_wS, wS_wS, beg_eq] at b1
      have hfin := CR_add hC (by omega) (sp_beg (w_E w) (k, y / 10, y - y / 10 * 10, 0, 0, 0, -1))
      have e6 : ce_I (ce_tA (wS (ce_sI S 11 1 (3 * w_n w) x) (3 * w_n w) (sp_beg (w_E w) (k, y / 10, y - y / 10 * 10, 0, 0, 0, -1))) 17 f) 0 6 0 = nI (w_n w) := by
        rw [r_I_tA, wS_I _ _ _ _ _ _ (by decide)]; exact hC.1.1
      have e1 : nI (w_n w + 1) - 1 = nI (w_n w) := by
        rw [← nJ_succ, Int32.sub_eq_add_neg, Int32.add_assoc, show (1 : Int32) + -1 = 0 by decide, Int32.add_zero]
      refine ⟨ce_tA (ce_sI (wS (ce_sI S 11 1 (3 * w_n w) x) (3 * w_n w) (sp_beg (w_E w) (k, y / 10, y - y / 10 * 10, 0, 0, 0, -1))) 0 6 0 (nI (w_n w + 1))) 17 f, fI_by tl_X11_comes (gd_r rfl rfl) (fun kk => sg_X11_comes_0 x y S kk) ?_, ?_, ?_⟩
      · simp only [if_neg (i_le_not h1.1), if_neg hin6, if_neg (i_le_not h2), if_pos h3, hC.1.1, if_pos h7, ecl, if_neg hnin, ek2, if_neg hkin, k3_eq, q_div_eq, q_rem_eq, e0, b1, Option.bind_some, e6, q_add_eq, q_sub_eq, e1, if_pos h, if_neg h6, nJ_succ, sI_tA]
      · simp only [if_pos h, if_neg h6, ek2]
        rw [show x = nI (sp_k (sp_beg (w_E w) (k, y / 10, y - y / 10 * 10, 0, 0, 0, -1))) from ek]
        exact CR_tA hfin f
      · exact mEq_trans (mEq_trans (mEq_trans (mEq_sI _ _ _ _ _ (by decide)) (mEq_wS _ _ _)) (mEq_sI _ _ _ _ _ (by decide))) (mEq_tA _ _ _ (by decide))
  · refine ⟨S, fI_by tl_X11_comes (gd_r rfl rfl) (fun kk => sg_X11_comes_0 x y S kk) ?_, ?_, mEq_refl S⟩
    · simp only [if_neg h]
      by_cases h1 : x < 0
      · simp only [if_pos h1]
      by_cases h2 : (6 : Int32) ≤ x
      · simp only [if_neg h1, if_pos h2]
      by_cases h3 : y < 0
      · simp only [if_neg h1, if_neg h2, if_pos h3]
      · have h4 : ¬ y ≤ 9999 := fun q => h ⟨⟨i_not_lt h1, i_not_le h2⟩, i_not_lt h3, q⟩
        simp only [if_neg h1, if_neg h2, if_neg h3, if_neg h4]
    · simp only [if_neg h]; exact hC
theorem c_seller {w : sp_W} {S : ce_S} (hC : CR w S) (x y : Int32) : ∃ S', F_X11_seller [.inr (.inl (0, 0)), .inl x, .inl y] S = some ((s_comes w x y).1, S') ∧ CR (s_comes w x y).2 S' ∧ mEq S S' := by
  obtain ⟨S1, h1, h2, h3⟩ := c_comes hC x y
  exact ⟨S1, fI_by tl_X11_seller (gd_r rfl rfl) (fun kk => sg_X11_seller_0 x y S kk) (by rw [h1]; rfl), h2, h3⟩
/-- the scene's numbers are set -/
theorem CR_sc {w : sp_W} {S : ce_S} (hC : CR w S) (c : sp_C) (hc : c.1 < w_nt w) : CR (w_setc w c) (ce_sR (ce_sI (ce_sI (ce_sI (ce_sI S 12 0 0 c.2.1) 12 1 0 c.2.2.1) 12 2 0 c.2.2.2) 12 3 0 (nI c.1)) 12 4 0 c.1) := by
  obtain ⟨⟨n1, n2⟩, hr, ⟨c1, c2, c3, c4, c5⟩, ⟨t1, t2, t3, t4, t5⟩, ⟨p1, p2, p3⟩, hh, ⟨i1, i2⟩⟩ := hC
  refine ⟨⟨n1, n2⟩, hr, ?_, ⟨t1, t2, hc, t4, t5⟩, ⟨p1, p2, p3⟩, hh, i1, ?_⟩
  · refine ⟨?_, ?_, ?_, ?_, ?_⟩ <;> simp only [r_I_sR, r_I_sA, r_I_sF, r_I_sQ, r_R_sI, r_R_sA, r_R_sF, r_R_sQ, r_A_sI, r_A_sR, r_A_sQ, r_L_sI, r_L_sR, r_L_sA, r_L_sF, r_L_sQ, r_C_sI, r_C_sR, r_C_sA, r_C_sF, r_C_sQ, r_Q_sI, r_Q_sR, r_Q_sA, r_Q_sF, r_I_sI, r_R_sR, r_A_sA, r_A_sF, r_Q_sQ, r_I_tA, r_R_tA, r_L_tA, r_C_tA, r_Q_tA, r_A_tA, reduceIte, Nat.reduceEqDiff] <;> rfl
  · intro m f c' e
    obtain ⟨a1, a2, a3, a4, a5, a6, a7, a8, a9⟩ := i2 m f c' e
    refine ⟨a1, a2, a3, ?_, ?_, ?_, ?_, ?_, a9⟩ <;> simp only [r_I_sR, r_I_sA, r_I_sF, r_I_sQ, r_R_sI, r_R_sA, r_R_sF, r_R_sQ, r_A_sI, r_A_sR, r_A_sQ, r_L_sI, r_L_sR, r_L_sA, r_L_sF, r_L_sQ, r_C_sI, r_C_sR, r_C_sA, r_C_sF, r_C_sQ, r_Q_sI, r_Q_sR, r_Q_sA, r_Q_sF, r_I_sI, r_R_sR, r_A_sA, r_A_sF, r_Q_sQ, r_I_tA, r_R_tA, r_L_tA, r_C_tA, r_Q_tA, r_A_tA, reduceIte, Nat.reduceEqDiff] <;> assumption
theorem mEq_sc (S : ce_S) (a b c d : Int32) (e i : Nat) : mEq S (ce_sR (ce_sI (ce_sI (ce_sI (ce_sI S 12 0 i a) 12 1 i b) 12 2 i c) 12 3 i d) 12 4 i e) := mEq_trans (mEq_trans (mEq_trans (mEq_trans (mEq_sI _ _ _ _ _ (by decide)) (mEq_sI _ _ _ _ _ (by decide))) (mEq_sI _ _ _ _ _ (by decide))) (mEq_sI _ _ _ _ _ (by decide))) (mEq_sR _ _ _ _ _ (by decide))
/-- and so one by one -/
theorem sc_all {w : sp_W} {S : ce_S} (hC : CR w S) : ce_sR (ce_sI (ce_sI (ce_sI (ce_sI S 12 0 0 (w_sh w)) 12 1 0 (w_ho w)) 12 2 0 (w_li w)) 12 3 0 (nI (w_ru w))) 12 4 0 (w_ru w) = S := by
  obtain ⟨_, _, ⟨c1, c2, c3, c4, c5⟩, _⟩ := hC
  rw [← c1, ← c2, ← c3, ← c4, ← c5]
  rw [sI_id]
  have e1 : ce_sI S 12 1 0 (ce_I S 12 1 0) = S := sI_id S 12 1 0
  rw [e1]
  have e2 : ce_sI S 12 2 0 (ce_I S 12 2 0) = S := sI_id S 12 2 0
  rw [e2]
  have e3 : ce_sI S 12 3 0 (ce_I S 12 3 0) = S := sI_id S 12 3 0
  rw [e3, sR_id]
theorem sc_sh {w : sp_W} {S : ce_S} (hC : CR w S) (v : Int32) : ce_sI S 12 0 0 v = ce_sR (ce_sI (ce_sI (ce_sI (ce_sI S 12 0 0 v) 12 1 0 (w_ho w)) 12 2 0 (w_li w)) 12 3 0 (nI (w_ru w))) 12 4 0 (w_ru w) := by
  conv => lhs; rw [← sc_all hC]
  refine S_ext (fun t k i => ?_) (fun t k i => ?_) rfl
  · simp only [r_I_sR, r_I_sA, r_I_sF, r_I_sQ, r_R_sI, r_R_sA, r_R_sF, r_R_sQ, r_A_sI, r_A_sR, r_A_sQ, r_L_sI, r_L_sR, r_L_sA, r_L_sF, r_L_sQ, r_C_sI, r_C_sR, r_C_sA, r_C_sF, r_C_sQ, r_Q_sI, r_Q_sR, r_Q_sA, r_Q_sF, r_I_sI, r_R_sR, r_A_sA, r_A_sF, r_Q_sQ, r_I_tA, r_R_tA, r_L_tA, r_C_tA, r_Q_tA, r_A_tA]
    by_cases h1 : t = 12
    · by_cases h2 : i = 0
      · subst h1; subst h2; rcases k with _ | _ | _ | _ | k <;> simp
      · simp [h1, h2]
    · simp [h1]
  · simp only [r_I_sR, r_I_sA, r_I_sF, r_I_sQ, r_R_sI, r_R_sA, r_R_sF, r_R_sQ, r_A_sI, r_A_sR, r_A_sQ, r_L_sI, r_L_sR, r_L_sA, r_L_sF, r_L_sQ, r_C_sI, r_C_sR, r_C_sA, r_C_sF, r_C_sQ, r_Q_sI, r_Q_sR, r_Q_sA, r_Q_sF, r_I_sI, r_R_sR, r_A_sA, r_A_sF, r_Q_sQ, r_I_tA, r_R_tA, r_L_tA, r_C_tA, r_Q_tA, r_A_tA]
theorem sc_ho {w : sp_W} {S : ce_S} (hC : CR w S) (v : Int32) : ce_sI S 12 1 0 v = ce_sR (ce_sI (ce_sI (ce_sI (ce_sI S 12 0 0 (w_sh w)) 12 1 0 v) 12 2 0 (w_li w)) 12 3 0 (nI (w_ru w))) 12 4 0 (w_ru w) := by
  conv => lhs; rw [← sc_all hC]
  refine S_ext (fun t k i => ?_) (fun t k i => ?_) rfl
  · simp only [r_I_sR, r_I_sA, r_I_sF, r_I_sQ, r_R_sI, r_R_sA, r_R_sF, r_R_sQ, r_A_sI, r_A_sR, r_A_sQ, r_L_sI, r_L_sR, r_L_sA, r_L_sF, r_L_sQ, r_C_sI, r_C_sR, r_C_sA, r_C_sF, r_C_sQ, r_Q_sI, r_Q_sR, r_Q_sA, r_Q_sF, r_I_sI, r_R_sR, r_A_sA, r_A_sF, r_Q_sQ, r_I_tA, r_R_tA, r_L_tA, r_C_tA, r_Q_tA, r_A_tA]
    by_cases h1 : t = 12
    · by_cases h2 : i = 0
      · subst h1; subst h2; rcases k with _ | _ | _ | _ | k <;> simp
      · simp [h1, h2]
    · simp [h1]
  · simp only [r_I_sR, r_I_sA, r_I_sF, r_I_sQ, r_R_sI, r_R_sA, r_R_sF, r_R_sQ, r_A_sI, r_A_sR, r_A_sQ, r_L_sI, r_L_sR, r_L_sA, r_L_sF, r_L_sQ, r_C_sI, r_C_sR, r_C_sA, r_C_sF, r_C_sQ, r_Q_sI, r_Q_sR, r_Q_sA, r_Q_sF, r_I_sI, r_R_sR, r_A_sA, r_A_sF, r_Q_sQ, r_I_tA, r_R_tA, r_L_tA, r_C_tA, r_Q_tA, r_A_tA]
theorem sc_li {w : sp_W} {S : ce_S} (hC : CR w S) (v : Int32) : ce_sI S 12 2 0 v = ce_sR (ce_sI (ce_sI (ce_sI (ce_sI S 12 0 0 (w_sh w)) 12 1 0 (w_ho w)) 12 2 0 v) 12 3 0 (nI (w_ru w))) 12 4 0 (w_ru w) := by
  conv => lhs; rw [← sc_all hC]
  refine S_ext (fun t k i => ?_) (fun t k i => ?_) rfl
  · simp only [r_I_sR, r_I_sA, r_I_sF, r_I_sQ, r_R_sI, r_R_sA, r_R_sF, r_R_sQ, r_A_sI, r_A_sR, r_A_sQ, r_L_sI, r_L_sR, r_L_sA, r_L_sF, r_L_sQ, r_C_sI, r_C_sR, r_C_sA, r_C_sF, r_C_sQ, r_Q_sI, r_Q_sR, r_Q_sA, r_Q_sF, r_I_sI, r_R_sR, r_A_sA, r_A_sF, r_Q_sQ, r_I_tA, r_R_tA, r_L_tA, r_C_tA, r_Q_tA, r_A_tA]
    by_cases h1 : t = 12
    · by_cases h2 : i = 0
      · subst h1; subst h2; rcases k with _ | _ | _ | _ | k <;> simp
      · simp [h1, h2]
    · simp [h1]
  · simp only [r_I_sR, r_I_sA, r_I_sF, r_I_sQ, r_R_sI, r_R_sA, r_R_sF, r_R_sQ, r_A_sI, r_A_sR, r_A_sQ, r_L_sI, r_L_sR, r_L_sA, r_L_sF, r_L_sQ, r_C_sI, r_C_sR, r_C_sA, r_C_sF, r_C_sQ, r_Q_sI, r_Q_sR, r_Q_sA, r_Q_sF, r_I_sI, r_R_sR, r_A_sA, r_A_sF, r_Q_sQ, r_I_tA, r_R_tA, r_L_tA, r_C_tA, r_Q_tA, r_A_tA]
theorem sc_ru {w : sp_W} {S : ce_S} (hC : CR w S) (v : Nat) : ce_sR (ce_sI S 12 3 0 (nI v)) 12 4 0 v = ce_sR (ce_sI (ce_sI (ce_sI (ce_sI S 12 0 0 (w_sh w)) 12 1 0 (w_ho w)) 12 2 0 (w_li w)) 12 3 0 (nI v)) 12 4 0 v := by
  conv => lhs; rw [← sc_all hC]
  refine S_ext (fun t k i => ?_) (fun t k i => ?_) rfl
  · simp only [r_I_sR, r_I_sA, r_I_sF, r_I_sQ, r_R_sI, r_R_sA, r_R_sF, r_R_sQ, r_A_sI, r_A_sR, r_A_sQ, r_L_sI, r_L_sR, r_L_sA, r_L_sF, r_L_sQ, r_C_sI, r_C_sR, r_C_sA, r_C_sF, r_C_sQ, r_Q_sI, r_Q_sR, r_Q_sA, r_Q_sF, r_I_sI, r_R_sR, r_A_sA, r_A_sF, r_Q_sQ, r_I_tA, r_R_tA, r_L_tA, r_C_tA, r_Q_tA, r_A_tA]
    by_cases h1 : t = 12
    · by_cases h2 : i = 0
      · subst h1; subst h2; rcases k with _ | _ | _ | _ | k <;> simp
      · simp [h1, h2]
    · simp [h1]
  · simp only [r_I_sR, r_I_sA, r_I_sF, r_I_sQ, r_R_sI, r_R_sA, r_R_sF, r_R_sQ, r_A_sI, r_A_sR, r_A_sQ, r_L_sI, r_L_sR, r_L_sA, r_L_sF, r_L_sQ, r_C_sI, r_C_sR, r_C_sA, r_C_sF, r_C_sQ, r_Q_sI, r_Q_sR, r_Q_sA, r_Q_sF, r_I_sI, r_R_sR, r_A_sA, r_A_sF, r_Q_sQ, r_I_tA, r_R_tA, r_L_tA, r_C_tA, r_Q_tA, r_A_tA]
    by_cases h1 : t = 12
    · by_cases h2 : i = 0
      · by_cases h3 : k = 4
        · simp [h1, h2, h3]
        · simp [h1, h2, h3]
      · simp [h1, h2]
    · simp [h1]
theorem c_setCost {w : sp_W} {S : ce_S} (hC : CR w S) (x v : Int32) : ∃ S', F_X11_setCost [.inr (.inl (0, 0)), .inl x, .inl v] S = some ((if isS w x ∧ 0 ≤ v ∧ v ≤ 999 then (sp_co (w_sel w x), w_set w x.toNatClampNeg (sp_beg (w_E w) (sp_wc (w_sel w x) v))) else (-2, w)).1, S') ∧ CR (if isS w x ∧ 0 ≤ v ∧ v ≤ 999 then (sp_co (w_sel w x), w_set w x.toNatClampNeg (sp_beg (w_E w) (sp_wc (w_sel w x) v))) else ((-2 : Int32), w)).2 S' ∧ mEq S S' := by
  by_cases h : isS w x ∧ 0 ≤ v ∧ v ≤ 999
  · obtain ⟨h1, h2, h3⟩ := id h
    obtain ⟨s, hs, h6, e, e2, hin, hsel, hrc⟩ := c_sel hC h1
    have e3 : ce_sI S 11 2 (3 * s) v = wS S (3 * s) (sp_wc (w_r w s) v) := by rw [s2_wS, hrc]; rfl
    have hE : scE (wS S (3 * s) (sp_wc (w_r w s) v)) 0 = w_E w := by rw [scE_wS, CR_E hC]
    have hok : txok (wS S (3 * s) (sp_wc (w_r w s) v)) (ce_R (wS S (3 * s) (sp_wc (w_r w s) v)) 12 4 0) := by
      rw [txok_wS, wS_R _ _ _ _ _ _ (by decide)]; exact CR_ok hC
    obtain ⟨f, b1⟩ := f_begin _ (3 * s) 0 hok
    rw [hE, rc_wS, wS_wS] at b1
    refine ⟨ce_tA (wS S (3 * s) (sp_beg (w_E w) (sp_wc (w_r w s) v))) 17 f, fI_by tl_X11_setCost (gd_r rfl rfl) (fun kk => sg_X11_setCost_0 x v S kk) ?_, ?_, mEq_trans (mEq_wS _ _ _) (mEq_tA _ _ _ (by decide))⟩
    · simp only [c_isS1 hC h1, Option.bind_some, i_10, if_false, if_neg (i_le_not h2), if_pos h3, e2, if_neg hin, k3_eq, e3, b1, rc_2, hrc, if_pos h, hsel]
    · simp only [if_pos h, e2, hsel]
      exact CR_tA (CR_put hC s hs (sp_beg (w_E w) (sp_wc (w_r w s) v)) rfl) f
  · refine ⟨S, fI_by tl_X11_setCost (gd_r rfl rfl) (fun kk => sg_X11_setCost_0 x v S kk) ?_, ?_, mEq_refl S⟩
    · simp only [if_neg h]
      by_cases h1 : isS w x
      · by_cases h2 : v < 0
        · simp only [c_isS1 hC h1, Option.bind_some, i_10, if_false, if_pos h2]
        · have h3 : ¬ v ≤ 999 := fun q => h ⟨h1, i_not_lt h2, q⟩
          simp only [c_isS1 hC h1, Option.bind_some, i_10, if_false, if_neg h2, if_neg h3]
      · simp only [c_isS0 hC h1, Option.bind_some, if_true]
    · simp only [if_neg h]; exact hC
theorem c_set {w : sp_W} {S : ce_S} (hC : CR w S) (x y v : Int32) : ∃ S', F_X11_set [.inr (.inl (0, 0)), .inl x, .inl y, .inl v] S = some ((s_set w x y v).1, S') ∧ CR (s_set w x y v).2 S' ∧ mEq S S' := by
  unfold s_set
  have ht : w_ru w < w_nt w := hC.2.2.2.1.2.2.1
  have hc := hC.2.2.1
  by_cases x3 : x = 3
  · simp only [if_pos x3]
    obtain ⟨S1, h1, h2, h3⟩ := c_setCost hC y v
    refine ⟨S1, fI_by tl_X11_set (gd_r rfl rfl) (fun kk => sg_X11_set_0 x y v S kk) ?_, h2, h3⟩
    simp only [if_pos x3, h1, Option.bind_some]
  simp only [if_neg x3]
  by_cases x0 : x = 0
  · subst x0
    simp only [if_true]
    by_cases h : 0 ≤ v ∧ v ≤ 9
    · simp only [if_pos h]
      refine ⟨ce_sI S 12 0 0 v, fI_by tl_X11_set (gd_r rfl rfl) (fun kk => sg_X11_set_0 0 y v S kk) ?_, ?_, mEq_sI _ _ _ _ _ (by decide)⟩
      · simp only [if_neg x3, if_neg (show ¬ ((0 : Int32) < 0) by decide), if_neg (show ¬ ((3 : Int32) < 0) by decide), if_neg (i_le_not h.1), f_topOf, Option.bind_some, show sp_top 0 = 9 from rfl, if_pos h.2, if_true, hc.1]
      · rw [sc_sh hC v]; exact CR_sc hC (w_ru w, v, w_ho w, w_li w) ht
    · simp only [if_neg h]
      refine ⟨S, fI_by tl_X11_set (gd_r rfl rfl) (fun kk => sg_X11_set_0 0 y v S kk) ?_, hC, mEq_refl S⟩
      simp only [if_neg x3, if_neg (show ¬ ((0 : Int32) < 0) by decide), if_neg (show ¬ ((3 : Int32) < 0) by decide), f_topOf, Option.bind_some, show sp_top 0 = 9 from rfl]
      by_cases h1 : v < 0
      · simp only [if_pos h1]
      · simp only [if_neg h1, if_neg (show ¬ v ≤ 9 from fun q => h ⟨i_not_lt h1, q⟩)]
  simp only [if_neg x0]
  by_cases x1 : x = 1
  · subst x1
    simp only [if_true]
    by_cases h : 0 ≤ v ∧ v ≤ 23
    · simp only [if_pos h]
      refine ⟨ce_sI S 12 1 0 v, fI_by tl_X11_set (gd_r rfl rfl) (fun kk => sg_X11_set_0 1 y v S kk) ?_, ?_, mEq_sI _ _ _ _ _ (by decide)⟩
      · simp only [if_neg x3, if_neg x0, if_neg (show ¬ ((1 : Int32) < 0) by decide), if_neg (show ¬ ((3 : Int32) < 1) by decide), if_neg (i_le_not h.1), f_topOf, Option.bind_some, show sp_top 1 = 23 from rfl, if_pos h.2, if_true, hc.2.1]
      · rw [sc_ho hC v]; exact CR_sc hC (w_ru w, w_sh w, v, w_li w) ht
    · simp only [if_neg h]
      refine ⟨S, fI_by tl_X11_set (gd_r rfl rfl) (fun kk => sg_X11_set_0 1 y v S kk) ?_, hC, mEq_refl S⟩
      simp only [if_neg x3, if_neg (show ¬ ((1 : Int32) < 0) by decide), if_neg (show ¬ ((3 : Int32) < 1) by decide), f_topOf, Option.bind_some, show sp_top 1 = 23 from rfl]
      by_cases h1 : v < 0
      · simp only [if_pos h1]
      · simp only [if_neg h1, if_neg (show ¬ v ≤ 23 from fun q => h ⟨i_not_lt h1, q⟩)]
  simp only [if_neg x1]
  by_cases x2 : x = 2
  · subst x2
    simp only [if_true]
    by_cases h : 0 ≤ v ∧ v ≤ 1999
    · simp only [if_pos h]
      refine ⟨ce_sI S 12 2 0 v, fI_by tl_X11_set (gd_r rfl rfl) (fun kk => sg_X11_set_0 2 y v S kk) ?_, ?_, mEq_sI _ _ _ _ _ (by decide)⟩
      · simp only [if_neg x3, if_neg x0, if_neg x1, if_neg (show ¬ ((2 : Int32) < 0) by decide), if_neg (show ¬ ((3 : Int32) < 2) by decide), if_neg (i_le_not h.1), f_topOf, Option.bind_some, show sp_top 2 = 1999 from rfl, if_pos h.2, hc.2.2.1]
      · rw [sc_li hC v]; exact CR_sc hC (w_ru w, w_sh w, w_ho w, v) ht
    · simp only [if_neg h]
      refine ⟨S, fI_by tl_X11_set (gd_r rfl rfl) (fun kk => sg_X11_set_0 2 y v S kk) ?_, hC, mEq_refl S⟩
      simp only [if_neg x3, if_neg (show ¬ ((2 : Int32) < 0) by decide), if_neg (show ¬ ((3 : Int32) < 2) by decide), f_topOf, Option.bind_some, show sp_top 2 = 1999 from rfl]
      by_cases h1 : v < 0
      · simp only [if_pos h1]
      · simp only [if_neg h1, if_neg (show ¬ v ≤ 1999 from fun q => h ⟨i_not_lt h1, q⟩)]
  simp only [if_neg x2]
  refine ⟨S, fI_by tl_X11_set (gd_r rfl rfl) (fun kk => sg_X11_set_0 x y v S kk) ?_, hC, mEq_refl S⟩
  by_cases h1 : x < 0
  · simp only [if_neg x3, if_pos h1]
  · have h2 : (3 : Int32) < x := by
      rw [i_lt] at h1 ⊢; rw [i_eq] at x0 x1 x2 x3
      have e0 : ((0 : Int32)).toInt = 0 := by decide
      have e1 : ((1 : Int32)).toInt = 1 := by decide
      have e2 : ((2 : Int32)).toInt = 2 := by decide
      have e3 : ((3 : Int32)).toInt = 3 := by decide
      omega
    simp only [if_neg x3, if_neg h1, if_pos h2]
theorem c_feed {w : sp_W} {S : ce_S} (hC : CR w S) (x : Int32) : ∃ S', F_X11_feed [.inr (.inl (0, 0)), .inl x] S = some ((s_feed w x).1, S') ∧ CR (s_feed w x).2 S' ∧ mEq S S' := by
  unfold s_feed
  have hp := hC.2.2.2.2.1
  by_cases h : 0 ≤ x ∧ x ≤ 255
  · simp only [if_pos h]
    by_cases h6 : (w_p w).length = 160
    · simp only [if_pos h6]
      refine ⟨S, fI_by tl_X11_feed (gd_r rfl rfl) (fun kk => sg_X11_feed_0 x S kk) ?_, hC, mEq_refl S⟩
      have h7 : ¬ nI (w_p w).length < 160 := by rw [h6]; decide
      simp only [if_neg (i_le_not h.1), if_pos h.2, hp.1, if_neg h7]
    · simp only [if_neg h6]
      have hl : (w_p w).length < 160 := by have := hp.2.1; omega
      have h7 : nI (w_p w).length < 160 := by rw [show (160 : Int32) = nI 160 from rfl, nJ_lt (by omega) (by omega)]; exact hl
      have h8 : ¬ (160 : Int32) ≤ nI (w_p w).length := i_lt_not h7
      have hin : ¬ (nI (w_p w).length < 0 ∨ 160 ≤ (w_p w).length) := nJ_in hl (by decide)
      have ecl : (nI (w_p w).length).toNatClampNeg = (w_p w).length := nI_clamp (by omega)
      have ha : F_X9_add [.inr (.inl (7, 0)), .inl x] S = some (ce_sI (ce_sA S 8 0 (w_p w).length x) 7 0 0 (nI ((w_p w).length + 1))) := by
        refine fV_by tl_X9_add (gd_r rfl rfl) (fun kk => sg_X9_add_0 x S kk) ?_
        simp only [hp.1, if_neg h8, ecl, if_neg hin, q_add_eq, nJ_succ]
      refine ⟨ce_sI (ce_sA S 8 0 (w_p w).length x) 7 0 0 (nI ((w_p w).length + 1)), fI_by tl_X11_feed (gd_r rfl rfl) (fun kk => sg_X11_feed_0 x S kk) ?_, ?_, mEq_trans (mEq_sA _ _ _ _ _ (by decide)) (mEq_sI _ _ _ _ _ (by decide))⟩
      · simp only [if_neg (i_le_not h.1), if_pos h.2, hp.1, if_pos h7, ha, Option.bind_some, r_I_sI, if_true]
      · obtain ⟨⟨n1, n2⟩, hr, hc, ht, ⟨p1, p2, p3⟩, hh, ⟨i1, i2⟩⟩ := hC
        refine ⟨⟨n1, n2⟩, hr, hc, ht, ⟨?_, ?_, fun e he => ?_⟩, ?_, i1, i2⟩
        · rw [r_I_sI]
          show _ = nI (w_p w ++ [x]).length
          rw [List.length_append]; rfl
        · show (w_p w ++ [x]).length ≤ 160
          rw [List.length_append]
          show (w_p w).length + 1 ≤ 160
          omega
        · show ce_A (ce_sA S 8 0 (w_p w).length x) 8 0 e = (w_p w ++ [x]).getD e 0
          have he : e < (w_p w ++ [x]).length := he
          rw [List.length_append] at he
          have he : e < (w_p w).length + 1 := he
          rw [r_A_sA, if_pos rfl, if_pos rfl]
          by_cases q : e = (w_p w).length
          · subst q; simp
          · rw [if_neg q, p3 e (by omega)]
            simp only [List.getD_eq_getElem?_getD]
            rw [List.getElem?_append_left (by omega)]
        · intro i hi
          refine ⟨(hh i hi).1, (hh i hi).2.1, (hh i hi).2.2.1, fun e he => ?_⟩
          show ce_A (ce_sA S 8 0 (w_p w).length x) 16 i e = _
          rw [r_A_sA, if_neg (by decide)]
          exact (hh i hi).2.2.2 e he
  · simp only [if_neg h]
    refine ⟨S, fI_by tl_X11_feed (gd_r rfl rfl) (fun kk => sg_X11_feed_0 x S kk) ?_, hC, mEq_refl S⟩
    by_cases h1 : x < 0
    · simp only [if_pos h1]
    · simp only [if_neg h1, if_neg (show ¬ x ≤ 255 from fun q => h ⟨i_not_lt h1, q⟩)]
theorem c_force {w : sp_W} {S : ce_S} (hC : CR w S) (x : Int32) : ∃ S', F_X11_force [.inr (.inl (0, 0)), .inl x] S = some ((s_force w x).1, S') ∧ CR (s_force w x).2 S' ∧ mEq S S' := by
  unfold s_force
  obtain ⟨t1, t2, t3, t4, t5⟩ := hC.2.2.2.1
  by_cases h : 0 ≤ x ∧ x < nI (w_nt w)
  · simp only [if_pos h]
    obtain ⟨k, hk, ek, ek2⟩ := i_nat (n := w_nt w) (by omega) h
    have hin : ¬ (x < 0 ∨ 6 ≤ k) := by rw [ek]; exact nJ_in (by omega) (by decide)
    refine ⟨ce_sR (ce_sI S 12 3 0 x) 12 4 0 k, fI_by tl_X11_force (gd_r rfl rfl) (fun kk => sg_X11_force_0 x S kk) ?_, ?_, mEq_trans (mEq_sI _ _ _ _ _ (by decide)) (mEq_sR _ _ _ _ _ (by decide))⟩
    · simp only [if_neg (i_le_not h.1), t1, if_pos h.2, ek2, if_neg hin, (t5 k hk).1, Option.bind_some, hC.2.2.1.2.2.2.1]
    · rw [ek, nI_clamp (by omega), sc_ru hC k]
      exact CR_sc hC (k, w_sh w, w_ho w, w_li w) hk
  · simp only [if_neg h]
    refine ⟨S, fI_by tl_X11_force (gd_r rfl rfl) (fun kk => sg_X11_force_0 x S kk) ?_, hC, mEq_refl S⟩
    by_cases h1 : x < 0
    · simp only [if_pos h1]
    · simp only [if_neg h1, t1, if_neg (show ¬ x < nI (w_nt w) from fun q => h ⟨i_not_lt h1, q⟩)]
