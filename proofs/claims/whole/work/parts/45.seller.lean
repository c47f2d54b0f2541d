/-! sellers and scenes, component -/
theorem f_least (S : ce_S) (i j : Nat) (bid : Int32) (h : txok S (ce_R S 12 4 i)) : ∃ f', F_X4_least [.inr (.inl (12, i)), .inr (.inl (11, j)), .inl bid] S = some (sp_lea (scE S i) (rc S j) bid, ce_tA S 17 f') := by
  obtain ⟨le, fe, h1, h2, h3, h4, h5, h6⟩ := h
  obtain ⟨f', e⟩ := f_value S (ce_R S 12 4 i) j i bid 0 le (by omega) (by omega) h3 h6
  refine ⟨f', fI_by tl_X4_least (gd_r rfl rfl) (fun kk => sg_X4_least_0 i j bid S kk) ?_⟩
  rw [show (nI 0) = 0 from rfl] at e
  simp only [h4, e, Option.bind_some, f_within _ 0 1999 _ (by decide)]
  unfold sp_lea scE txt sk_nm
  simp only [h4, nI_clamp (show le < 2 ^ 31 by omega), Nat.sub_zero]
theorem sp_lea_bd (E : sp_E) (r : sp_R) (bid : Int32) : 0 ≤ sp_lea E r bid ∧ sp_lea E r bid ≤ 1999 := cl_bd 0 1999 _ (by decide)
theorem f_first (S : ce_S) (i j : Nat) (h : txok S (ce_R S 12 4 i)) : ∃ f', F_X4_first [.inr (.inl (12, i)), .inr (.inl (11, j))] S = some (sp_fir (scE S i) (rc S j), ce_tA S 17 f') := by
  obtain ⟨le, fe, h1, h2, h3, h4, h5, h6⟩ := id h
  obtain ⟨f1, e1⟩ := f_value S (ce_R S 12 4 i) j i 0 le fe (by omega) (by omega) h3 h6
  obtain ⟨f2, e2⟩ := f_least (ce_tA S 17 f1) i j 0 h
  refine ⟨f2, fI_by tl_X4_first (gd_r rfl rfl) (fun kk => sg_X4_first_0 i j S kk) ?_⟩
  simp only [h4, h5, e1, Option.bind_some, e2, scE_tA, rc_tA, tA_tA]
  rw [f_within _ _ 1999 _ (sp_lea_bd _ _ _).2]
  simp only [Option.bind_some]
  unfold sp_fir sk_nm
  simp only [scE, txt, h4, h5, nI_clamp (show le < 2 ^ 31 by omega), nI_clamp (show fe < 2 ^ 31 by omega)]
theorem f_pull (S : ce_S) (i j : Nat) (bid : Int32) (h : txok S (ce_R S 12 4 i)) : ∃ f', F_X4_pull [.inr (.inl (12, i)), .inr (.inl (11, j)), .inl bid] S = some (sp_pul (scE S i) (rc S j) bid, ce_tA S 17 f') := by
  obtain ⟨le, fe, h1, h2, h3, h4, h5, h6⟩ := id h
  obtain ⟨f1, e1⟩ := f_value S (ce_R S 12 4 i) j i bid fe (ce_L S 14 (ce_R S 12 4 i)) (by omega) (by omega) h3 h6
  refine ⟨f1, fI_by tl_X4_pull (gd_r rfl rfl) (fun kk => sg_X4_pull_0 i j bid S kk) ?_⟩
  simp only [h5, e1, Option.bind_some, f_within _ 0 99 _ (by decide)]
  unfold sp_pul sk_nm
  simp only [scE, txt, h5, nI_clamp (show fe < 2 ^ 31 by omega)]
theorem f_sellAt (S : ce_S) (j : Nat) (x : Int32) : F_X5_sellAt [.inr (.inl (11, j)), .inl x] S = some (wS S j (sp_sell (rc S j) x)) := by
  refine fV_by tl_X5_sellAt (gd_r rfl rfl) (fun kk => sg_X5_sellAt_0 j x S kk) ?_
  rw [s6_wS, wS_s7]; rfl
theorem f_takeTalk (S : ce_S) (j k : Nat) : F_X5_takeTalk [.inr (.inl (11, j)), .inr (.inl (11, k))] S = some (wS S j (sp_k (rc S j), sp_co (rc S j), sp_nu (rc S j), sp_sa (rc S k), sp_cu (rc S k), sp_st (rc S k), sp_pr (rc S k))) := by
  refine fV_by tl_X5_takeTalk (gd_r rfl rfl) (fun kk => sg_X5_takeTalk_0 j k S kk) ?_
  rw [s4_wS, wS_s5, wS_s6, wS_s7]; rfl
theorem f_take (S : ce_S) (j k : Nat) (h : k ≠ j) : F_X5_take [.inr (.inl (11, j)), .inr (.inl (11, k))] S = some (wS (ce_sI S 11 1 j (ce_I S 11 1 k)) j (rc S k)) := by
  refine fV_by tl_X5_take (gd_r rfl rfl) (fun kk => sg_X5_take_0 j k S kk) ?_
  simp only [f_takeTalk, Option.bind_some]
  have e : ce_sI (ce_sI (ce_sI (ce_sR S 11 0 j (ce_R S 11 0 k)) 11 1 j (ce_I S 11 1 k)) 11 2 j (ce_I S 11 2 k)) 11 3 j (ce_I S 11 3 k) = wS (ce_sI S 11 1 j (ce_I S 11 1 k)) j (sp_k (rc S k), sp_co (rc S k), sp_nu (rc S k), sp_sa (rc S j), sp_cu (rc S j), sp_st (rc S j), sp_pr (rc S j)) := by
    have e1 : ce_sI (ce_sR S 11 0 j (ce_R S 11 0 k)) 11 1 j (ce_I S 11 1 k) = ce_sR (ce_sI S 11 1 j (ce_I S 11 1 k)) 11 0 j (ce_R S 11 0 k) := rfl
    rw [e1, s0_wS, wS_s2, wS_s3]; rfl
  rw [e, wS_wS, rc_wS, rc_wS_ne _ _ _ _ h]
  have e2 : rc (ce_sI S 11 1 j (ce_I S 11 1 k)) k = rc S k := by
    simp only [rc, r_I_sR, r_I_sA, r_I_sF, r_I_sQ, r_R_sI, r_R_sA, r_R_sF, r_R_sQ, r_A_sI, r_A_sR, r_A_sQ, r_L_sI, r_L_sR, r_L_sA, r_L_sF, r_L_sQ, r_C_sI, r_C_sR, r_C_sA, r_C_sF, r_C_sQ, r_Q_sI, r_Q_sR, r_Q_sA, r_Q_sF, r_I_sI, r_R_sR, r_A_sA, r_A_sF, r_Q_sQ, r_I_tA, r_R_tA, r_L_tA, r_C_tA, r_Q_tA, r_A_tA, reduceIte, Nat.reduceEqDiff, Option.bind_some]
  rw [e2]; rfl
theorem f_begin (S : ce_S) (j i : Nat) (h : txok S (ce_R S 12 4 i)) : ∃ f', F_X5_begin [.inr (.inl (11, j)), .inr (.inl (12, i))] S = some (ce_tA (wS S j (sp_beg (scE S i) (rc S j))) 17 f') := by
  have e0 : ce_sI (ce_sI (ce_sI (ce_sI S 11 4 j 0) 11 5 j 0) 11 6 j 0) 11 7 j (-1) = wS S j (sp_k (rc S j), sp_co (rc S j), sp_nu (rc S j), 0, 0, 0, -1) := by
    rw [s4_wS, wS_s5, wS_s6, wS_s7]; rfl
  obtain ⟨f', e⟩ := f_first (wS S j (sp_k (rc S j), sp_co (rc S j), sp_nu (rc S j), 0, 0, 0, -1)) i j (by rw [wS_R _ _ _ _ _ _ (by decide), txok_wS]; exact h)
  refine ⟨f', fV_by tl_X5_begin (gd_r rfl rfl) (fun kk => sg_X5_begin_0 j i S kk) ?_⟩
  rw [e0, e]
  simp only [Option.bind_some, sI_tA, wS_s4, scE_wS, rc_wS]; rfl
theorem f_sceneTake (S : ce_S) (i k : Nat) : F_X4_take [.inr (.inl (12, i)), .inr (.inl (12, k))] S = some (ce_sR (ce_sI (ce_sI (ce_sI (ce_sI S 12 0 i (ce_I S 12 0 k)) 12 1 i (ce_I S 12 1 k)) 12 2 i (ce_I S 12 2 k)) 12 3 i (ce_I S 12 3 k)) 12 4 i (ce_R S 12 4 k)) := 
  fV_by tl_X4_take (gd_r rfl rfl) (fun kk => sg_X4_take_0 i k S kk) rfl
theorem ev_hear44 (S : ce_S) (j i : Nat) (bid x3 x4 : Int32) (r : sp_R) (hr : r = rc S j) (n : Int32) (hn : n = if sp_sa r < (if x4 < x3 then x3 else x4) then sp_sa r else (if x4 < x3 then x3 else x4)) : ce_Ev tb_X5_hear 44 (0, 0) [some (.inr (.inl (11, j))), some (.inl bid), some (.inr (.inl (12, i))), some (.inl x3), some (.inl x4)] [] S (none, wS S j (if sp_takes (sp_k r) bid (sp_cu r) (sp_sa r) x3 n = true then sp_sell r bid else if sp_stays (sp_k r) (sp_nu r) ≤ sp_cu r then (sp_k r, sp_co r, sp_nu r, sp_sa r, sp_cu r, 2, sp_pr r) else (sp_k r, sp_co r, sp_nu r, n, sp_cu r, sp_st r, sp_pr r))) := by
  subst hr
  have q81 : ∀ (x : Int32) (S' : ce_S), ce_Ev tb_X5_hear 81 (0, 0) [some (.inr (.inl (11, j))), some (.inl bid), some (.inr (.inl (12, i))), some (.inl x3), some (.inl x)] [] S' (none, S') := fun x S' => ce_by tl_X5_hear (fun kk => sg_X5_hear_81 j bid i x3 x S' kk) rfl
  refine ce_by tl_X5_hear (fun kk => sg_X5_hear_44 j bid i x3 x4 S kk) ?_
  have hn' : (if ce_I S 11 4 j < (if x4 < x3 then x3 else x4) then ce_I S 11 4 j else (if x4 < x3 then x3 else x4)) = n := hn.symm
  rw [hn']
  simp only [f_takes, f_stays, f_sellAt, Option.bind_some, sp_b_0, rc_0, rc_3, rc_4, rc_5]
  by_cases ht : sp_takes (sp_k (rc S j)) bid (sp_cu (rc S j)) (sp_sa (rc S j)) x3 n = true
  · have ht' : ¬ sp_takes (sp_k (rc S j)) bid (sp_cu (rc S j)) (sp_sa (rc S j)) x3 n = false := by rw [ht]; decide
    simp only [if_pos ht, if_neg ht']
    exact ce_kk_of (q81 _ _)
  · have ht' : sp_takes (sp_k (rc S j)) bid (sp_cu (rc S j)) (sp_sa (rc S j)) x3 n = false := by
      cases q : sp_takes (sp_k (rc S j)) bid (sp_cu (rc S j)) (sp_sa (rc S j)) x3 n; rfl; exact absurd q ht
    simp only [if_neg ht, if_pos ht']
    by_cases hs : sp_cu (rc S j) < sp_stays (sp_k (rc S j)) (sp_nu (rc S j))
    · have hs' : ¬ sp_stays (sp_k (rc S j)) (sp_nu (rc S j)) ≤ sp_cu (rc S j) := by rw [i_lt] at hs; rw [i_le]; omega
      simp only [if_pos hs, if_neg hs']
      rw [s4_wS]
      exact ce_kk_of (q81 _ _)
    · have hs' : sp_stays (sp_k (rc S j)) (sp_nu (rc S j)) ≤ sp_cu (rc S j) := by rw [i_lt] at hs; rw [i_le]; omega
      simp only [if_neg hs, if_pos hs']
      rw [s6_wS]
      exact ce_kk_of (q81 _ _)
theorem f_hear (S : ce_S) (j i : Nat) (bid : Int32) (h : txok S (ce_R S 12 4 i)) : ∃ f', F_X5_hear [.inr (.inl (11, j)), .inl bid, .inr (.inl (12, i))] S = some (ce_tA (wS S j (sp_hea (scE S i) (rc S j) bid)) 17 f') := by
  have e0 : ce_sI S 11 5 j (ce_I S 11 5 j + 1) = wS S j (sp_cup (rc S j)) := by rw [s5_wS]; rfl
  have hk : ∀ r, txok (wS S j r) (ce_R (wS S j r) 12 4 i) := fun r => by rw [wS_R _ _ _ _ _ _ (by decide), txok_wS]; exact h
  obtain ⟨f1, e1⟩ := f_least (wS S j (sp_cup (rc S j))) i j bid (hk _)
  rw [scE_wS, rc_wS] at e1
  have key : ∀ (f : Nat → Nat → Int32) (n0 : Int32), n0 = (if bid < sp_sa (sp_cup (rc S j)) then sp_sa (sp_cup (rc S j)) - sp_steps (sp_k (sp_cup (rc S j))) (sp_sa (sp_cup (rc S j))) bid (sp_cu (sp_cup (rc S j))) (sp_nu (sp_cup (rc S j))) (scE S i).2.2.1 else sp_sa (sp_cup (rc S j))) → ∃ f', ce_Ev tb_X5_hear 33 (0, 0) [some (.inr (.inl (11, j))), some (.inl bid), some (.inr (.inl (12, i))), some (.inl (sp_lea (scE S i) (sp_cup (rc S j)) bid)), some (.inl n0)] [] (ce_tA (wS S j (sp_cup (rc S j))) 17 f) (none, ce_tA (wS S j (sp_hea (scE S i) (rc S j) bid)) 17 f') := by
    intro f n0 hn0
    by_cases hc : sp_cu (sp_cup (rc S j)) = 1
    · obtain ⟨f2, e2⟩ := f_pull (ce_tA (wS S j (sp_cup (rc S j))) 17 f) i j bid (hk _)
      rw [scE_tA, scE_wS, rc_tA, rc_wS, tA_tA] at e2
      refine ⟨f2, ce_by tl_X5_hear (fun kk => sg_X5_hear_33 j bid i _ n0 _ kk) ?_⟩
      have hc' : ce_I (ce_tA (wS S j (sp_cup (rc S j))) 17 f) 11 5 j = 1 := by rw [r_I_tA, wS_r5]; exact hc
      simp only [if_pos hc', e2, Option.bind_some, q_add_eq, q_sub_eq, q_mul_eq, q_and_eq, q_div_eq, q_rem_eq, q_ushr_eq, q_neg_eq, q_i2b_eq, q_i2s_eq]
      have := ev_hear44 (ce_tA (wS S j (sp_cup (rc S j))) 17 f2) j i bid (sp_lea (scE S i) (sp_cup (rc S j)) bid) (n0 + sp_pul (scE S i) (sp_cup (rc S j)) bid) (sp_cup (rc S j)) (by rw [rc_tA, rc_wS]) (sp_nxt (scE S i) (sp_cup (rc S j)) bid) (by unfold sp_nxt; simp only [if_pos hc, ← hn0])
      rw [wS_tA, wS_wS] at this
      exact ce_kk_of this
    · refine ⟨f, ce_by tl_X5_hear (fun kk => sg_X5_hear_33 j bid i _ n0 _ kk) ?_⟩
      have hc' : ¬ ce_I (ce_tA (wS S j (sp_cup (rc S j))) 17 f) 11 5 j = 1 := by rw [r_I_tA, wS_r5]; exact hc
      simp only [if_neg hc']
      have := ev_hear44 (ce_tA (wS S j (sp_cup (rc S j))) 17 f) j i bid (sp_lea (scE S i) (sp_cup (rc S j)) bid) n0 (sp_cup (rc S j)) (by rw [rc_tA, rc_wS]) (sp_nxt (scE S i) (sp_cup (rc S j)) bid) (by unfold sp_nxt; simp only [if_neg hc, ← hn0])
      rw [wS_tA, wS_wS] at this
      exact ce_kk_of this
  by_cases hb : sp_sa (sp_cup (rc S j)) ≤ bid
  · have hb' : ¬ bid < sp_sa (sp_cup (rc S j)) := by rw [i_le] at hb; rw [i_lt]; omega
    obtain ⟨f2, e2⟩ := key f1 (sp_sa (sp_cup (rc S j))) (by rw [if_neg hb'])
    refine ⟨f2, fV_by tl_X5_hear (gd_r rfl rfl) (fun kk => sg_X5_hear_0 j bid i S kk) ?_⟩
    simp only [q_add_eq, q_sub_eq, q_mul_eq, q_and_eq, q_div_eq, q_rem_eq, q_ushr_eq, q_neg_eq, q_i2b_eq, q_i2s_eq, e0, e1, Option.bind_some, r_I_tA, wS_r4, if_pos hb]
    exact ce_kk_of e2
  · have hb' : bid < sp_sa (sp_cup (rc S j)) := by rw [i_le] at hb; rw [i_lt]; omega
    obtain ⟨f2, e2⟩ := key f1 (sp_sa (sp_cup (rc S j)) - sp_steps (sp_k (sp_cup (rc S j))) (sp_sa (sp_cup (rc S j))) bid (sp_cu (sp_cup (rc S j))) (sp_nu (sp_cup (rc S j))) (scE S i).2.2.1) (by rw [if_pos hb'])
    refine ⟨f2, fV_by tl_X5_hear (gd_r rfl rfl) (fun kk => sg_X5_hear_0 j bid i S kk) ?_⟩
    simp only [q_add_eq, q_sub_eq, q_mul_eq, q_and_eq, q_div_eq, q_rem_eq, q_ushr_eq, q_neg_eq, q_i2b_eq, q_i2s_eq, e0, e1, Option.bind_some, r_I_tA, r_R_tA, wS_r4, wS_r0, wS_r3, wS_r5, if_neg hb, f_steps]
    rw [wS_I _ _ _ 12 _ _ (by decide)]
    exact ce_kk_of e2
theorem gol_done (E : sp_E) (p : Int32) (n : Nat) (b : Int32) (r : sp_R) (h : sp_st r ≠ 0) : sp_gol E p n b r = r := by
  cases n with
  | zero => rfl
  | succ n => unfold sp_gol; rw [if_neg h]
theorem ev_go33 (j i : Nat) (a p : Int32) (n : Nat) (hn : n ≤ 29)
    (ih : ∀ (bid : Int32) (S : ce_S), txok S (ce_R S 12 4 i) → ∃ f, ce_Ev tb_X5_goByRule 7 (0, 0) [some (.inr (.inl (11, j))), some (.inl a), some (.inl p), some (.inr (.inl (12, i))), some (.inl bid), some (.inl (nI (30 - n)))] [] S (none, ce_tA (wS S j (sp_gol (scE S i) p n (sp_nb (scE S i) p bid (rc S j)) (rc S j))) 17 f))
    (bid : Int32) (S : ce_S) (h : txok S (ce_R S 12 4 i)) : ∃ f, ce_Ev tb_X5_goByRule 33 (0, 0) [some (.inr (.inl (11, j))), some (.inl a), some (.inl p), some (.inr (.inl (12, i))), some (.inl bid), some (.inl (nI (29 - n)))] [] S (none, ce_tA (wS S j (if sp_sa (rc S j) ≤ bid then sp_sell (rc S j) (sp_sa (rc S j)) else sp_gol (scE S i) p n (sp_nb (scE S i) p bid (sp_hea (scE S i) (rc S j) bid)) (sp_hea (scE S i) (rc S j) bid))) 17 f) := by
  have hi : nI (29 - n) + 1 = nI (30 - n) := by rw [nJ_succ]; rw [show 29 - n + 1 = 30 - n by omega]
  have hk : ∀ r f, txok (ce_tA (wS S j r) 17 f) (ce_R (ce_tA (wS S j r) 17 f) 12 4 i) := fun r f => by rw [r_R_tA, wS_R _ _ _ _ _ _ (by decide), txok_tA, txok_wS]; exact h
  have hk' : ∀ r, txok (wS S j r) (ce_R (wS S j r) 12 4 i) := fun r => by rw [wS_R _ _ _ _ _ _ (by decide), txok_wS]; exact h
  by_cases hb : sp_sa (rc S j) ≤ bid
  · have hb' : ¬ bid < ce_I S 11 4 j := by rw [rc_4]; rw [i_le] at hb; rw [i_lt]; omega
    obtain ⟨f1, e1⟩ := ih bid (wS S j (sp_sell (rc S j) (sp_sa (rc S j)))) (hk' _)
    rw [scE_wS, rc_wS, wS_wS, gol_done _ _ _ _ _ (show sp_st (sp_sell (rc S j) (sp_sa (rc S j))) ≠ 0 by show (1 : Int32) ≠ 0; decide)] at e1
    refine ⟨f1, ce_by tl_X5_goByRule (fun kk => sg_X5_goByRule_33 j a p i bid _ S kk) ?_⟩
    simp only [if_neg hb', if_pos hb, f_sellAt, Option.bind_some]
    refine ce_kk_of (ce_by tl_X5_goByRule (fun kk => sg_X5_goByRule_46 j a p i bid _ _ kk) ?_)
    simp only [q_add_eq, q_sub_eq, q_mul_eq, q_and_eq, q_div_eq, q_rem_eq, q_ushr_eq, q_neg_eq, q_i2b_eq, q_i2s_eq, hi]
    exact ce_kk_of e1
  · have hb' : bid < ce_I S 11 4 j := by rw [rc_4]; rw [i_le] at hb; rw [i_lt]; omega
    obtain ⟨f0, e0⟩ := f_hear S j i bid h
    obtain ⟨f1, e1⟩ := ih bid (ce_tA (wS S j (sp_hea (scE S i) (rc S j) bid)) 17 f0) (hk _ _)
    rw [scE_tA, scE_wS, rc_tA, rc_wS, wS_tA, wS_wS, tA_tA] at e1
    refine ⟨f1, ce_by tl_X5_goByRule (fun kk => sg_X5_goByRule_33 j a p i bid _ S kk) ?_⟩
    simp only [if_pos hb', if_neg hb, e0, Option.bind_some]
    refine ce_kk_of (ce_by tl_X5_goByRule (fun kk => sg_X5_goByRule_46 j a p i bid _ _ kk) ?_)
    simp only [q_add_eq, q_sub_eq, q_mul_eq, q_and_eq, q_div_eq, q_rem_eq, q_ushr_eq, q_neg_eq, q_i2b_eq, q_i2s_eq, hi]
    exact ce_kk_of e1
theorem ev_go7 (j i : Nat) (a p : Int32) : ∀ (n : Nat), n ≤ 29 → ∀ (bid : Int32) (S : ce_S), txok S (ce_R S 12 4 i) → ∃ f, ce_Ev tb_X5_goByRule 7 (0, 0) [some (.inr (.inl (11, j))), some (.inl a), some (.inl p), some (.inr (.inl (12, i))), some (.inl bid), some (.inl (nI (30 - n)))] [] S (none, ce_tA (wS S j (sp_gol (scE S i) p n (sp_nb (scE S i) p bid (rc S j)) (rc S j))) 17 f) := by
  intro n
  have q48 : ∀ (b x : Int32) (S : ce_S), ce_Ev tb_X5_goByRule 48 (0, 0) [some (.inr (.inl (11, j))), some (.inl a), some (.inl p), some (.inr (.inl (12, i))), some (.inl b), some (.inl x)] [] S (none, S) := fun b x S => ce_by tl_X5_goByRule (fun kk => sg_X5_goByRule_48 j a p i b x S kk) rfl
  induction n with
  | zero =>
    intro _ bid S h
    refine ⟨ce_A S 17, ce_by tl_X5_goByRule (fun kk => sg_X5_goByRule_7 j a p i bid _ S kk) ?_⟩
    have h1 : (30 : Int32) ≤ nI (30 - 0) := by decide
    simp only [if_pos h1, sp_gol]
    rw [wS_id, tA_self]
    exact ce_kk_of (q48 _ _ _)
  | succ n ih =>
    intro hn bid S h
    have h1 : ¬ (30 : Int32) ≤ nI (30 - (n + 1)) := by
      rw [show (30 : Int32) = nI 30 from rfl, nJ_le (by omega) (by omega)]; omega
    have h2 : ¬ nI (30 - (n + 1)) ≤ 0 := by
      rw [show (0 : Int32) = nI 0 from rfl, nJ_le (by omega) (by omega)]; omega
    have h3 : nI (30 - (n + 1)) = nI (29 - n) := by rw [show 30 - (n + 1) = 29 - n by omega]
    by_cases hs : sp_st (rc S j) = 0
    · have hs' : ce_I S 11 6 j = 0 := hs
      have e := ev_go33 j i a p n (by omega) (ih (by omega)) (sp_nb (scE S i) p bid (rc S j)) S h
      obtain ⟨f, e⟩ := e
      refine ⟨f, ce_by tl_X5_goByRule (fun kk => sg_X5_goByRule_7 j a p i bid _ S kk) ?_⟩
      simp only [if_neg h1, if_pos hs', if_neg h2, sp_gol, if_pos hs]
      rw [h3]
      by_cases hb : ce_I S 11 4 j ≤ bid
      · have hb' : ¬ bid < sp_sa (rc S j) := by rw [rc_4, i_le] at hb; rw [i_lt]; omega
        simp only [if_pos hb]
        have e2 : sp_nb (scE S i) p bid (rc S j) = bid := by unfold sp_nb; rw [if_neg hb']
        rw [e2] at e ⊢
        exact ce_kk_of e
      · have hb' : bid < sp_sa (rc S j) := by rw [rc_4, i_le] at hb; rw [i_lt]; omega
        simp only [if_neg hb, q_add_eq, q_sub_eq, q_mul_eq, q_and_eq, q_div_eq, q_rem_eq, q_ushr_eq, q_neg_eq, q_i2b_eq, q_i2s_eq]
        have e2 : sp_nb (scE S i) p bid (rc S j) = (if ce_I S 12 2 i < bid + p * (ce_I S 11 4 j - bid) / 10 then ce_I S 12 2 i else bid + p * (ce_I S 11 4 j - bid) / 10) := by unfold sp_nb; rw [if_pos hb']; rfl
        rw [← e2]
        exact ce_kk_of e
    · have hs' : ¬ ce_I S 11 6 j = 0 := hs
      refine ⟨ce_A S 17, ce_by tl_X5_goByRule (fun kk => sg_X5_goByRule_7 j a p i bid _ S kk) ?_⟩
      simp only [if_neg h1, if_neg hs', sp_gol, if_neg hs]
      rw [wS_id, tA_self]
      exact ce_kk_of (q48 _ _ _)
theorem f_go (S : ce_S) (j i : Nat) (a p : Int32) (h : txok S (ce_R S 12 4 i)) : ∃ f', F_X5_goByRule [.inr (.inl (11, j)), .inl a, .inl p, .inr (.inl (12, i))] S = some (ce_tA (wS S j (sp_go (scE S i) (rc S j) a p)) 17 f') := by
  have h1 : ¬ (30 : Int32) ≤ 0 := by decide
  have h2 : (0 : Int32) ≤ 0 := by decide
  have q48 : ∀ (b x : Int32) (S : ce_S), ce_Ev tb_X5_goByRule 48 (0, 0) [some (.inr (.inl (11, j))), some (.inl a), some (.inl p), some (.inr (.inl (12, i))), some (.inl b), some (.inl x)] [] S (none, S) := fun b x S => ce_by tl_X5_goByRule (fun kk => sg_X5_goByRule_48 j a p i b x S kk) rfl
  by_cases hs : sp_st (rc S j) = 0
  · have hs' : ce_I S 11 6 j = 0 := hs
    obtain ⟨f, e⟩ := ev_go33 j i a p 29 (by omega) (ev_go7 j i a p 29 (by omega)) (if ce_I S 12 2 i < a then ce_I S 12 2 i else a) S h
    refine ⟨f, fV_by tl_X5_goByRule (gd_r rfl rfl) (fun kk => sg_X5_goByRule_0 j a p i S kk) ?_⟩
    refine ce_kk_of (ce_by tl_X5_goByRule (fun kk => sg_X5_goByRule_7 j a p i _ 0 S kk) ?_)
    simp only [if_neg h1, if_pos hs', if_pos h2, sp_go]
    rw [show sp_gol (scE S i) p 30 (if (scE S i).2.2.2 < a then (scE S i).2.2.2 else a) (rc S j) = (if sp_st (rc S j) = 0 then (if sp_sa (rc S j) ≤ (if (scE S i).2.2.2 < a then (scE S i).2.2.2 else a) then sp_sell (rc S j) (sp_sa (rc S j)) else sp_gol (scE S i) p 29 (sp_nb (scE S i) p (if (scE S i).2.2.2 < a then (scE S i).2.2.2 else a) (sp_hea (scE S i) (rc S j) (if (scE S i).2.2.2 < a then (scE S i).2.2.2 else a))) (sp_hea (scE S i) (rc S j) (if (scE S i).2.2.2 < a then (scE S i).2.2.2 else a))) else rc S j) from rfl]
    rw [if_pos hs]
    exact ce_kk_of e
  · have hs' : ¬ ce_I S 11 6 j = 0 := hs
    refine ⟨ce_A S 17, fV_by tl_X5_goByRule (gd_r rfl rfl) (fun kk => sg_X5_goByRule_0 j a p i S kk) ?_⟩
    refine ce_kk_of (ce_by tl_X5_goByRule (fun kk => sg_X5_goByRule_7 j a p i _ 0 S kk) ?_)
    simp only [if_neg h1, if_neg hs', sp_go]
    rw [gol_done _ _ _ _ _ hs, wS_id, tA_self]
    exact ce_kk_of (q48 _ _ _)
