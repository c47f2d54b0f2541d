/-! the component in thought, with sheets and scenes of its own -/
/-- the scene of thought, but for what is tried -/
def B1 (w : sp_W) (y : Int32) (S : ce_S) : Prop := ce_R S 12 4 1 = w_ru w ∧ ce_I S 12 2 1 = w_li w ∧ (y = 0 → ce_I S 12 1 1 = w_ho w) ∧ (¬ y = 0 → ce_I S 12 0 1 = w_sh w)
theorem B1_u {w : sp_W} {y : Int32} {S : ce_S} (h : B1 w y S) (j : Nat) (r : sp_R) (f : Nat → Nat → Int32) : B1 w y (ce_tA (wS S j r) 17 f) := by
  unfold B1
  rw [r_R_tA, r_I_tA, wS_R _ _ _ _ _ _ (by decide), wS_I _ _ _ _ _ _ (by decide), wS_I _ _ _ _ _ _ (by decide), wS_I _ _ _ _ _ _ (by decide)]
  exact h
theorem qt_txt1 {w : sp_W} {S : ce_S} (hC : CR w S) (h : ce_R S 12 4 1 = w_ru w) : txok S (ce_R S 12 4 1) ∧ txt S (ce_R S 12 4 1) = w_tx w (w_ru w) := by
  obtain ⟨_, _, _, ⟨t1, t2, t3, t4, t5⟩, _⟩ := hC
  rw [h]; exact ⟨(t5 _ t3).2.1, (t5 _ t3).2.2⟩
theorem B1_E {w : sp_W} {y v : Int32} {S : ce_S} (hC : CR w S) (h : B1 w y S) (hv : (y = 0 → ce_I S 12 0 1 = v) ∧ (¬ y = 0 → ce_I S 12 1 1 = v)) : scE S 1 = sp_Ew (w_E w) y v := by
  unfold scE sp_Ew w_E
  rw [(qt_txt1 hC h.1).2, h.2.1]
  by_cases y0 : y = 0
  · rw [if_pos y0, hv.1 y0, h.2.2.1 y0]
  · rw [if_neg y0, hv.2 y0, h.2.2.2 y0]
/-- one try of shoes or hour -/
theorem c_try {w : sp_W} {S : ce_S} (hC : CR w S) {s : Nat} (hs : s < w_n w) (y v a p : Int32) (h1 : B1 w y S) (hv : (y = 0 → ce_I S 12 0 1 = v) ∧ (¬ y = 0 → ce_I S 12 1 1 = v)) : ∃ S1 S2 S3, F_X5_take [.inr (.inl (11, 18)), .inr (.inl (11, 3 * s))] S = some S1 ∧ F_X5_begin [.inr (.inl (11, 18)), .inr (.inl (12, 1))] S1 = some S2 ∧ F_X5_goByRule [.inr (.inl (11, 18)), .inl a, .inl p, .inr (.inl (12, 1))] S2 = some S3 ∧ qt S S3 ∧ B1 w y S3 ∧ rc S3 18 = sp_go (sp_Ew (w_E w) y v) (sp_beg (sp_Ew (w_E w) y v) (w_r w s)) a p := by
  have h6 : s < 6 := Nat.lt_of_lt_of_le hs hC.1.2
  have t1 := f_take S 18 (3 * s) (by omega)
  rw [(hC.2.1 s hs).1] at t1
  have q1 : qt S (wS (ce_sI S 11 1 18 (ce_I S 11 1 (3 * s))) 18 (w_r w s)) := qt_trans (qt_sI _ _ _ _ _ jk_18) (qt_wS _ _ _ jk_18)
  have b1 : B1 w y (wS (ce_sI S 11 1 18 (ce_I S 11 1 (3 * s))) 18 (w_r w s)) := by
    unfold B1
    rw [wS_R _ _ _ _ _ _ (by decide), wS_I _ _ _ _ _ _ (by decide), wS_I _ _ _ _ _ _ (by decide), wS_I _ _ _ _ _ _ (by decide)]
    exact h1
  have v1 : ∀ (y0 : Nat), ce_I (wS (ce_sI S 11 1 18 (ce_I S 11 1 (3 * s))) 18 (w_r w s)) 12 y0 1 = ce_I S 12 y0 1 := fun y0 => by
    rw [wS_I _ _ _ _ _ _ (by decide)]; rfl
  have E1 := B1_E (v := v) (CR_qt hC q1) b1 (by rw [v1, v1]; exact hv)
  obtain ⟨f, t2⟩ := f_begin _ 18 1 (qt_txt1 (CR_qt hC q1) b1.1).1
  rw [E1, rc_wS] at t2
  have q2 := qt_trans q1 (qt_u (wS (ce_sI S 11 1 18 (ce_I S 11 1 (3 * s))) 18 (w_r w s)) 18 (sp_beg (sp_Ew (w_E w) y v) (w_r w s)) f jk_18)
  have b2 := B1_u b1 18 (sp_beg (sp_Ew (w_E w) y v) (w_r w s)) f
  obtain ⟨f2, t3⟩ := f_go _ 18 1 a p (qt_txt1 (CR_qt hC q2) b2.1).1
  rw [scE_tA, scE_wS, E1, rc_tA, rc_wS] at t3
  exact ⟨_, _, _, t1, t2, t3, qt_trans q2 (qt_u _ 18 (sp_go (sp_Ew (w_E w) y v) (sp_beg (sp_Ew (w_E w) y v) (w_r w s)) a p) f2 jk_18), B1_u b2 18 _ f2, by rw [rc_tA, rc_wS]⟩
theorem c_at26 {w : sp_W} {x a p y : Int32} (hy : 0 ≤ y ∧ y ≤ 1) {s : Nat} (e2 : x.toNatClampNeg = s) (hin : ¬ (x < 0 ∨ 6 ≤ s)) (hs : s < w_n w) (N : Nat) (hN : N = if y = 0 then 10 else 24) : ∀ m, m ≤ N → ∀ (acc : sp_D) (S : ce_S), CR w S → B1 w y S → d2ok acc → ∃ S1, qt S S1 ∧ ce_Ev tb_X11_bestAt 26 (0, 0) [some (.inr (.inl (0, 0))), some (.inl x), some (.inl a), some (.inl p), some (.inl y), some (.inl (d2 acc).1), some (.inl (d2 acc).2), some (.inl (nI (N - m)))] [] S (some (.inl (sp_1 (sp_bat (w_E w) (w_r w s) a p y N m acc))), S1) := by
  have hN2 : N ≤ 24 := by rw [hN]; split <;> omega
  have htop : sp_top y = nI (N - 1) := by
    unfold sp_top
    by_cases y0 : y = 0
    · rw [if_pos y0, hN, if_pos y0]; rfl
    · have y1 : y = 1 := by
        have := hy.1; have := hy.2
        rw [i_le] at *; rw [i_eq] at *
        have e0 : ((0 : Int32)).toInt = 0 := by decide
        have e1 : ((1 : Int32)).toInt = 1 := by decide
        omega
      rw [if_neg y0, if_pos y1, hN, if_neg y0]; rfl
  have hN0 : 0 < N := by rw [hN]; split <;> omega
  intro m
  induction m with
  | zero =>
    intro _ acc S hC _ ha
    refine ⟨S, qt_refl S, ce_by tl_X11_bestAt (fun kk => sg_X11_bestAt_26 x a p y (d2 acc).1 (d2 acc).2 (nI (N - 0)) S kk) ?_⟩
    have h1 : nI (N - 1) < nI (N - 0) := by rw [nJ_lt (by omega) (by omega)]; omega
    simp only [f_topOf, Option.bind_some, htop, if_pos h1]
    unfold sp_bat
    rw [sp_1_d2]
  | succ m ih =>
    intro hm acc S hC hb ha
    have h1 : ¬ nI (N - 1) < nI (N - (m + 1)) := by rw [nJ_lt (by omega) (by omega)]; omega
    have e1 : nI (N - (m + 1)) + 1 = nI (N - m) := by rw [nJ_succ, show N - (m + 1) + 1 = N - m by omega]
    have hv : nI (N - (m + 1)) ≠ -1 := nI_ne _ (by omega)
    unfold sp_bat
    by_cases y0 : y = 0
    · have q0 : qt S (ce_sI S 12 0 1 (nI (N - (m + 1)))) := qt_sI _ _ _ _ _ jk_s1
      have b0 : B1 w y (ce_sI S 12 0 1 (nI (N - (m + 1)))) := ⟨hb.1, hb.2.1, hb.2.2.1, fun q => absurd y0 q⟩
      obtain ⟨S1, S2, S3, t1, t2, t3, q3, b3', r3⟩ := c_try (CR_qt hC q0) hs y (nI (N - (m + 1))) a p b0 ⟨fun _ => by rw [r_I_sI]; simp only [if_true], fun q => absurd y0 q⟩
      obtain ⟨S4, j1, j2⟩ := ih (by omega) (sp_bed acc (sp_go (sp_Ew (w_E w) y (nI (N - (m + 1)))) (sp_beg (sp_Ew (w_E w) y (nI (N - (m + 1)))) (w_r w s)) a p) (nI (N - (m + 1)))) S3 (CR_qt (CR_qt hC q0) q3) b3' (d2ok_bed _ ha hv)
      refine ⟨S4, qt_trans q0 (qt_trans q3 j1), ce_by tl_X11_bestAt (fun kk => sg_X11_bestAt_26 x a p y (d2 acc).1 (d2 acc).2 (nI (N - (m + 1))) S kk) ?_⟩
      simp only [f_topOf, Option.bind_some, htop, if_neg h1, if_pos y0, e2, if_neg hin, k3_eq, t1, t2, t3, rc_6, rc_7, r3, q_add_eq, e1]
      generalize sp_go (sp_Ew (w_E w) y (nI (N - (m + 1)))) (sp_beg (sp_Ew (w_E w) y (nI (N - (m + 1)))) (w_r w s)) a p = r at j2 ⊢
      unfold sp_bed at j2 ⊢
      by_cases hst : sp_st r = 1
      · simp only [if_pos hst] at j2 ⊢
        cases acc with
        | none =>
          simp only [d2, if_true] at j2 ⊢
          exact ce_kk_of j2
        | some b =>
          have hb : ¬ (d2 (some b)).1 = -1 := ha b rfl
          rw [if_neg hb]
          by_cases c1 : sp_pr r < b.2
          · rw [if_neg (show ¬ (d2 (some b)).2 ≤ sp_pr r from i_lt_not c1)]
            simp only [if_pos c1] at j2 ⊢
            exact ce_kk_of j2
          · rw [if_pos (show (d2 (some b)).2 ≤ sp_pr r from i_not_lt c1)]
            simp only [if_neg c1] at j2 ⊢
            exact ce_kk_of j2
      · simp only [if_neg hst] at j2 ⊢
        exact ce_kk_of j2
    · have q0 : qt S (ce_sI S 12 1 1 (nI (N - (m + 1)))) := qt_sI _ _ _ _ _ jk_s1
      have b0 : B1 w y (ce_sI S 12 1 1 (nI (N - (m + 1)))) := ⟨hb.1, hb.2.1, fun q => absurd q y0, hb.2.2.2⟩
      obtain ⟨S1, S2, S3, t1, t2, t3, q3, b3', r3⟩ := c_try (CR_qt hC q0) hs y (nI (N - (m + 1))) a p b0 ⟨fun q => absurd q y0, fun _ => by rw [r_I_sI]; simp only [if_true]⟩
      obtain ⟨S4, j1, j2⟩ := ih (by omega) (sp_bed acc (sp_go (sp_Ew (w_E w) y (nI (N - (m + 1)))) (sp_beg (sp_Ew (w_E w) y (nI (N - (m + 1)))) (w_r w s)) a p) (nI (N - (m + 1)))) S3 (CR_qt (CR_qt hC q0) q3) b3' (d2ok_bed _ ha hv)
      refine ⟨S4, qt_trans q0 (qt_trans q3 j1), ce_by tl_X11_bestAt (fun kk => sg_X11_bestAt_26 x a p y (d2 acc).1 (d2 acc).2 (nI (N - (m + 1))) S kk) ?_⟩
      simp only [f_topOf, Option.bind_some, htop, if_neg h1, if_neg y0, e2, if_neg hin, k3_eq, t1, t2, t3, rc_6, rc_7, r3, q_add_eq, e1]
      generalize sp_go (sp_Ew (w_E w) y (nI (N - (m + 1)))) (sp_beg (sp_Ew (w_E w) y (nI (N - (m + 1)))) (w_r w s)) a p = r at j2 ⊢
      unfold sp_bed at j2 ⊢
      by_cases hst : sp_st r = 1
      · simp only [if_pos hst] at j2 ⊢
        cases acc with
        | none =>
          simp only [d2, if_true] at j2 ⊢
          exact ce_kk_of j2
        | some b =>
          have hb : ¬ (d2 (some b)).1 = -1 := ha b rfl
          rw [if_neg hb]
          by_cases c1 : sp_pr r < b.2
          · rw [if_neg (show ¬ (d2 (some b)).2 ≤ sp_pr r from i_lt_not c1)]
            simp only [if_pos c1] at j2 ⊢
            exact ce_kk_of j2
          · rw [if_pos (show (d2 (some b)).2 ≤ sp_pr r from i_not_lt c1)]
            simp only [if_neg c1] at j2 ⊢
            exact ce_kk_of j2
      · simp only [if_neg hst] at j2 ⊢
        exact ce_kk_of j2
/-- the scene of thought is taken from the scene -/
theorem c_scene1 {w : sp_W} {S : ce_S} (hC : CR w S) : ∃ S1, F_X4_take [.inr (.inl (12, 1)), .inr (.inl (12, 0))] S = some S1 ∧ qt S S1 ∧ ce_R S1 12 4 1 = w_ru w ∧ ce_I S1 12 0 1 = w_sh w ∧ ce_I S1 12 1 1 = w_ho w ∧ ce_I S1 12 2 1 = w_li w := by
  obtain ⟨_, _, ⟨c1, c2, c3, c4, c5⟩, _⟩ := hC
  refine ⟨_, f_sceneTake S 1 0, qt_trans (qt_trans (qt_trans (qt_trans (qt_sI _ _ _ _ _ jk_s1) (qt_sI _ _ _ _ _ jk_s1)) (qt_sI _ _ _ _ _ jk_s1)) (qt_sI _ _ _ _ _ jk_s1)) (qt_sR _ _ _ _ _ jk_s1), ?_, ?_, ?_, ?_⟩ <;> simp only [r_I_sR, r_I_sA, r_I_sF, r_I_sQ, r_R_sI, r_R_sA, r_R_sF, r_R_sQ, r_A_sI, r_A_sR, r_A_sQ, r_L_sI, r_L_sR, r_L_sA, r_L_sF, r_L_sQ, r_C_sI, r_C_sR, r_C_sA, r_C_sF, r_C_sQ, r_Q_sI, r_Q_sR, r_Q_sA, r_Q_sF, r_I_sI, r_R_sR, r_A_sA, r_A_sF, r_Q_sQ, r_I_tA, r_R_tA, r_L_tA, r_C_tA, r_Q_tA, r_A_tA, reduceIte, Nat.reduceEqDiff] <;> first | exact c5 | exact c1 | exact c2 | exact c3
theorem c_bestAt {w : sp_W} {S : ce_S} (hC : CR w S) (x a p y : Int32) : ∃ S', F_X11_bestAt [.inr (.inl (0, 0)), .inl x, .inl a, .inl p, .inl y] S = some (s_bestAt w x a p y, S') ∧ qt S S' := by
  unfold s_bestAt
  by_cases h : isS w x ∧ isR a p ∧ 0 ≤ y ∧ y ≤ 1
  · obtain ⟨h1, h2, h3, h4⟩ := id h
    obtain ⟨s, hs, h6, e, e2, hin, hsel, hrc⟩ := c_sel hC h1
    obtain ⟨S1, t1, t2, t3, t4, t5, t6⟩ := c_scene1 hC
    obtain ⟨S2, j1, j2⟩ := c_at26 (w := w) (a := a) (p := p) ⟨h3, h4⟩ e2 hin hs (if y = 0 then 10 else 24) rfl (if y = 0 then 10 else 24) (Nat.le_refl _) none S1 (CR_qt hC t2) ⟨t3, t6, fun _ => t5, fun _ => t4⟩ (fun b hb => by cases hb)
    rw [Nat.sub_self] at j2
    refine ⟨S2, fI_by tl_X11_bestAt (gd_r rfl rfl) (fun kk => sg_X11_bestAt_0 x a p y S kk) ?_, qt_trans t2 j1⟩
    simp only [c_isS1 hC h1, c_isR1 S h2, Option.bind_some, i_10, if_false, if_neg (i_le_not h3), if_pos h4, t1, if_pos h, hsel]
    exact ce_kk_of j2
  · refine ⟨S, fI_by tl_X11_bestAt (gd_r rfl rfl) (fun kk => sg_X11_bestAt_0 x a p y S kk) ?_, qt_refl S⟩
    simp only [if_neg h]
    by_cases h1 : isS w x
    · by_cases h2 : isR a p
      · by_cases h3 : y < 0
        · simp only [c_isS1 hC h1, c_isR1 S h2, Option.bind_some, i_10, if_false, if_pos h3]
        · have h4 : ¬ y ≤ 1 := fun q => h ⟨h1, h2, i_not_lt h3, q⟩
          simp only [c_isS1 hC h1, c_isR1 S h2, Option.bind_some, i_10, if_false, if_neg h3, if_neg h4]
      · simp only [c_isS1 hC h1, c_isR0 S h2, Option.bind_some, i_10, if_false, if_true]
    · simp only [c_isS0 hC h1, Option.bind_some, if_true]
/-! sheets -/
theorem f_miss (S : ce_S) (j : Nat) : F_X6_isMissing [.inr (.inl (15, j))] S = some (if ce_I S 15 1 j = -1 then 1 else 0, S) := by
  refine fI_by tl_X6_isMissing (gd_r rfl rfl) (fun kk => sg_X6_isMissing_0 j S kk) ?_
  by_cases h : ce_I S 15 1 j = -1
  · simp only [if_pos h]
  · simp only [if_neg h]
/-- a sheet of the component -/
theorem c_sh {w : sp_W} {S : ce_S} (hC : CR w S) {x : Int32} (h : is4 x) : ∃ j, j < 4 ∧ x.toNatClampNeg = j ∧ ¬ (x < 0 ∨ 4 ≤ j) ∧ w_sheet w x = w_h w j ∧ ce_I S 15 1 j = (w_h w j).1 ∧ ce_I S 15 2 j = nI (w_h w j).2.1 ∧ (w_h w j).2.1 ≤ 40 ∧ ∀ e, e < (w_h w j).2.1 → ce_A S 16 j e = (w_h w j).2.2 e := by
  obtain ⟨j, hj, e, e2⟩ := i_nat (n := 4) (by decide) h
  obtain ⟨a1, a2, a3, a4⟩ := hC.2.2.2.2.2.1 j hj
  refine ⟨j, hj, e2, ?_, by unfold w_sheet; rw [e2], a1, a2, a3, a4⟩
  rw [e]; exact nJ_in hj (by decide)
theorem f_has1 {S : ce_S} {j n : Nat} (hn : ce_I S 15 2 j = nI n) (h40 : n ≤ 40) {x : Int32} (h : 0 ≤ x ∧ x < nI n) : F_X6_has [.inr (.inl (15, j)), .inl x] S = some (1, S) := by
  refine fI_by tl_X6_has (gd_r rfl rfl) (fun kk => sg_X6_has_0 j x S kk) ?_
  obtain ⟨e, he, ex, _⟩ := i_nat (by omega) h
  have h3 : ¬ (40 : Int32) ≤ x := by rw [ex, show (40 : Int32) = nI 40 from rfl, nJ_le (by omega) (by omega)]; omega
  simp only [hn, if_neg (i_le_not h.1), if_neg (i_lt_not h.2), if_neg h3]
theorem f_has0 {S : ce_S} {j n : Nat} (hn : ce_I S 15 2 j = nI n) {x : Int32} (h : ¬ (0 ≤ x ∧ x < nI n)) : F_X6_has [.inr (.inl (15, j)), .inl x] S = some (0, S) := by
  refine fI_by tl_X6_has (gd_r rfl rfl) (fun kk => sg_X6_has_0 j x S kk) ?_
  simp only [hn]
  by_cases h1 : x < 0
  · simp only [if_pos h1]
  · have h2 : nI n ≤ x := by
      by_cases q : nI n ≤ x
      · exact q
      · exact absurd ⟨i_not_lt h1, i_not_le q⟩ h
    simp only [if_neg h1, if_pos h2]
theorem f_at {S : ce_S} {j n e : Nat} (hn : ce_I S 15 2 j = nI n) (h40 : n ≤ 40) (he : e < n) : F_X6_at [.inr (.inl (15, j)), .inl (nI e)] S = some (ce_A S 16 j e, S) := by
  have h0 : 0 ≤ nI e ∧ nI e < nI n := ⟨by rw [show (0 : Int32) = nI 0 from rfl, nJ_le (by decide) (by omega)]; omega, by rw [nJ_lt (by omega) (by omega)]; exact he⟩
  refine fI_by tl_X6_at (gd_r rfl rfl) (fun kk => sg_X6_at_0 j (nI e) S kk) ?_
  simp only [f_has1 hn h40 h0, Option.bind_some, i_10, if_false]
  rw [nI_clamp (by omega), if_neg (nJ_in (by omega) (by decide))]
/-- the seller of thought hears a bid -/
theorem c_hear18 {w : sp_W} {S : ce_S} (hC : CR w S) (bid : Int32) : ∃ S1, F_X5_hear [.inr (.inl (11, 18)), .inl bid, .inr (.inl (12, 0))] S = some S1 ∧ qt S S1 ∧ rc S1 18 = sp_hea (w_E w) (rc S 18) bid := by
  obtain ⟨f, e⟩ := f_hear S 18 0 bid (CR_ok hC)
  rw [CR_E hC] at e
  exact ⟨_, e, qt_u _ _ _ _ jk_18, by rw [rc_tA, rc_wS]⟩
theorem qt_sh {S S' : ce_S} (h : qt S S') (j : Nat) : ce_I S' 15 1 j = ce_I S 15 1 j ∧ ce_I S' 15 2 j = ce_I S 15 2 j ∧ ∀ e, ce_A S' 16 j e = ce_A S 16 j e := ⟨qt_I h _ _ _ (by decide) (by decide), qt_I h _ _ _ (by decide) (by decide), fun e => by rw [h.2.2.1 16 (by decide)]⟩
theorem c_jud28 {w : sp_W} (x y : Int32) (j n : Nat) (g : Nat → Int32) (h40 : n ≤ 40) : ∀ m, m ≤ n → ∀ (S : ce_S), CR w S → ce_I S 15 2 j = nI n → (∀ e, e < n → ce_A S 16 j e = g e) → ∃ S1, qt S S1 ∧ ce_Ev tb_X11_judge 28 (0, 0) [some (.inr (.inl (0, 0))), some (.inl x), some (.inl y), some (.inr (.inl (15, j))), some (.inl (nI (n - m)))] [] S (some (.inl (sp_jud (w_E w) g n m (rc S 18))), S1) := by
  intro m
  induction m with
  | zero =>
    intro _ S hC hn hg
    refine ⟨S, qt_refl S, ce_by tl_X11_judge (fun kk => sg_X11_judge_28 x y j (nI (n - 0)) S kk) ?_⟩
    have h1 : ce_I S 15 2 j ≤ nI (n - 0) := by rw [hn]; exact Int32.le_refl _
    rw [if_pos h1]; rfl
  | succ m ih =>
    intro hm S hC hn hg
    have hi : n - (m + 1) < n := by omega
    have h1 : ¬ ce_I S 15 2 j ≤ nI (n - (m + 1)) := by rw [hn, nJ_le (by omega) (by omega)]; omega
    have e1 : nI (n - (m + 1)) + 1 = nI (n - m) := by rw [nJ_succ, show n - (m + 1) + 1 = n - m by omega]
    have ea := f_at (S := S) hn h40 hi
    rw [hg _ hi] at ea
    unfold sp_jud
    by_cases ho : sp_st (rc S 18) = 0
    · by_cases hb : isB (g (n - (m + 1)))
      · obtain ⟨S1, g1, g2, g3⟩ := c_hear18 hC (g (n - (m + 1)))
        obtain ⟨q1, q2, q3⟩ := qt_sh g2 j
        obtain ⟨S2, j1, j2⟩ := ih (by omega) S1 (CR_qt hC g2) (q2.trans hn) (fun e he => (q3 e).trans (hg e he))
        rw [g3] at j2
        refine ⟨S2, qt_trans g2 j1, ce_by tl_X11_judge (fun kk => sg_X11_judge_28 x y j (nI (n - (m + 1))) S kk) ?_⟩
        simp only [if_neg h1, rc_6, if_pos ho, ea, Option.bind_some, c_isB1 S hb, i_10, if_false, g1, q_add_eq, e1, if_pos (And.intro ho hb)]
        exact ce_kk_of j2
      · refine ⟨S, qt_refl S, ce_by tl_X11_judge (fun kk => sg_X11_judge_28 x y j (nI (n - (m + 1))) S kk) ?_⟩
        simp only [if_neg h1, rc_6, if_pos ho, ea, Option.bind_some, c_isB0 S hb, if_true, if_neg (show ¬ (sp_st (rc S 18) = 0 ∧ isB (g (n - (m + 1)))) from fun q => hb q.2)]
    · refine ⟨S, qt_refl S, ce_by tl_X11_judge (fun kk => sg_X11_judge_28 x y j (nI (n - (m + 1))) S kk) ?_⟩
      simp only [if_neg h1, rc_6, if_neg ho, if_neg (show ¬ (sp_st (rc S 18) = 0 ∧ isB (g (n - (m + 1)))) from fun q => ho q.1)]
theorem c_judge {w : sp_W} {S : ce_S} (hC : CR w S) (x y : Int32) : ∃ S', F_X11_judge [.inr (.inl (0, 0)), .inl x, .inl y] S = some (s_judge w x y, S') ∧ qt S S' := by
  unfold s_judge
  by_cases h : isS w x ∧ is4 y
  · obtain ⟨h1, h2⟩ := id h
    obtain ⟨s, hs, h6, e, e2, hin, hsel, hrc⟩ := c_sel hC h1
    obtain ⟨j, hj, f2, fin, fsh, f3, f4, f5, f6⟩ := c_sh hC h2
    by_cases hm : (w_h w j).1 = -1
    · refine ⟨S, fI_by tl_X11_judge (gd_r rfl rfl) (fun kk => sg_X11_judge_0 x y S kk) ?_, qt_refl S⟩
      simp only [c_isS1 hC h1, c_is41 S h2, Option.bind_some, i_10, if_false, f2, if_neg fin, f_miss, f3, if_pos hm, if_pos h, fsh]
    · obtain ⟨S1, t1, t2, t3⟩ := c_take hC hs
      obtain ⟨q1, q2, q3⟩ := qt_sh t2 j
      obtain ⟨S2, j1, j2⟩ := c_jud28 (w := w) x y j (w_h w j).2.1 (w_h w j).2.2 f5 _ (Nat.le_refl _) S1 (CR_qt hC t2) (q2.trans f4) (fun e he => (q3 e).trans (f6 e he))
      rw [Nat.sub_self, t3] at j2
      refine ⟨S2, fI_by tl_X11_judge (gd_r rfl rfl) (fun kk => sg_X11_judge_0 x y S kk) ?_, qt_trans t2 j1⟩
      simp only [c_isS1 hC h1, c_is41 S h2, Option.bind_some, i_10, if_false, f2, if_neg fin, f_miss, f3, if_neg hm, if_true, e2, if_neg hin, k3_eq, t1, if_pos h, fsh, hsel]
      exact ce_kk_of j2
  · refine ⟨S, fI_by tl_X11_judge (gd_r rfl rfl) (fun kk => sg_X11_judge_0 x y S kk) ?_, qt_refl S⟩
    simp only [if_neg h]
    by_cases h1 : isS w x
    · have h2 : ¬ is4 y := fun q => h ⟨h1, q⟩
      simp only [c_isS1 hC h1, c_is40 S h2, Option.bind_some, i_10, if_false, if_true]
    · simp only [c_isS0 hC h1, Option.bind_some, if_true]
theorem c_so18 {w : sp_W} (x v : Int32) (j n : Nat) (g : Nat → Int32) (h40 : n ≤ 40) (he : n % 2 = 0) : ∀ m, m ≤ n / 2 → ∀ (S : ce_S), CR w S → ce_I S 15 2 j = nI n → (∀ e, e < n → ce_A S 16 j e = g e) → ∃ S1, qt S S1 ∧ ce_Ev tb_X11_saysSo 18 (0, 0) [some (.inr (.inl (0, 0))), some (.inl x), some (.inl v), some (.inr (.inl (15, j))), some (.inl (nI (2 * (n / 2 - m))))] [] S (some (.inl (sp_b (sp_so (w_E w) g (n / 2) m (rc S 18)))), S1) := by
  intro m
  induction m with
  | zero =>
    intro _ S hC hn hg
    refine ⟨S, qt_refl S, ce_by tl_X11_saysSo (fun kk => sg_X11_saysSo_18 x v j (nI (2 * (n / 2 - 0))) S kk) ?_⟩
    have h1 : nI n ≤ nI (2 * (n / 2 - 0)) + 1 := by rw [nJ_succ, nJ_le (by omega) (by omega)]; omega
    simp only [q_add_eq, hn, if_pos h1]; rfl
  | succ m ih =>
    intro hm S hC hn hg
    have h1 : ¬ nI n ≤ nI (2 * (n / 2 - (m + 1)) + 1) := by rw [nJ_le (by omega) (by omega)]; omega
    have e2 : nI (2 * (n / 2 - (m + 1))) + 2 = nI (2 * (n / 2 - m)) := by rw [show (2 : Int32) = nI 2 from rfl, nJ_add, show 2 * (n / 2 - (m + 1)) + 2 = 2 * (n / 2 - m) by omega]
    have hi : 2 * (n / 2 - (m + 1)) < n := by omega
    have hi1 : 2 * (n / 2 - (m + 1)) + 1 < n := by omega
    have ea := f_at (S := S) hn h40 hi
    rw [hg _ hi] at ea
    unfold sp_so
    by_cases hb : isB (g (2 * (n / 2 - (m + 1))))
    · obtain ⟨S1, g1, g2, g3⟩ := c_hear18 hC (g (2 * (n / 2 - (m + 1))))
      obtain ⟨q1, q2, q3⟩ := qt_sh g2 j
      have ea1 := f_at (S := S1) (q2.trans hn) h40 hi1
      rw [q3, hg _ hi1] at ea1
      by_cases ho : sp_st (sp_hea (w_E w) (rc S 18) (g (2 * (n / 2 - (m + 1))))) = 0
      · by_cases hs : sp_sa (sp_hea (w_E w) (rc S 18) (g (2 * (n / 2 - (m + 1))))) = g (2 * (n / 2 - (m + 1)) + 1)
        · obtain ⟨S2, j1, j2⟩ := ih (by omega) S1 (CR_qt hC g2) (q2.trans hn) (fun e he => (q3 e).trans (hg e he))
          rw [g3] at j2
          refine ⟨S2, qt_trans g2 j1, ce_by tl_X11_saysSo (fun kk => sg_X11_saysSo_18 x v j (nI (2 * (n / 2 - (m + 1)))) S kk) ?_⟩
          simp only [q_add_eq, nJ_succ, hn, if_neg h1, ea, Option.bind_some, c_isB1 S hb, i_10, if_false, g1, rc_6, rc_4, g3, if_pos ho, ea1, if_pos hs, e2, if_pos hb, if_pos (And.intro ho hs)]
          exact ce_kk_of j2
        · refine ⟨S1, g2, ce_by tl_X11_saysSo (fun kk => sg_X11_saysSo_18 x v j (nI (2 * (n / 2 - (m + 1)))) S kk) ?_⟩
          simp only [q_add_eq, nJ_succ, hn, if_neg h1, ea, Option.bind_some, c_isB1 S hb, i_10, if_false, g1, rc_6, rc_4, g3, if_pos ho, ea1, if_neg hs, if_pos hb]
          rw [if_neg (fun q => hs q.2)]; rfl
      · refine ⟨S1, g2, ce_by tl_X11_saysSo (fun kk => sg_X11_saysSo_18 x v j (nI (2 * (n / 2 - (m + 1)))) S kk) ?_⟩
        simp only [q_add_eq, nJ_succ, hn, if_neg h1, ea, Option.bind_some, c_isB1 S hb, i_10, if_false, g1, rc_6, rc_4, g3, if_neg ho, if_pos hb]
        rw [if_neg (fun q => ho q.1)]; rfl
    · refine ⟨S, qt_refl S, ce_by tl_X11_saysSo (fun kk => sg_X11_saysSo_18 x v j (nI (2 * (n / 2 - (m + 1)))) S kk) ?_⟩
      simp only [q_add_eq, nJ_succ, hn, if_neg h1, ea, Option.bind_some, c_isB0 S hb, if_true, if_neg hb]; rfl
theorem c_so {w : sp_W} {S : ce_S} (hC : CR w S) {x : Int32} {s : Nat} (e2 : x.toNatClampNeg = s) (hin : ¬ (x < 0 ∨ 6 ≤ s)) (hs : s < w_n w) (v : Int32) (j n : Nat) (g : Nat → Int32) (h40 : n ≤ 40) (he : n % 2 = 0) (hn : ce_I S 15 2 j = nI n) (hg : ∀ e, e < n → ce_A S 16 j e = g e) : ∃ S1, F_X11_saysSo [.inr (.inl (0, 0)), .inl x, .inl v, .inr (.inl (15, j))] S = some (sp_b (sp_so (w_E w) g (n / 2) (n / 2) (sp_beg (w_E w) (sp_wc (w_r w s) v))), S1) ∧ qt S S1 := by
  obtain ⟨S1, t1, t2, t3⟩ := c_take hC hs
  have q1 : qt S (wS S1 18 (sp_wc (w_r w s) v)) := qt_trans t2 (qt_wS _ _ _ jk_18)
  obtain ⟨f, b1⟩ := f_begin (wS S1 18 (sp_wc (w_r w s) v)) 18 0 (CR_ok (CR_qt hC q1))
  rw [CR_E (CR_qt hC q1), rc_wS] at b1
  have q2 := qt_trans q1 (qt_u (wS S1 18 (sp_wc (w_r w s) v)) 18 (sp_beg (w_E w) (sp_wc (w_r w s) v)) f jk_18)
  obtain ⟨p1, p2, p3⟩ := qt_sh q2 j
  obtain ⟨S2, j1, j2⟩ := c_so18 (w := w) x v j n g h40 he (n / 2) (Nat.le_refl _) _ (CR_qt hC q2) (p2.trans hn) (fun e he => (p3 e).trans (hg e he))
  rw [Nat.sub_self, rc_tA, rc_wS] at j2
  refine ⟨S2, fI_by tl_X11_saysSo (gd_r rfl rfl) (fun kk => sg_X11_saysSo_0 x v j S kk) ?_, qt_trans q2 j1⟩
  have e3 : ce_sI S1 11 2 18 v = wS S1 18 (sp_wc (w_r w s) v) := by rw [s2_wS, t3]; rfl
  simp only [e2, if_neg hin, k3_eq, t1, Option.bind_some, e3, b1]
  exact ce_kk_of j2
theorem c_his40 {w : sp_W} {x : Int32} (y z : Int32) {s : Nat} (e2 : x.toNatClampNeg = s) (hin : ¬ (x < 0 ∨ 6 ≤ s)) (hs : s < w_n w) (j n : Nat) (f2 : y.toNatClampNeg = j) (fin : ¬ (y < 0 ∨ 4 ≤ j)) (g : Nat → Int32) (h40 : n ≤ 40) (he : n % 2 = 0) : ∀ m, m ≤ 1000 → ∀ (acc : Int32 × Int32 × Int32) (S : ce_S), CR w S → ce_I S 15 2 j = nI n → (∀ e, e < n → ce_A S 16 j e = g e) → ∃ S1, qt S S1 ∧ ce_Ev tb_X11_hisCost 40 (0, 0) [some (.inr (.inl (0, 0))), some (.inl x), some (.inl y), some (.inl z), some (.inl acc.1), some (.inl acc.2.1), some (.inl acc.2.2), some (.inl (nI (1000 - m)))] [] S (some (.inl (sp_t3 z (sp_his (w_E w) (w_r w s) g (n / 2) m acc))), S1) := by
  intro m
  induction m with
  | zero =>
    intro _ acc S hC hn hg
    refine ⟨S, qt_refl S, ce_by tl_X11_hisCost (fun kk => sg_X11_hisCost_40 x y z acc.1 acc.2.1 acc.2.2 (nI (1000 - 0)) S kk) ?_⟩
    have h1 : (999 : Int32) < nI (1000 - 0) := by decide
    rw [if_pos h1]
    unfold sp_his sp_t3
    by_cases y0 : z = 0
    · simp only [if_pos y0]
    by_cases y1 : z = 1
    · simp only [if_neg y0, if_pos y1]
    · simp only [if_neg y0, if_neg y1]
  | succ m ih =>
    intro hm acc S hC hn hg
    have em : 1000 - (m + 1) = 999 - m := by omega
    have h1 : ¬ (999 : Int32) < nI (999 - m) := by rw [show (999 : Int32) = nI 999 from rfl, nJ_lt (by omega) (by omega)]; omega
    have e1 : nI (999 - m) + 1 = nI (1000 - m) := by rw [nJ_succ, show 999 - m + 1 = 1000 - m by omega]
    obtain ⟨S1, g1, g2⟩ := c_so hC e2 hin hs (nI (999 - m)) j n g h40 he hn hg
    obtain ⟨q1, q2, q3⟩ := qt_sh g2 j
    rw [em]
    unfold sp_his
    by_cases hb : sp_so (w_E w) g (n / 2) (n / 2) (sp_beg (w_E w) (sp_wc (w_r w s) (nI (999 - m)))) = true
    · rw [hb] at g1
      by_cases hl : acc.2.1 = -1
      · obtain ⟨S2, j1, j2⟩ := ih (by omega) (acc.1 + 1, nI (999 - m), nI (999 - m)) S1 (CR_qt hC g2) (q2.trans hn) (fun e he => (q3 e).trans (hg e he))
        refine ⟨S2, qt_trans g2 j1, ce_by tl_X11_hisCost (fun kk => sg_X11_hisCost_40 x y z acc.1 acc.2.1 acc.2.2 (nI (999 - m)) S kk) ?_⟩
        simp only [if_neg h1, f2, if_neg fin, g1, Option.bind_some, sp_b, if_true, i_10, if_false, if_pos hl, q_add_eq, e1, hb]
        exact ce_kk_of j2
      · obtain ⟨S2, j1, j2⟩ := ih (by omega) (acc.1 + 1, acc.2.1, nI (999 - m)) S1 (CR_qt hC g2) (q2.trans hn) (fun e he => (q3 e).trans (hg e he))
        refine ⟨S2, qt_trans g2 j1, ce_by tl_X11_hisCost (fun kk => sg_X11_hisCost_40 x y z acc.1 acc.2.1 acc.2.2 (nI (999 - m)) S kk) ?_⟩
        simp only [if_neg h1, f2, if_neg fin, g1, Option.bind_some, sp_b, if_true, i_10, if_false, if_neg hl, q_add_eq, e1, hb]
        exact ce_kk_of j2
    · have hb' : sp_so (w_E w) g (n / 2) (n / 2) (sp_beg (w_E w) (sp_wc (w_r w s) (nI (999 - m)))) = false := by simpa using hb
      rw [hb'] at g1
      obtain ⟨S2, j1, j2⟩ := ih (by omega) acc S1 (CR_qt hC g2) (q2.trans hn) (fun e he => (q3 e).trans (hg e he))
      refine ⟨S2, qt_trans g2 j1, ce_by tl_X11_hisCost (fun kk => sg_X11_hisCost_40 x y z acc.1 acc.2.1 acc.2.2 (nI (999 - m)) S kk) ?_⟩
      have hz : sp_b false = 0 := rfl
      simp only [if_neg h1, f2, if_neg fin, g1, Option.bind_some, hz, if_true, q_add_eq, e1, if_neg hb]
      exact ce_kk_of j2
theorem rem2 (n : Nat) (h : n ≤ 40) : (nI n - nI n / 2 * 2 = 0) = (n % 2 = 0) := by
  refine propext ?_
  have : ∀ n : Fin 41, (nI n.1 - nI n.1 / 2 * 2 = 0) ↔ (n.1 % 2 = 0) := by decide
  exact this ⟨n, by omega⟩
theorem c_hisCost {w : sp_W} {S : ce_S} (hC : CR w S) (x y z : Int32) : ∃ S', F_X11_hisCost [.inr (.inl (0, 0)), .inl x, .inl y, .inl z] S = some (s_hisCost w x y z, S') ∧ qt S S' := by
  unfold s_hisCost
  by_cases h : isS w x ∧ is4 y ∧ 0 ≤ z ∧ z ≤ 2
  · obtain ⟨h1, h2, h3, h4⟩ := id h
    obtain ⟨s, hs, h6, e, e2, hin, hsel, hrc⟩ := c_sel hC h1
    obtain ⟨j, hj, f2, fin, fsh, f3, f4, f5, f6⟩ := c_sh hC h2
    by_cases hm : (w_h w j).1 = -1
    · refine ⟨S, fI_by tl_X11_hisCost (gd_r rfl rfl) (fun kk => sg_X11_hisCost_0 x y z S kk) ?_, qt_refl S⟩
      simp only [c_isS1 hC h1, c_is41 S h2, Option.bind_some, i_10, if_false, if_neg (i_le_not h3), if_pos h4, f2, if_neg fin, f_miss, f3, if_pos hm, if_pos h, fsh]
    · by_cases hr : (w_h w j).2.1 % 2 = 0
      · have hr' : ¬ (w_h w j).2.1 % 2 = 1 := by omega
        have hr2 : nI (w_h w j).2.1 - nI (w_h w j).2.1 / 2 * 2 = 0 := by rw [rem2 _ f5]; exact hr
        obtain ⟨S2, j1, j2⟩ := c_his40 (w := w) y z e2 hin hs j (w_h w j).2.1 f2 fin (w_h w j).2.2 f5 hr 1000 (Nat.le_refl _) (0, -1, -1) S hC f4 f6
        rw [Nat.sub_self] at j2
        refine ⟨S2, fI_by tl_X11_hisCost (gd_r rfl rfl) (fun kk => sg_X11_hisCost_0 x y z S kk) ?_, j1⟩
        simp only [c_isS1 hC h1, c_is41 S h2, Option.bind_some, i_10, if_false, if_neg (i_le_not h3), if_pos h4, f2, if_neg fin, f_miss, f3, if_neg hm, if_true, f4, q_rem_eq, hr2, if_pos h, fsh, hsel, if_neg hr']
        exact ce_kk_of j2
      · have hr' : (w_h w j).2.1 % 2 = 1 := by omega
        have hr2 : ¬ nI (w_h w j).2.1 - nI (w_h w j).2.1 / 2 * 2 = 0 := by rw [rem2 _ f5]; exact hr
        refine ⟨S, fI_by tl_X11_hisCost (gd_r rfl rfl) (fun kk => sg_X11_hisCost_0 x y z S kk) ?_, qt_refl S⟩
        simp only [c_isS1 hC h1, c_is41 S h2, Option.bind_some, i_10, if_false, if_neg (i_le_not h3), if_pos h4, f2, if_neg fin, f_miss, f3, if_neg hm, if_true, f4, q_rem_eq, if_neg hr2, if_pos h, fsh, if_pos hr']
  · refine ⟨S, fI_by tl_X11_hisCost (gd_r rfl rfl) (fun kk => sg_X11_hisCost_0 x y z S kk) ?_, qt_refl S⟩
    simp only [if_neg h]
    by_cases h1 : isS w x
    · by_cases h2 : is4 y
      · by_cases h3 : z < 0
        · simp only [c_isS1 hC h1, c_is41 S h2, Option.bind_some, i_10, if_false, if_pos h3]
        · have h4 : ¬ z ≤ 2 := fun q => h ⟨h1, h2, i_not_lt h3, q⟩
          simp only [c_isS1 hC h1, c_is41 S h2, Option.bind_some, i_10, if_false, if_neg h3, if_neg h4]
      · simp only [c_isS1 hC h1, c_is40 S h2, Option.bind_some, i_10, if_false, if_true]
    · simp only [c_isS0 hC h1, Option.bind_some, if_true]
/-! drawn -/
theorem c_dr11 {w : sp_W} (x y : Int32) : ∀ m, m ≤ 30 → ∀ (z : Int32) (S : ce_S), CR w S → ∃ S1, qt S S1 ∧ ce_Ev tb_X11_standsBySeed 11 (0, 0) [some (.inr (.inl (0, 0))), some (.inl x), some (.inl y), some (.inl z), some (.inl (nI (30 - m)))] [] S (some (.inl (sp_st (sp_drl (w_E w) m z (rc S 18)))), S1) := by
  intro m
  induction m with
  | zero =>
    intro _ z S hC
    refine ⟨S, qt_refl S, ce_by tl_X11_standsBySeed (fun kk => sg_X11_standsBySeed_11 x y z (nI (30 - 0)) S kk) ?_⟩
    have h1 : (30 : Int32) ≤ nI (30 - 0) := by decide
    rw [if_pos h1]; rfl
  | succ m ih =>
    intro hm z S hC
    have h1 : ¬ (30 : Int32) ≤ nI (30 - (m + 1)) := by rw [show (30 : Int32) = nI 30 from rfl, nJ_le (by omega) (by omega)]; omega
    have e1 : nI (30 - (m + 1)) + 1 = nI (30 - m) := by rw [nJ_succ, show 30 - (m + 1) + 1 = 30 - m by omega]
    unfold sp_drl
    by_cases ho : sp_st (rc S 18) = 0
    · obtain ⟨S1, g1, g2, g3⟩ := c_hear18 hC (sp_db (sp_z z))
      obtain ⟨S2, j1, j2⟩ := ih (by omega) (sp_z z) S1 (CR_qt hC g2)
      rw [g3] at j2
      refine ⟨S2, qt_trans g2 j1, ce_by tl_X11_standsBySeed (fun kk => sg_X11_standsBySeed_11 x y z (nI (30 - (m + 1))) S kk) ?_⟩
      have ez : z * 1103515245 + 12345 = sp_z z := rfl
      simp only [if_neg h1, rc_6, if_pos ho, q_rem_eq, q_ushr_eq, q_add_eq, q_mul_eq, e1, ez]
      rw [show ((sp_z z).toUInt32 >>> (Int32.toUInt32 11 &&& Int32.toUInt32 31)).toInt32 - ((sp_z z).toUInt32 >>> (Int32.toUInt32 11 &&& Int32.toUInt32 31)).toInt32 / 400 * 400 = sp_db (sp_z z) from rfl, g1]
      exact ce_kk_of j2
    · refine ⟨S, qt_refl S, ce_by tl_X11_standsBySeed (fun kk => sg_X11_standsBySeed_11 x y z (nI (30 - (m + 1))) S kk) ?_⟩
      simp only [if_neg h1, rc_6, if_neg ho]
theorem c_seed {w : sp_W} {S : ce_S} (hC : CR w S) {x : Int32} {s : Nat} (e2 : x.toNatClampNeg = s) (hin : ¬ (x < 0 ∨ 6 ≤ s)) (hs : s < w_n w) (y : Int32) : ∃ S1, F_X11_standsBySeed [.inr (.inl (0, 0)), .inl x, .inl y] S = some (sp_dr (w_E w) (w_r w s) y, S1) ∧ qt S S1 := by
  obtain ⟨S1, t1, t2, t3⟩ := c_take hC hs
  obtain ⟨S2, j1, j2⟩ := c_dr11 (w := w) x y 30 (Nat.le_refl _) y S1 (CR_qt hC t2)
  rw [Nat.sub_self, t3] at j2
  refine ⟨S2, fI_by tl_X11_standsBySeed (gd_r rfl rfl) (fun kk => sg_X11_standsBySeed_0 x y S kk) ?_, qt_trans t2 j1⟩
  simp only [e2, if_neg hin, k3_eq, t1, Option.bind_some]
  exact ce_kk_of j2
theorem c_drawn {w : sp_W} {S : ce_S} (hC : CR w S) (x y : Int32) : ∃ S', F_X11_drawn [.inr (.inl (0, 0)), .inl x, .inl y] S = some (s_drawn w x y, S') ∧ qt S S' := by
  unfold s_drawn
  by_cases h1 : isS w x
  · obtain ⟨s, hs, h6, e, e2, hin, hsel, hrc⟩ := c_sel hC h1
    obtain ⟨S1, g1, g2⟩ := c_seed hC e2 hin hs y
    refine ⟨S1, fI_by tl_X11_drawn (gd_r rfl rfl) (fun kk => sg_X11_drawn_0 x y S kk) ?_, g2⟩
    simp only [c_isS1 hC h1, Option.bind_some, i_10, if_false, g1, if_pos h1, hsel]
  · refine ⟨S, fI_by tl_X11_drawn (gd_r rfl rfl) (fun kk => sg_X11_drawn_0 x y S kk) ?_, qt_refl S⟩
    simp only [c_isS0 hC h1, Option.bind_some, if_true, if_neg h1]
