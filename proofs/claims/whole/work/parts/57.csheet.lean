/-! the host's methods of the component -/
/-- a sheet is put -/
theorem CR_hp {w : sp_W} {S S' : ce_S} (hC : CR w S) {j : Nat} (H : sp_H) (hI : ∀ t k i, ¬ (t = 15 ∧ i = j) → ce_I S' t k i = ce_I S t k i) (hR : ce_R S' = ce_R S) (hA : ∀ t i, ¬ (t = 16 ∧ i = j) → ce_A S' t i = ce_A S t i) (hX : S'.2.2.2 = S.2.2.2)
    (h1 : ce_I S' 15 1 j = H.1) (h2 : ce_I S' 15 2 j = nI H.2.1) (h3 : H.2.1 ≤ 40) (h4 : ∀ e, e < H.2.1 → ce_A S' 16 j e = H.2.2 e) : CR (w_hput w j H) S' := by
  obtain ⟨⟨n1, n2⟩, hr, ⟨c1, c2, c3, c4, c5⟩, ⟨t1, t2, t3, t4, t5⟩, ⟨p1, p2, p3⟩, hh, ⟨i1, i2⟩⟩ := hC
  have g : ∀ t k i, t ≠ 15 → ce_I S' t k i = ce_I S t k i := fun t k i h => hI t k i (fun q => h q.1)
  have a : ∀ t i, t ≠ 16 → ce_A S' t i = ce_A S t i := fun t i h => hA t i (fun q => h q.1)
  have hL : ce_L S' = ce_L S := by unfold ce_L; rw [hX]
  have hCc : ce_C S' = ce_C S := by unfold ce_C; rw [hX]
  have hQ : ce_Q S' = ce_Q S := by unfold ce_Q; rw [hX]
  have hrc : ∀ j, rc S' j = rc S j := fun j => by
    unfold rc
    rw [hR, g _ _ _ (by decide), g _ _ _ (by decide), g _ _ _ (by decide), g _ _ _ (by decide), g _ _ _ (by decide), g _ _ _ (by decide)]
  refine ⟨⟨(g _ _ _ (by decide)).trans n1, n2⟩, fun i hi => ?_, ⟨(g _ _ _ (by decide)).trans c1, (g _ _ _ (by decide)).trans c2, (g _ _ _ (by decide)).trans c3, (g _ _ _ (by decide)).trans c4, by rw [hR]; exact c5⟩, ⟨(g _ _ _ (by decide)).trans t1, t2, t3, by rw [hCc]; exact t4, fun k hk => ?_⟩, ⟨(g _ _ _ (by decide)).trans p1, p2, fun e he => by rw [a 8 0 (by decide)]; exact p3 e he⟩, fun i hi => ?_, ?_, ?_⟩
  · rw [hrc, g _ _ _ (by decide)]; exact hr i hi
  · have q := t5 k hk
    unfold txok txt at q ⊢
    rw [hQ, hL, a 14 k (by decide), g 13 1 k (by decide), g 13 2 k (by decide)]; exact q
  · show ce_I S' 15 1 i = (if i = j then H else w_h w i).1 ∧ ce_I S' 15 2 i = nI (if i = j then H else w_h w i).2.1 ∧ (if i = j then H else w_h w i).2.1 ≤ 40 ∧ ∀ e, e < (if i = j then H else w_h w i).2.1 → ce_A S' 16 i e = (if i = j then H else w_h w i).2.2 e
    by_cases e : i = j
    · subst e
      simp only [if_true]
      exact ⟨h1, h2, h3, h4⟩
    · simp only [if_neg e]
      rw [hI 15 1 i (fun q => e q.2), hI 15 2 i (fun q => e q.2), hA 16 i (fun q => e q.2)]
      exact hh i hi
  · intro e; rw [g _ _ _ (by decide)]; exact i1 e
  · intro m f c e
    obtain ⟨a1, a2, a3, a4, a5, a6, a7, a8, a9⟩ := i2 m f c e
    refine ⟨(g _ _ _ (by decide)).trans a1, a2, fun i hi => ?_, (g _ _ _ (by decide)).trans a4, (g _ _ _ (by decide)).trans a5, (g _ _ _ (by decide)).trans a6, (g _ _ _ (by decide)).trans a7, by rw [hR]; exact a8, a9⟩
    rw [hrc]; exact a3 i hi
theorem f_bec11 (j : Nat) (x1 x2 : Int32) : ∀ m, m ≤ 40 → ∀ (S : ce_S), (∀ e, e < 40 - m → ce_A S 16 j e = 0) → ∃ f, (∀ i, ¬ i = j → f i = ce_A S 16 i) ∧ (∀ e, e < 40 → f j e = 0) ∧ ce_Ev tb_X6_become 11 (0, 0) [some (.inr (.inl (15, j))), some (.inl x1), some (.inl x2), some (.inl (nI (40 - m)))] [] S (none, ce_tA S 16 f) := by
  intro m
  induction m with
  | zero =>
    intro _ S h
    refine ⟨ce_A S 16, fun _ _ => rfl, fun e he => h e (by omega), ce_by tl_X6_become (fun kk => sg_X6_become_11 j x1 x2 (nI (40 - 0)) S kk) ?_⟩
    have h1 : (40 : Int32) ≤ nI (40 - 0) := by decide
    rw [if_pos h1, tA_self]
  | succ m ih =>
    intro hm S h
    have h1 : ¬ (40 : Int32) ≤ nI (40 - (m + 1)) := by rw [show (40 : Int32) = nI 40 from rfl, nJ_le (by omega) (by omega)]; omega
    have e2 : (nI (40 - (m + 1))).toNatClampNeg = 40 - (m + 1) := nI_clamp (by omega)
    have hin : ¬ (nI (40 - (m + 1)) < 0 ∨ 40 ≤ 40 - (m + 1)) := nJ_in (by omega) (by decide)
    have e1 : nI (40 - (m + 1)) + 1 = nI (40 - m) := by rw [nJ_succ, show 40 - (m + 1) + 1 = 40 - m by omega]
    obtain ⟨f, f1, f2, f3⟩ := ih (by omega) (ce_sA S 16 j (40 - (m + 1)) 0) (fun e he => by
      rw [r_A_sA, if_pos rfl, if_pos rfl]
      by_cases q : e = 40 - (m + 1)
      · rw [if_pos q]
      · rw [if_neg q]; exact h e (by omega))
    rw [sA_tA, tA_tA] at f3
    refine ⟨f, fun i hi => ?_, f2, ce_by tl_X6_become (fun kk => sg_X6_become_11 j x1 x2 (nI (40 - (m + 1))) S kk) ?_⟩
    · rw [f1 i hi]
      funext e
      rw [r_A_sA, if_pos rfl, if_neg hi]
    · simp only [if_neg h1, e2, if_neg hin, q_add_eq, e1]
      rw [sA_tA]
      exact ce_kk_of f3
theorem f_bec (S : ce_S) (j n : Nat) (x1 : Int32) (hn : n ≤ 40) : ∃ f, (∀ i, ¬ i = j → f i = ce_A S 16 i) ∧ (∀ e, e < 40 → f j e = 0) ∧ F_X6_become [.inr (.inl (15, j)), .inl x1, .inl (nI n)] S = some (ce_tA (ce_sI (ce_sI S 15 1 j x1) 15 2 j (nI n)) 16 f) := by
  obtain ⟨f, f1, f2, f3⟩ := f_bec11 j x1 (nI n) 40 (Nat.le_refl _) (ce_sI (ce_sI S 15 1 j x1) 15 2 j (nI n)) (fun e he => absurd he (by omega))
  rw [Nat.sub_self] at f3
  refine ⟨f, f1, f2, fV_by tl_X6_become (gd_r rfl rfl) (fun kk => sg_X6_become_0 j x1 (nI n) S kk) ?_⟩
  have hw : sp_cl 0 40 (nI n) = nI n := by
    unfold sp_cl
    rw [if_neg (show ¬ nI n < 0 by rw [show (0 : Int32) = nI 0 from rfl, nJ_lt (by omega) (by omega)]; omega), if_neg (show ¬ (40 : Int32) < nI n by rw [show (40 : Int32) = nI 40 from rfl, nJ_lt (by omega) (by omega)]; omega)]
  simp only [f_within _ _ _ _ (show (0 : Int32) ≤ 40 by decide), Option.bind_some, hw]
  exact ce_kk_of f3
theorem CR_bec {w : sp_W} {S : ce_S} (hC : CR w S) {j n : Nat} {x : Int32} {f : Nat → Nat → Int32} (hn : n ≤ 40) (f1 : ∀ i, ¬ i = j → f i = ce_A S 16 i) (f2 : ∀ e, e < 40 → f j e = 0) : CR (w_hput w j (x, n, fun _ => 0)) (ce_tA (ce_sI (ce_sI S 15 1 j x) 15 2 j (nI n)) 16 f) := by
  refine CR_hp hC (x, n, fun _ => 0) (fun t k i h => ?_) rfl (fun t i h => ?_) rfl ?_ ?_ hn (fun e he => ?_)
  · simp only [r_I_sR, r_I_sA, r_I_sF, r_I_sQ, r_R_sI, r_R_sA, r_R_sF, r_R_sQ, r_A_sI, r_A_sR, r_A_sQ, r_L_sI, r_L_sR, r_L_sA, r_L_sF, r_L_sQ, r_C_sI, r_C_sR, r_C_sA, r_C_sF, r_C_sQ, r_Q_sI, r_Q_sR, r_Q_sA, r_Q_sF, r_I_sI, r_R_sR, r_A_sA, r_A_sF, r_Q_sQ, r_I_tA, r_R_tA, r_L_tA, r_C_tA, r_Q_tA, r_A_tA]
    by_cases h1 : t = 15
    · have h2 : ¬ i = j := fun q => h ⟨h1, q⟩
      simp only [if_neg h2, ite_self]
    · simp only [if_neg h1]
  · rw [r_A_tA]
    by_cases h1 : t = 16
    · have h2 : ¬ i = j := fun q => h ⟨h1, q⟩
      rw [if_pos h1, f1 i h2, h1]
    · rw [if_neg h1]; rfl
  · simp only [r_I_sR, r_I_sA, r_I_sF, r_I_sQ, r_R_sI, r_R_sA, r_R_sF, r_R_sQ, r_A_sI, r_A_sR, r_A_sQ, r_L_sI, r_L_sR, r_L_sA, r_L_sF, r_L_sQ, r_C_sI, r_C_sR, r_C_sA, r_C_sF, r_C_sQ, r_Q_sI, r_Q_sR, r_Q_sA, r_Q_sF, r_I_sI, r_R_sR, r_A_sA, r_A_sF, r_Q_sQ, r_I_tA, r_R_tA, r_L_tA, r_C_tA, r_Q_tA, r_A_tA, reduceIte, Nat.reduceEqDiff]
  · simp only [r_I_sR, r_I_sA, r_I_sF, r_I_sQ, r_R_sI, r_R_sA, r_R_sF, r_R_sQ, r_A_sI, r_A_sR, r_A_sQ, r_L_sI, r_L_sR, r_L_sA, r_L_sF, r_L_sQ, r_C_sI, r_C_sR, r_C_sA, r_C_sF, r_C_sQ, r_Q_sI, r_Q_sR, r_Q_sA, r_Q_sF, r_I_sI, r_R_sR, r_A_sA, r_A_sF, r_Q_sQ, r_I_tA, r_R_tA, r_L_tA, r_C_tA, r_Q_tA, r_A_tA, reduceIte, Nat.reduceEqDiff]
  · rw [r_A_tA, if_pos rfl]; exact f2 e (by show e < 40; exact Nat.lt_of_lt_of_le he hn)
theorem mEq_bec (S : ce_S) (j : Nat) (x y : Int32) (f : Nat → Nat → Int32) : mEq S (ce_tA (ce_sI (ce_sI S 15 1 j x) 15 2 j y) 16 f) := mEq_trans (mEq_trans (mEq_sI _ _ _ _ _ (by decide)) (mEq_sI _ _ _ _ _ (by decide))) (mEq_tA _ _ _ (by decide))
theorem c_sheet {w : sp_W} {S : ce_S} (hC : CR w S) (x y n : Int32) : ∃ S', F_X11_sheet [.inr (.inl (0, 0)), .inl x, .inl y, .inl n] S = some ((s_sheet w x y n).1, S') ∧ CR (s_sheet w x y n).2 S' ∧ mEq S S' := by
  unfold s_sheet
  by_cases h : is4 x ∧ -1 ≤ y ∧ y ≤ 2
  · obtain ⟨h1, h2, h3⟩ := id h
    obtain ⟨j, hj, f2, fin, fsh, f3, f4, f5, f6⟩ := c_sh hC h1
    have h2' : ¬ y < -1 := i_le_not h2
    have h3' : y < 3 := by
      rw [i_le] at h3; rw [i_lt]
      have e2 : ((2 : Int32)).toInt = 2 := by decide
      have e3 : ((3 : Int32)).toInt = 3 := by decide
      omega
    simp only [if_pos h]
    by_cases hy : y = -1
    · obtain ⟨f, g1, g2, g3⟩ := f_bec S j 0 (-1) (by decide)
      refine ⟨_, fI_by tl_X11_sheet (gd_r rfl rfl) (fun kk => sg_X11_sheet_0 x y n S kk) ?_, ?_, mEq_bec S j (-1) (nI 0) f⟩
      · simp only [c_is41 S h1, Option.bind_some, i_10, if_false, if_neg h2', if_pos h3', if_pos hy, f2, if_neg fin]
        rw [show (.inl 0 : ce_V) = .inl (nI 0) from rfl, g3]; rfl
      · simp only [if_pos hy, f2]
        exact CR_bec hC (by decide) g1 g2
    · simp only [if_neg hy]
      by_cases h4 : (40 : Int32) < n
      · simp only [if_pos h4]
        refine ⟨S, fI_by tl_X11_sheet (gd_r rfl rfl) (fun kk => sg_X11_sheet_0 x y n S kk) ?_, hC, mEq_refl S⟩
        simp only [c_is41 S h1, Option.bind_some, i_10, if_false, if_neg h2', if_pos h3', if_neg hy, if_neg (i_lt_not h4)]
      · simp only [if_neg h4]
        by_cases h5 : n < 0
        · simp only [if_pos h5]
          refine ⟨S, fI_by tl_X11_sheet (gd_r rfl rfl) (fun kk => sg_X11_sheet_0 x y n S kk) ?_, hC, mEq_refl S⟩
          simp only [c_is41 S h1, Option.bind_some, i_10, if_false, if_neg h2', if_pos h3', if_neg hy, if_pos (i_not_lt h4), if_neg (i_lt_not h5)]
        · simp only [if_neg h5]
          obtain ⟨k, hk, rfl, ek2⟩ := i_nat (x := n) (n := 41) (by decide) ⟨i_not_lt h5, by
            have := i_not_lt h4
            rw [i_le] at this; rw [i_lt]
            have e2 : ((40 : Int32)).toInt = 40 := by decide
            have e3 : (nI 41).toInt = 41 := by decide
            omega⟩
          obtain ⟨f, g1, g2, g3⟩ := f_bec S j k y (by omega)
          refine ⟨_, fI_by tl_X11_sheet (gd_r rfl rfl) (fun kk => sg_X11_sheet_0 x y (nI k) S kk) ?_, ?_, mEq_bec S j y (nI k) f⟩
          · simp only [c_is41 S h1, Option.bind_some, i_10, if_false, if_neg h2', if_pos h3', if_neg hy, if_pos (i_not_lt h4), if_pos (i_not_lt h5), f2, if_neg fin, g3]
          · rw [f2, ek2]; exact CR_bec hC (by omega) g1 g2
  · simp only [if_neg h]
    refine ⟨S, fI_by tl_X11_sheet (gd_r rfl rfl) (fun kk => sg_X11_sheet_0 x y n S kk) ?_, hC, mEq_refl S⟩
    by_cases h1 : is4 x
    · by_cases h2 : y < -1
      · simp only [c_is41 S h1, Option.bind_some, i_10, if_false, if_pos h2]
      · have h3 : ¬ y < 3 := fun q => h ⟨h1, i_not_lt h2, by
          rw [i_lt] at q; rw [i_le]
          have e2 : ((2 : Int32)).toInt = 2 := by decide
          have e3 : ((3 : Int32)).toInt = 3 := by decide
          omega⟩
        simp only [c_is41 S h1, Option.bind_some, i_10, if_false, if_neg h2, if_neg h3]
    · simp only [c_is40 S h1, Option.bind_some, if_true]
theorem c_cell {w : sp_W} {S : ce_S} (hC : CR w S) (x y v : Int32) : ∃ S', F_X11_cell [.inr (.inl (0, 0)), .inl x, .inl y, .inl v] S = some ((s_cell w x y v).1, S') ∧ CR (s_cell w x y v).2 S' ∧ mEq S S' := by
  unfold s_cell
  by_cases h1 : is4 x
  · obtain ⟨j, hj, f2, fin, fsh, f3, f4, f5, f6⟩ := c_sh hC h1
    simp only [if_pos h1, fsh]
    by_cases hm : (w_h w j).1 = -1
    · simp only [if_pos hm]
      refine ⟨S, fI_by tl_X11_cell (gd_r rfl rfl) (fun kk => sg_X11_cell_0 x y v S kk) ?_, hC, mEq_refl S⟩
      simp only [c_is41 S h1, Option.bind_some, i_10, if_false, f2, if_neg fin, f_miss, f3, if_pos hm]
    · simp only [if_neg hm]
      by_cases h2 : 0 ≤ y ∧ y < nI (w_h w j).2.1
      · simp only [if_pos h2]
        obtain ⟨e, he, rfl, ee⟩ := i_nat (by omega) h2
        have hin : ¬ (nI e < 0 ∨ 40 ≤ e) := nJ_in (by omega) (by decide)
        have hput : F_X6_put [.inr (.inl (15, j)), .inl (nI e), .inl v] S = some (ce_sA S 16 j e (sp_fit (w_h w j).1 v)) := by
          refine fV_by tl_X6_put (gd_r rfl rfl) (fun kk => sg_X6_put_0 j (nI e) v S kk) ?_
          simp only [f_has1 f4 f5 h2, Option.bind_some, i_10, if_false, f3, ee, if_neg hin, q_i2b_eq, q_i2s_eq]
          unfold sp_fit
          by_cases s0 : (w_h w j).1 = 0
          · simp only [if_pos s0]
          by_cases s1 : (w_h w j).1 = 1
          · simp only [if_neg s0, if_pos s1]
          · simp only [if_neg s0, if_neg s1]
        refine ⟨ce_sA S 16 j e (sp_fit (w_h w j).1 v), fI_by tl_X11_cell (gd_r rfl rfl) (fun kk => sg_X11_cell_0 x (nI e) v S kk) ?_, ?_, mEq_sA _ _ _ _ _ (by decide)⟩
        · simp only [c_is41 S h1, Option.bind_some, i_10, if_false, f2, if_neg fin, f_miss, f3, if_neg hm, if_true, f_has1 f4 f5 h2, hput]
        · rw [f2, ee]
          refine CR_hp hC _ (fun _ _ _ _ => rfl) rfl (fun t i hh => ?_) rfl f3 f4 f5 (fun e' he' => ?_)
          · funext e'
            rw [r_A_sA]
            by_cases q1 : t = 16
            · rw [if_pos q1, if_neg (fun q => hh ⟨q1, q⟩)]
            · rw [if_neg q1]
          · rw [r_A_sA, if_pos rfl, if_pos rfl]
            show _ = (if e' = e then sp_fit (w_h w j).1 v else (w_h w j).2.2 e')
            by_cases q : e' = e
            · rw [if_pos q, if_pos q]
            · rw [if_neg q, if_neg q]; exact f6 e' he'
      · simp only [if_neg h2]
        refine ⟨S, fI_by tl_X11_cell (gd_r rfl rfl) (fun kk => sg_X11_cell_0 x y v S kk) ?_, hC, mEq_refl S⟩
        simp only [c_is41 S h1, Option.bind_some, i_10, if_false, f2, if_neg fin, f_miss, f3, if_neg hm, if_true, f_has0 f4 h2]
  · simp only [if_neg h1]
    refine ⟨S, fI_by tl_X11_cell (gd_r rfl rfl) (fun kk => sg_X11_cell_0 x y v S kk) ?_, hC, mEq_refl S⟩
    simp only [c_is40 S h1, Option.bind_some, if_true]
/-- a run of a sheet -/
theorem f_run1 {S : ce_S} {j n : Nat} (hn : ce_I S 15 2 j = nI n) (h40 : n ≤ 40) {x y : Int32} (h : 0 ≤ y ∧ 0 ≤ x ∧ x.toNatClampNeg + y.toNatClampNeg ≤ n) : F_X6_hasRun [.inr (.inl (15, j)), .inl x, .inl y] S = some (1, S) := by
  refine fI_by tl_X6_hasRun (gd_r rfl rfl) (fun kk => sg_X6_hasRun_0 j x y S kk) ?_
  obtain ⟨h1, h2, h3⟩ := h
  have ex := nJ_of h2
  have ey := nJ_of h1
  have e1 : ¬ nI n - y < x := by
    rw [ex, ey]
    rw [show nI n = nI (n - y.toNatClampNeg + y.toNatClampNeg) by rw [Nat.sub_add_cancel (by omega)], ← nJ_add, Int32.sub_eq_add_neg, Int32.add_assoc, show nI y.toNatClampNeg + -nI y.toNatClampNeg = 0 from by rw [← Int32.sub_eq_add_neg, Int32.sub_self], Int32.add_zero, nJ_lt (by omega) (by omega)]
    omega
  simp only [if_neg (i_le_not h1), if_neg (i_le_not h2), hn, q_sub_eq, if_neg e1]
theorem f_run0 {S : ce_S} {j n : Nat} (hn : ce_I S 15 2 j = nI n) (h40 : n ≤ 40) {x y : Int32} (h : ¬ (0 ≤ y ∧ 0 ≤ x ∧ x.toNatClampNeg + y.toNatClampNeg ≤ n)) : F_X6_hasRun [.inr (.inl (15, j)), .inl x, .inl y] S = some (0, S) := by
  refine fI_by tl_X6_hasRun (gd_r rfl rfl) (fun kk => sg_X6_hasRun_0 j x y S kk) ?_
  by_cases h1 : y < 0
  · simp only [if_pos h1]
  by_cases h2 : x < 0
  · simp only [if_neg h1, if_pos h2]
  have h1' := i_not_lt h1
  have h2' := i_not_lt h2
  have e1 : nI n - y < x := by
    rw [i_lt]
    have a1 : (nI n).toInt = n := i_nI (by omega)
    have b1 : y.toInt < 2 ^ 31 := Int32.toInt_lt y
    have b2 : x.toInt < 2 ^ 31 := Int32.toInt_lt x
    rw [i_le] at h1' h2'
    have e0 : ((0 : Int32)).toInt = 0 := by decide
    rw [e0] at h1' h2'
    have ey : (y.toNatClampNeg : Int) = y.toInt := by
      rw [show y.toNatClampNeg = y.toInt.toNat from rfl]; exact Int.toNat_of_nonneg h1'
    have ex : (x.toNatClampNeg : Int) = x.toInt := by
      rw [show x.toNatClampNeg = x.toInt.toNat from rfl]; exact Int.toNat_of_nonneg h2'
    have hs : (nI n - y).toInt = (nI n).toInt - y.toInt := by
      rw [Int32.toInt_sub, Int.bmod_eq_of_le]
      · rw [a1]; omega
      · rw [a1]; omega
    rw [hs, a1]
    have h3 : ¬ x.toNatClampNeg + y.toNatClampNeg ≤ n := fun q => h ⟨i_not_lt h1, i_not_lt h2, q⟩
    omega
  simp only [if_neg h1, if_neg h2, hn, q_sub_eq, if_pos e1]
theorem c_copy {w : sp_W} {S : ce_S} (hC : CR w S) (x a y b n : Int32) : ∃ S', F_X11_copy [.inr (.inl (0, 0)), .inl x, .inl a, .inl y, .inl b, .inl n] S = some ((s_copy w x a y b n).1, S') ∧ CR (s_copy w x a y b n).2 S' ∧ mEq S S' := by
  unfold s_copy
  by_cases h : is4 x ∧ is4 y
  · obtain ⟨h1, h2⟩ := id h
    obtain ⟨j, hj, f2, fin, fsh, f3, f4, f5, f6⟩ := c_sh hC h1
    obtain ⟨k, hk, g2, gin, gsh, g3, g4, g5, g6⟩ := c_sh hC h2
    simp only [if_pos h, fsh, gsh]
    by_cases hm : (w_h w j).1 = -1
    · simp only [hm, true_or, if_true]
      refine ⟨S, fI_by tl_X11_copy (gd_r rfl rfl) (fun kk => sg_X11_copy_0 x a y b n S kk) ?_, hC, mEq_refl S⟩
      simp only [c_is41 S h1, c_is41 S h2, Option.bind_some, i_10, if_false, f2, g2, if_neg fin, if_neg gin, f_miss, f3, if_pos hm]
    by_cases hm2 : (w_h w k).1 = -1
    · simp only [hm2, or_true, if_true]
      refine ⟨S, fI_by tl_X11_copy (gd_r rfl rfl) (fun kk => sg_X11_copy_0 x a y b n S kk) ?_, hC, mEq_refl S⟩
      simp only [c_is41 S h1, c_is41 S h2, Option.bind_some, i_10, if_false, f2, g2, if_neg fin, if_neg gin, f_miss, f3, g3, if_neg hm, if_pos hm2, if_true]
    rw [if_neg (show ¬ ((w_h w j).1 = -1 ∨ (w_h w k).1 = -1) from fun q => by rcases q with q | q; exact hm q; exact hm2 q)]
    by_cases hs : (w_h w j).1 = (w_h w k).1
    · have hs' : ¬ (w_h w j).1 ≠ (w_h w k).1 := fun q => q hs
      rw [if_neg hs']
      by_cases hr : (0 ≤ n ∧ 0 ≤ a ∧ 0 ≤ b) ∧ a.toNatClampNeg + n.toNatClampNeg ≤ (w_h w j).2.1 ∧ b.toNatClampNeg + n.toNatClampNeg ≤ (w_h w k).2.1
      · rw [if_pos hr]
        obtain ⟨⟨r1, r2, r3⟩, r4, r5⟩ := id hr
        refine ⟨ce_sF S 16 k (va_cpy (ce_A S 16 j) (ce_A S 16 k) a.toNatClampNeg b.toNatClampNeg n.toNatClampNeg), fI_by tl_X11_copy (gd_r rfl rfl) (fun kk => sg_X11_copy_0 x a y b n S kk) ?_, ?_, mEq_sF _ _ _ _ (by decide)⟩
        · simp only [c_is41 S h1, c_is41 S h2, Option.bind_some, i_10, if_false, f2, g2, if_neg fin, if_neg gin, f_miss, f3, g3, if_neg hm, if_neg hm2, if_true, if_pos hs, f_run1 f4 f5 ⟨r1, r2, r4⟩, f_run1 g4 g5 ⟨r1, r3, r5⟩]
          rw [if_pos ⟨trivial, trivial, i_le_not r2, i_le_not r3, i_le_not r1, by omega, by omega, by decide⟩]
        · rw [g2]
          refine CR_hp hC _ (fun _ _ _ _ => rfl) rfl (fun t i hh => ?_) rfl g3 g4 g5 (fun e he => ?_)
          · rw [r_A_sF]
            by_cases q1 : t = 16
            · rw [if_pos q1, if_neg (fun q => hh ⟨q1, q⟩)]
            · rw [if_neg q1]
          · rw [r_A_sF, if_pos rfl, if_pos rfl]
            have he : e < (w_h w k).2.1 := he
            show va_cpy (ce_A S 16 j) (ce_A S 16 k) a.toNatClampNeg b.toNatClampNeg n.toNatClampNeg e = (if b.toNatClampNeg ≤ e ∧ e < b.toNatClampNeg + n.toNatClampNeg then (w_h w j).2.2 (a.toNatClampNeg + (e - b.toNatClampNeg)) else (w_h w k).2.2 e)
            unfold va_cpy
            by_cases q : b.toNatClampNeg ≤ e ∧ e < b.toNatClampNeg + n.toNatClampNeg
            · rw [if_pos q, if_pos q]
              rw [← f6 _ (show a.toNatClampNeg + (e - b.toNatClampNeg) < (w_h w j).2.1 by omega)]
            · rw [if_neg q, if_neg q]; exact g6 e he
      · rw [if_neg hr]
        refine ⟨S, fI_by tl_X11_copy (gd_r rfl rfl) (fun kk => sg_X11_copy_0 x a y b n S kk) ?_, hC, mEq_refl S⟩
        by_cases q1 : 0 ≤ n ∧ 0 ≤ a ∧ a.toNatClampNeg + n.toNatClampNeg ≤ (w_h w j).2.1
        · have q2 : ¬ (0 ≤ n ∧ 0 ≤ b ∧ b.toNatClampNeg + n.toNatClampNeg ≤ (w_h w k).2.1) := fun q => hr ⟨⟨q1.1, q1.2.1, q.2.1⟩, q1.2.2, q.2.2⟩
          simp only [c_is41 S h1, c_is41 S h2, Option.bind_some, i_10, if_false, f2, g2, if_neg fin, if_neg gin, f_miss, f3, g3, if_neg hm, if_neg hm2, if_true, if_pos hs, f_run1 f4 f5 q1, f_run0 g4 g5 q2]
        · simp only [c_is41 S h1, c_is41 S h2, Option.bind_some, i_10, if_false, f2, g2, if_neg fin, if_neg gin, f_miss, f3, g3, if_neg hm, if_neg hm2, if_true, if_pos hs, f_run0 f4 f5 q1]
    · rw [if_pos hs]
      refine ⟨S, fI_by tl_X11_copy (gd_r rfl rfl) (fun kk => sg_X11_copy_0 x a y b n S kk) ?_, hC, mEq_refl S⟩
      simp only [c_is41 S h1, c_is41 S h2, Option.bind_some, i_10, if_false, f2, g2, if_neg fin, if_neg gin, f_miss, f3, g3, if_neg hm, if_neg hm2, if_true, if_neg hs]
  · simp only [if_neg h]
    refine ⟨S, fI_by tl_X11_copy (gd_r rfl rfl) (fun kk => sg_X11_copy_0 x a y b n S kk) ?_, hC, mEq_refl S⟩
    by_cases h1 : is4 x
    · have h2 : ¬ is4 y := fun q => h ⟨h1, q⟩
      simp only [c_is41 S h1, c_is40 S h2, Option.bind_some, i_10, if_false, if_true]
    · simp only [c_is40 S h1, Option.bind_some, if_true]
theorem und_31 : ∀ (k : Fin 6) (c : Fin 6), (if nI c.1 = 0 then (1 : Int32) else if nI c.1 = 1 then ce_isU RX2 k.1 else if nI c.1 = 2 then ce_isU RX8 k.1 else if nI c.1 = 3 then ce_isU RX7 k.1 else if nI c.1 = 4 then ce_isU RX0 k.1 else if nI c.1 = 5 then ce_isU RX1 k.1 else 0) = sp_b (sp_und k.1 (nI c.1)) := by decide +kernel
theorem isU_01 : ∀ (k : Fin 6), (ce_isU RX2 k.1 = 0 ∨ ce_isU RX2 k.1 = 1) ∧ (ce_isU RX8 k.1 = 0 ∨ ce_isU RX8 k.1 = 1) ∧ (ce_isU RX7 k.1 = 0 ∨ ce_isU RX7 k.1 = 1) ∧ (ce_isU RX0 k.1 = 0 ∨ ce_isU RX0 k.1 = 1) ∧ (ce_isU RX1 k.1 = 0 ∨ ce_isU RX1 k.1 = 1) := by decide +kernel
theorem f_und (S : ce_S) (k c : Nat) (hk : k < 6) (hc : c < 6) : F_X11_isUnder [.inr (.inl (10, k)), .inl (nI c)] S = some (sp_b (sp_und k (nI c)), S) := by
  refine fI_by tl_X11_isUnder (gd_n rfl rfl) (fun kk => sg_X11_isUnder_0 k (nI c) S kk) ?_
  have h := und_31 ⟨k, hk⟩ ⟨c, hc⟩
  obtain ⟨u1, u2, u3, u4, u5⟩ := isU_01 ⟨k, hk⟩
  simp only at h u1 u2 u3 u4 u5
  rw [← h]
  simp only [if_pos u1, if_pos u2, if_pos u3, if_pos u4, if_pos u5]
  by_cases x0 : nI c = 0
  · simp only [if_pos x0]
  by_cases x1 : nI c = 1
  · simp only [if_neg x0, if_pos x1]
  by_cases x2 : nI c = 2
  · simp only [if_neg x0, if_neg x1, if_pos x2]
  by_cases x3 : nI c = 3
  · simp only [if_neg x0, if_neg x1, if_neg x2, if_pos x3]
  by_cases x4 : nI c = 4
  · simp only [if_neg x0, if_neg x1, if_neg x2, if_neg x3, if_pos x4]
  by_cases x5 : nI c = 5
  · simp only [if_neg x0, if_neg x1, if_neg x2, if_neg x3, if_neg x4, if_pos x5]
  · simp only [if_neg x0, if_neg x1, if_neg x2, if_neg x3, if_neg x4, if_neg x5]
theorem c_taken {w : sp_W} {S : ce_S} (hC : CR w S) (hK : ∀ i, i < w_n w → sp_k (w_r w i) < 6) (x y : Int32) : F_X11_taken [.inr (.inl (0, 0)), .inl x, .inl y] S = some (s_taken w x y, S) := by
  unfold s_taken
  refine fI_by tl_X11_taken (gd_r rfl rfl) (fun kk => sg_X11_taken_0 x y S kk) ?_
  by_cases h : 0 ≤ y ∧ y ≤ 5
  · have h6 : y < 6 := by
      have := h.2
      rw [i_le] at this; rw [i_lt]
      have e2 : ((5 : Int32)).toInt = 5 := by decide
      have e3 : ((6 : Int32)).toInt = 6 := by decide
      omega
    obtain ⟨c, hc, ec, ec2⟩ := i_nat (x := y) (n := 6) (by decide) ⟨h.1, h6⟩
    subst ec
    simp only [if_pos h, if_neg (i_le_not h.1), if_pos h6]
    by_cases h1 : isS w x
    · obtain ⟨s, hs, h6', e, e2, hin, hsel, hrc⟩ := c_sel hC h1
      simp only [if_pos h1, c_isS1 hC h1, Option.bind_some, i_10, if_false, e2, if_neg hin, k3_eq, rc_0, hrc, f_und S _ c (hK s hs) hc, sp_b_0, rc_3, hsel]
      cases q : sp_und (sp_k (w_r w s)) (nI c) <;> simp
    · simp only [if_neg h1, c_isS0 hC h1, Option.bind_some, if_true]
  · simp only [if_neg h]
    by_cases h1 : y < 0
    · simp only [if_pos h1]
    · have h6 : ¬ y < 6 := fun q => h ⟨i_not_lt h1, by
        rw [i_lt] at q; rw [i_le]
        have e2 : ((5 : Int32)).toInt = 5 := by decide
        have e3 : ((6 : Int32)).toInt = 6 := by decide
        omega⟩
      simp only [if_neg h1, if_neg h6]
theorem comes_h (w : sp_W) (x y : Int32) : w_h (s_comes w x y).2 = w_h w := by
  unfold s_comes
  split
  · split <;> rfl
  · rfl
theorem c_sel35 {w0 : sp_W} (x1 x2 fr : Int32) (j N : Nat) (hN : N ≤ 6) (H : sp_H) (h40 : H.2.1 ≤ 40) (hj : j < 4) : ∀ m, m ≤ N → ∀ (acc : Int32) (w : sp_W) (S : ce_S) (z8 : Option ce_V), CR w S → w_h w j = H → (N - m = 0 ∨ (0 ≤ fr ∧ fr.toNatClampNeg ≤ 40)) → ∃ S1, CR (sp_sel H fr N m acc w).2 S1 ∧ mEq S S1 ∧ ce_Ev tb_X11_sellers 35 (0, 0) [some (.inr (.inl (0, 0))), some (.inl x1), some (.inl x2), some (.inl fr), some (.inl (nI N)), some (.inr (.inl (15, j))), some (.inl acc), some (.inl (nI (N - m))), z8] [] S (some (.inl (sp_sel H fr N m acc w).1), S1) := by
  intro m
  induction m with
  | zero =>
    intro _ acc w S z8 hC hH hk
    refine ⟨S, hC, mEq_refl S, ce_by tl_X11_sellers (fun kk => sg_X11_sellers_35 x1 x2 fr (nI N) j acc (nI (N - 0)) z8 S kk) ?_⟩
    have h1 : nI N ≤ nI (N - 0) := Int32.le_refl _
    rw [if_pos h1]; rfl
  | succ m ih =>
    intro hm acc w S z8 hC hH hk
    have h1 : ¬ nI N ≤ nI (N - (m + 1)) := by rw [nJ_le (by omega) (by omega)]; omega
    have e1 : nI (N - (m + 1)) + 1 = nI (N - m) := by rw [nJ_succ, show N - (m + 1) + 1 = N - m by omega]
    have e2k : 2 * nI (N - (m + 1)) = nI (2 * (N - (m + 1))) := by rw [show (2 : Int32) = nI 2 from rfl, nJ_mul]
    obtain ⟨a1, a2, a3, a4⟩ := hC.2.2.2.2.2.1 j hj
    rw [hH] at a1 a2 a3 a4
    unfold sp_sel
    by_cases hc : 0 ≤ fr ∧ fr.toNatClampNeg + 2 * (N - (m + 1)) + 1 < H.2.1
    · have ef := nJ_of hc.1
      have ei : fr + nI (2 * (N - (m + 1))) = nI (fr.toNatClampNeg + 2 * (N - (m + 1))) := by
        conv => lhs; rw [ef]
        rw [nJ_add]
      have hb1 : 0 ≤ nI (fr.toNatClampNeg + 2 * (N - (m + 1))) ∧ nI (fr.toNatClampNeg + 2 * (N - (m + 1))) < nI H.2.1 := ⟨by rw [show (0 : Int32) = nI 0 from rfl, nJ_le (by omega) (by omega)]; omega, by rw [nJ_lt (by omega) (by omega)]; omega⟩
      have hb2 : 0 ≤ nI (fr.toNatClampNeg + 2 * (N - (m + 1)) + 1) ∧ nI (fr.toNatClampNeg + 2 * (N - (m + 1)) + 1) < nI H.2.1 := ⟨by rw [show (0 : Int32) = nI 0 from rfl, nJ_le (by omega) (by omega)]; omega, by rw [nJ_lt (by omega) (by omega)]; omega⟩
      have g1 := f_at (S := S) a2 a3 (show fr.toNatClampNeg + 2 * (N - (m + 1)) < H.2.1 by omega)
      have g2 := f_at (S := S) a2 a3 hc.2
      rw [a4 _ (by omega)] at g1
      rw [a4 _ hc.2] at g2
      obtain ⟨S1, t1, t2, t3⟩ := c_comes hC (H.2.2 (fr.toNatClampNeg + 2 * (N - (m + 1)))) (H.2.2 (fr.toNatClampNeg + 2 * (N - (m + 1)) + 1))
      simp only [if_pos hc]
      by_cases hp : 0 ≤ (s_comes w (H.2.2 (fr.toNatClampNeg + 2 * (N - (m + 1)))) (H.2.2 (fr.toNatClampNeg + 2 * (N - (m + 1)) + 1))).1
      · obtain ⟨S2, j0, j1, j2⟩ := ih (by omega) (acc + 1) _ S1 (some (.inl (nI (fr.toNatClampNeg + 2 * (N - (m + 1)))))) t2 (by rw [comes_h]; exact hH) (Or.inr ⟨hc.1, by omega⟩)
        simp only [if_pos hp]
        refine ⟨S2, j0, mEq_trans t3 j1, ce_by tl_X11_sellers (fun kk => sg_X11_sellers_35 x1 x2 fr (nI N) j acc (nI (N - (m + 1))) z8 S kk) ?_⟩
        simp only [if_neg h1, q_add_eq, q_mul_eq, e2k, ei, f_has1 a2 a3 hb1, Option.bind_some, i_10, if_false, nJ_succ, f_has1 a2 a3 hb2, g1, g2, t1, if_neg (i_le_not hp)]
        rw [show N - (m + 1) + 1 = N - m by omega]
        exact ce_kk_of j2
      · obtain ⟨S2, j0, j1, j2⟩ := ih (by omega) acc _ S1 (some (.inl (nI (fr.toNatClampNeg + 2 * (N - (m + 1)))))) t2 (by rw [comes_h]; exact hH) (Or.inr ⟨hc.1, by omega⟩)
        simp only [if_neg hp]
        refine ⟨S2, j0, mEq_trans t3 j1, ce_by tl_X11_sellers (fun kk => sg_X11_sellers_35 x1 x2 fr (nI N) j acc (nI (N - (m + 1))) z8 S kk) ?_⟩
        simp only [if_neg h1, q_add_eq, q_mul_eq, e2k, ei, f_has1 a2 a3 hb1, Option.bind_some, i_10, if_false, nJ_succ, f_has1 a2 a3 hb2, g1, g2, t1, if_pos (i_not_le hp)]
        rw [show N - (m + 1) + 1 = N - m by omega]
        exact ce_kk_of j2
    · simp only [if_neg hc]
      refine ⟨S, hC, mEq_refl S, ce_by tl_X11_sellers (fun kk => sg_X11_sellers_35 x1 x2 fr (nI N) j acc (nI (N - (m + 1))) z8 S kk) ?_⟩
      simp only [if_neg h1, q_add_eq, q_mul_eq, e2k]
      by_cases q1 : 0 ≤ fr + nI (2 * (N - (m + 1))) ∧ fr + nI (2 * (N - (m + 1))) < nI H.2.1
      · have hf0 : 0 ≤ fr := by
          rcases hk with hk | hk
          · rw [hk] at q1
            have : fr + nI (2 * 0) = fr := by rw [show nI (2 * 0) = 0 from rfl, Int32.add_zero]
            rw [this] at q1; exact q1.1
          · exact hk.1
        have ef := nJ_of hf0
        have ei : fr + nI (2 * (N - (m + 1))) = nI (fr.toNatClampNeg + 2 * (N - (m + 1))) := by
          conv => lhs; rw [ef]
          rw [nJ_add]
        have hfl : fr.toNatClampNeg + 2 * (N - (m + 1)) < 2 ^ 31 := by
          rcases hk with hk | hk
          · have h3 : fr.toInt < 2 ^ 31 := Int32.toInt_lt fr
            rw [show fr.toNatClampNeg = fr.toInt.toNat from rfl]; omega
          · omega
        rw [ei] at q1 ⊢
        have hlt : fr.toNatClampNeg + 2 * (N - (m + 1)) < H.2.1 := by
          have := q1.2
          rw [nJ_lt hfl (by omega)] at this; exact this
        have q2 : ¬ (0 ≤ nI (fr.toNatClampNeg + 2 * (N - (m + 1)) + 1) ∧ nI (fr.toNatClampNeg + 2 * (N - (m + 1)) + 1) < nI H.2.1) := fun q => hc ⟨hf0, by
          have := q.2
          rw [nJ_lt (by omega) (by omega)] at this; exact this⟩
        simp only [f_has1 a2 a3 q1, Option.bind_some, i_10, if_false, nJ_succ, f_has0 a2 q2, if_true]
      · simp only [f_has0 a2 q1, Option.bind_some, if_true]
theorem c_sellers {w : sp_W} {S : ce_S} (hC : CR w S) (x y fr n : Int32) : ∃ S', F_X11_sellers [.inr (.inl (0, 0)), .inl x, .inl y, .inl fr, .inl n] S = some ((s_sellers w x y fr n).1, S') ∧ CR (s_sellers w x y fr n).2 S' ∧ mEq S S' := by
  unfold s_sellers
  by_cases h : is4 x ∧ (0 ≤ y ∧ y ≤ 2) ∧ 0 ≤ n ∧ n ≤ 6
  · obtain ⟨h1, h2, h3, h4⟩ := id h
    obtain ⟨j, hj, f2, fin, fsh, f3, f4, f5, f6⟩ := c_sh hC h1
    have h2' : ¬ (3 : Int32) ≤ y := by
      have := h2.2
      rw [i_le] at this; rw [i_le]
      have e2 : ((2 : Int32)).toInt = 2 := by decide
      have e3 : ((3 : Int32)).toInt = 3 := by decide
      omega
    simp only [if_pos h, fsh]
    by_cases hm : (w_h w j).1 = -1
    · simp only [if_pos hm]
      refine ⟨S, fI_by tl_X11_sellers (gd_r rfl rfl) (fun kk => sg_X11_sellers_0 x y fr n S kk) ?_, hC, mEq_refl S⟩
      simp only [c_is41 S h1, Option.bind_some, i_10, if_false, if_neg (i_le_not h2.1), if_neg h2', if_neg (i_le_not h3), if_pos h4, f2, if_neg fin, f_miss, f3, if_pos hm]
    · simp only [if_neg hm]
      by_cases hs : (w_h w j).1 = y
      · rw [if_neg (show ¬ (w_h w j).1 ≠ y from fun q => q hs)]
        obtain ⟨N, hN, rfl, eN⟩ := i_nat (x := n) (n := 7) (by decide) ⟨h3, by
          rw [i_le] at h4; rw [i_lt]
          have e2 : ((6 : Int32)).toInt = 6 := by decide
          have e3 : (nI 7).toInt = 7 := by decide
          omega⟩
        obtain ⟨S1, j0, j1, j2⟩ := c_sel35 (w0 := w) x y fr j N (by omega) (w_h w j) f5 hj N (Nat.le_refl _) 0 w S none hC rfl (Or.inl (Nat.sub_self _))
        rw [Nat.sub_self] at j2
        rw [eN]
        refine ⟨S1, fI_by tl_X11_sellers (gd_r rfl rfl) (fun kk => sg_X11_sellers_0 x y fr (nI N) S kk) ?_, j0, j1⟩
        simp only [c_is41 S h1, Option.bind_some, i_10, if_false, if_neg (i_le_not h2.1), if_neg h2', if_neg (i_le_not h3), if_pos h4, f2, if_neg fin, f_miss, f3, if_neg hm, if_true, if_pos hs]
        exact ce_kk_of j2
      · rw [if_pos hs]
        refine ⟨S, fI_by tl_X11_sellers (gd_r rfl rfl) (fun kk => sg_X11_sellers_0 x y fr n S kk) ?_, hC, mEq_refl S⟩
        simp only [c_is41 S h1, Option.bind_some, i_10, if_false, if_neg (i_le_not h2.1), if_neg h2', if_neg (i_le_not h3), if_pos h4, f2, if_neg fin, f_miss, f3, if_neg hm, if_true, if_neg hs]
  · simp only [if_neg h]
    refine ⟨S, fI_by tl_X11_sellers (gd_r rfl rfl) (fun kk => sg_X11_sellers_0 x y fr n S kk) ?_, hC, mEq_refl S⟩
    by_cases h1 : is4 x
    · by_cases a1 : y < 0
      · simp only [c_is41 S h1, Option.bind_some, i_10, if_false, if_pos a1]
      by_cases a2 : (3 : Int32) ≤ y
      · simp only [c_is41 S h1, Option.bind_some, i_10, if_false, if_neg a1, if_pos a2]
      by_cases a3 : n < 0
      · simp only [c_is41 S h1, Option.bind_some, i_10, if_false, if_neg a1, if_neg a2, if_pos a3]
      · have a4 : ¬ n ≤ 6 := fun q => h ⟨h1, ⟨i_not_lt a1, by
          rw [i_le] at a2; rw [i_le]
          have e2 : ((2 : Int32)).toInt = 2 := by decide
          have e3 : ((3 : Int32)).toInt = 3 := by decide
          omega⟩, i_not_lt a3, q⟩
        simp only [c_is41 S h1, Option.bind_some, i_10, if_false, if_neg a1, if_neg a2, if_neg a3, if_neg a4]
    · simp only [c_is40 S h1, Option.bind_some, if_true]
