/-! the component in thought -/
theorem qt_u (S : ce_S) (j : Nat) (r : sp_R) (f : Nat → Nat → Int32) (h : jk 11 j) : qt S (ce_tA (wS S j r) 17 f) := qt_trans (qt_wS _ _ _ h) (qt_tA _ _)
theorem c_take {w : sp_W} {S : ce_S} (hC : CR w S) {s : Nat} (hs : s < w_n w) : ∃ S1, F_X5_take [.inr (.inl (11, 18)), .inr (.inl (11, 3 * s))] S = some S1 ∧ qt S S1 ∧ rc S1 18 = w_r w s := by
  have h6 : s < 6 := Nat.lt_of_lt_of_le hs hC.1.2
  refine ⟨_, f_take S 18 (3 * s) (by omega), qt_trans (qt_sI _ _ _ _ _ jk_18) (qt_wS _ _ _ jk_18), ?_⟩
  rw [rc_wS, (hC.2.1 s hs).1]
theorem c_end {w : sp_W} {S : ce_S} (hC : CR w S) {x : Int32} {s : Nat} (e2 : x.toNatClampNeg = s) (hin : ¬ (x < 0 ∨ 6 ≤ s)) (hs : s < w_n w) (a p : Int32) : ∃ S', F_X11_endByRule [.inr (.inl (0, 0)), .inl x, .inl a, .inl p] S = some (18, S') ∧ qt S S' ∧ rc S' 18 = sp_go (w_E w) (w_r w s) a p := by
  obtain ⟨S1, h1, h2, h3⟩ := c_take hC hs
  obtain ⟨f, e⟩ := f_go S1 18 0 a p (CR_ok (CR_qt hC h2))
  rw [CR_E (CR_qt hC h2), h3] at e
  refine ⟨_, ?_, qt_trans h2 (qt_u S1 18 _ f jk_18), by rw [rc_tA, rc_wS]⟩
  refine fR_by tl_X11_endByRule (gd_r rfl rfl) (fun kk => sg_X11_endByRule_0 x a p S kk) ?_
  simp only [e2, if_neg hin, k3_eq, h1, Option.bind_some, e]
theorem c_rule {w : sp_W} {S : ce_S} (hC : CR w S) (x a p y : Int32) : ∃ S', F_X11_rule [.inr (.inl (0, 0)), .inl x, .inl a, .inl p, .inl y] S = some (s_rule w x a p y, S') ∧ qt S S' := by
  unfold s_rule
  by_cases h : isS w x ∧ isR a p ∧ 0 ≤ y ∧ y ≤ 2
  · obtain ⟨h1, h2, h3, h4⟩ := id h
    obtain ⟨s, hs, h6, e, e2, hin, hsel, hrc⟩ := c_sel hC h1
    obtain ⟨S1, g1, g2, g3⟩ := c_end hC e2 hin hs a p
    refine ⟨S1, ?_, g2⟩
    refine fI_by tl_X11_rule (gd_r rfl rfl) (fun kk => sg_X11_rule_0 x a p y S kk) ?_
    simp only [c_isS1 hC h1, c_isR1 S h2, Option.bind_some, i_10, if_false, if_neg (i_le_not h3), if_pos h4, g1, if_pos h, hsel, rc_5, rc_6, rc_7, g3]
    unfold sp_what
    by_cases y0 : y = 0
    · simp only [if_pos y0]
    by_cases y1 : y = 1
    · simp only [if_neg y0, if_pos y1]
    · simp only [if_neg y0, if_neg y1]
  · refine ⟨S, ?_, qt_refl S⟩
    refine fI_by tl_X11_rule (gd_r rfl rfl) (fun kk => sg_X11_rule_0 x a p y S kk) ?_
    simp only [if_neg h]
    by_cases h1 : isS w x
    · by_cases h2 : isR a p
      · by_cases h3 : y < 0
        · simp only [c_isS1 hC h1, c_isR1 S h2, Option.bind_some, i_10, if_false, if_pos h3]
        · have h4 : ¬ y ≤ 2 := fun q => h ⟨h1, h2, i_not_lt h3, q⟩
          simp only [c_isS1 hC h1, c_isR1 S h2, Option.bind_some, i_10, if_false, if_neg h3, if_neg h4]
      · simp only [c_isS1 hC h1, c_isR0 S h2, Option.bind_some, i_10, if_false, if_true]
    · simp only [c_isS0 hC h1, Option.bind_some, if_true]
def b3 (acc : sp_B) : Int32 × Int32 × Int32 := match acc with
  | none => (-1, -1, -1)
  | some b => b
def b3ok (acc : sp_B) : Prop := ∀ b, acc = some b → b.1 ≠ -1
theorem nI_ne (n : Nat) (h : n < 2 ^ 31) : nI n ≠ -1 := by
  intro q
  rw [i_eq, i_nI h] at q
  have e : ((-1 : Int32)).toInt = -1 := by decide
  rw [e] at q; omega
theorem c_br32 {w : sp_W} (x1 x2 : Int32) {s : Nat} (e2 : x1.toNatClampNeg = s) (hin : ¬ (x1 < 0 ∨ 6 ≤ s)) (hs : s < w_n w) (k : Nat) (hk : k ≤ 20) : ∀ m, m ≤ 11 → ∀ (acc : sp_B) (S : ce_S) (z8 : Option ce_V), CR w S → b3ok acc → ∃ S1 z, qt S S1 ∧ b3ok (sp_brp (w_E w) (w_r w s) (nI (20 * k)) m acc) ∧ ∀ res, ce_Ev tb_X11_bestRule 27 (0, 0) [some (.inr (.inl (0, 0))), some (.inl x1), some (.inl x2), some (.inl (b3 (sp_brp (w_E w) (w_r w s) (nI (20 * k)) m acc)).1), some (.inl (b3 (sp_brp (w_E w) (w_r w s) (nI (20 * k)) m acc)).2.1), some (.inl (b3 (sp_brp (w_E w) (w_r w s) (nI (20 * k)) m acc)).2.2), some (.inl (nI (20 * (k + 1)))), some (.inl (nI 11)), z] [] S1 res → ce_Ev tb_X11_bestRule 32 (0, 0) [some (.inr (.inl (0, 0))), some (.inl x1), some (.inl x2), some (.inl (b3 acc).1), some (.inl (b3 acc).2.1), some (.inl (b3 acc).2.2), some (.inl (nI (20 * k))), some (.inl (nI (11 - m))), z8] [] S res := by
  intro m
  induction m with
  | zero =>
    intro _ acc S z8 hC ha
    refine ⟨S, z8, qt_refl S, ha, fun res hr => ?_⟩
    refine ce_by tl_X11_bestRule (fun kk => sg_X11_bestRule_32 x1 x2 (b3 acc).1 (b3 acc).2.1 (b3 acc).2.2 (nI (20 * k)) (nI (11 - 0)) z8 S kk) ?_
    have h10 : (10 : Int32) < nI (11 - 0) := by decide
    rw [if_pos h10]
    have e20 : q_add (nI (20 * k)) 20 = nI (20 * (k + 1)) := by
      rw [q_add_eq, show (20 : Int32) = nI 20 from rfl, nJ_add, show 20 * k + 20 = 20 * (k + 1) by omega]
    rw [e20]
    exact ce_kk_of hr
  | succ m ih =>
    intro hm acc S z8 hC ha
    have em : 11 - (m + 1) = 10 - m := by omega
    obtain ⟨S1, g1, g2, g3⟩ := c_end hC e2 hin hs (nI (20 * k)) (nI (10 - m))
    have ev : 100 * nI (20 * k) + nI (10 - m) = nI (100 * (20 * k) + (10 - m)) := by
      rw [show (100 : Int32) = nI 100 from rfl, nJ_mul, nJ_add]
    have hv : 100 * nI (20 * k) + nI (10 - m) ≠ -1 := by rw [ev]; exact nI_ne _ (by omega)
    have hok : b3ok (sp_bet acc (sp_go (w_E w) (w_r w s) (nI (20 * k)) (nI (10 - m))) (100 * nI (20 * k) + nI (10 - m))) := by
      intro b hb
      unfold sp_bet at hb
      split at hb
      · split at hb
        · cases hb; exact hv
        · split at hb
          · cases hb; exact hv
          · exact ha _ hb
      · exact ha _ hb
    obtain ⟨S2, z, i1, i2, i3⟩ := ih (by omega) (sp_bet acc (sp_go (w_E w) (w_r w s) (nI (20 * k)) (nI (10 - m))) (100 * nI (20 * k) + nI (10 - m))) S1 (some (.inr (.inl (11, 18)))) (CR_qt hC g2) hok
    refine ⟨S2, z, qt_trans g2 i1, i2, fun res hr => ?_⟩
    have h := i3 res hr
    refine ce_by tl_X11_bestRule (fun kk => sg_X11_bestRule_32 x1 x2 (b3 acc).1 (b3 acc).2.1 (b3 acc).2.2 (nI (20 * k)) (nI (11 - (m + 1))) z8 S kk) ?_
    rw [em]
    have h10 : ¬ (10 : Int32) < nI (10 - m) := by
      rw [show (10 : Int32) = nI 10 from rfl, nJ_lt (by omega) (by omega)]; omega
    have e11 : nI (10 - m) + 1 = nI (11 - m) := by rw [nJ_succ, show 10 - m + 1 = 11 - m by omega]
    simp only [if_neg h10, g1, Option.bind_some, rc_5, rc_6, rc_7, g3, q_add_eq, q_mul_eq, e11]
    generalize sp_go (w_E w) (w_r w s) (nI (20 * k)) (nI (10 - m)) = r at h ⊢
    unfold sp_bet at h
    by_cases hst : sp_st r = 1
    · simp only [if_pos hst] at h ⊢
      cases acc with
      | none =>
        simp only [b3, if_true] at h ⊢
        exact ce_kk_of h
      | some b =>
        have hb : ¬ (b3 (some b)).1 = -1 := ha b rfl
        rw [if_neg hb]
        by_cases c1 : sp_pr r < b.2.1
        · rw [if_pos (show sp_pr r < (b3 (some b)).2.1 from c1)]
          simp only [if_pos (show sp_pr r < b.2.1 ∨ (sp_pr r = b.2.1 ∧ sp_cu r < b.2.2) from Or.inl c1)] at h
          exact ce_kk_of h
        · rw [if_neg (show ¬ sp_pr r < (b3 (some b)).2.1 from c1)]
          by_cases c2 : sp_pr r = b.2.1
          · rw [if_pos (show sp_pr r = (b3 (some b)).2.1 from c2)]
            by_cases c3 : b.2.2 ≤ sp_cu r
            · have c3' : ¬ sp_cu r < b.2.2 := i_le_not c3
              rw [if_pos (show (b3 (some b)).2.2 ≤ sp_cu r from c3)]
              simp only [if_neg (show ¬ (sp_pr r < b.2.1 ∨ (sp_pr r = b.2.1 ∧ sp_cu r < b.2.2)) from fun q => by rcases q with q | q; exact c1 q; exact c3' q.2)] at h
              exact ce_kk_of h
            · have c3' : sp_cu r < b.2.2 := i_not_le c3
              rw [if_neg (show ¬ (b3 (some b)).2.2 ≤ sp_cu r from c3)]
              simp only [if_pos (show sp_pr r < b.2.1 ∨ (sp_pr r = b.2.1 ∧ sp_cu r < b.2.2) from Or.inr ⟨c2, c3'⟩)] at h
              exact ce_kk_of h
          · rw [if_neg (show ¬ sp_pr r = (b3 (some b)).2.1 from c2)]
            simp only [if_neg (show ¬ (sp_pr r < b.2.1 ∨ (sp_pr r = b.2.1 ∧ sp_cu r < b.2.2)) from fun q => by rcases q with q | q; exact c1 q; exact c2 q.1)] at h
            exact ce_kk_of h
    · simp only [if_neg hst] at h ⊢
      exact ce_kk_of h
theorem c_br27 {w : sp_W} (x1 x2 : Int32) {s : Nat} (e2 : x1.toNatClampNeg = s) (hin : ¬ (x1 < 0 ∨ 6 ≤ s)) (hs : s < w_n w) : ∀ m, m ≤ 21 → ∀ (acc : sp_B) (S : ce_S) (z7 z8 : Option ce_V), CR w S → b3ok acc → ∃ S1, qt S S1 ∧ ce_Ev tb_X11_bestRule 27 (0, 0) [some (.inr (.inl (0, 0))), some (.inl x1), some (.inl x2), some (.inl (b3 acc).1), some (.inl (b3 acc).2.1), some (.inl (b3 acc).2.2), some (.inl (nI (20 * (21 - m)))), z7, z8] [] S (some (.inl (sp_3 x2 (sp_bra (w_E w) (w_r w s) m acc))), S1) := by
  intro m
  induction m with
  | zero =>
    intro _ acc S z7 z8 hC ha
    refine ⟨S, qt_refl S, ce_by tl_X11_bestRule (fun kk => sg_X11_bestRule_27 x1 x2 (b3 acc).1 (b3 acc).2.1 (b3 acc).2.2 (nI (20 * (21 - 0))) z7 z8 S kk) ?_⟩
    have h4 : (400 : Int32) < nI (20 * (21 - 0)) := by decide
    rw [if_pos h4]
    unfold sp_bra sp_3
    cases acc with
    | none =>
      simp only [b3]
      by_cases y0 : x2 = 0
      · simp only [if_pos y0]
      by_cases y1 : x2 = 1
      · simp only [if_neg y0, if_pos y1]
      · simp only [if_neg y0, if_neg y1]
    | some b =>
      simp only [b3]
      by_cases y0 : x2 = 0
      · simp only [if_pos y0]
      by_cases y1 : x2 = 1
      · simp only [if_neg y0, if_pos y1]
      · simp only [if_neg y0, if_neg y1]
  | succ m ih =>
    intro hm acc S z7 z8 hC ha
    obtain ⟨S1, z, i1, i2, i3⟩ := c_br32 (w := w) x1 x2 e2 hin hs (20 - m) (by omega) 11 (Nat.le_refl _) acc S z8 hC ha
    obtain ⟨S2, j1, j2⟩ := ih (by omega) (sp_brp (w_E w) (w_r w s) (nI (20 * (20 - m))) 11 acc) S1 (some (.inl (nI 11))) z (CR_qt hC i1) i2
    refine ⟨S2, qt_trans i1 j1, ce_by tl_X11_bestRule (fun kk => sg_X11_bestRule_27 x1 x2 (b3 acc).1 (b3 acc).2.1 (b3 acc).2.2 (nI (20 * (21 - (m + 1)))) z7 z8 S kk) ?_⟩
    have h4 : ¬ (400 : Int32) < nI (20 * (21 - (m + 1))) := by
      rw [show (400 : Int32) = nI 400 from rfl, nJ_lt (by omega) (by omega)]; omega
    rw [if_neg h4]
    rw [show 20 - m + 1 = 21 - m by omega] at i3
    rw [show 21 - (m + 1) = 20 - m by omega]
    exact ce_kk_of (i3 _ j2)
theorem c_bestRule {w : sp_W} {S : ce_S} (hC : CR w S) (x y : Int32) : ∃ S', F_X11_bestRule [.inr (.inl (0, 0)), .inl x, .inl y] S = some (s_bestRule w x y, S') ∧ qt S S' := by
  unfold s_bestRule
  by_cases h : isS w x ∧ 0 ≤ y ∧ y ≤ 2
  · obtain ⟨h1, h3, h4⟩ := id h
    obtain ⟨s, hs, h6, e, e2, hin, hsel, hrc⟩ := c_sel hC h1
    by_cases ho : sp_st (w_r w s) = 0
    · obtain ⟨S1, j1, j2⟩ := c_br27 (w := w) x y e2 hin hs 21 (Nat.le_refl _) none S none none hC (fun b hb => by cases hb)
      refine ⟨S1, ?_, j1⟩
      refine fI_by tl_X11_bestRule (gd_r rfl rfl) (fun kk => sg_X11_bestRule_0 x y S kk) ?_
      simp only [c_isS1 hC h1, Option.bind_some, i_10, if_false, if_neg (i_le_not h3), if_pos h4, e2, if_neg hin, k3_eq, rc_6, hrc, if_pos ho, if_pos h, hsel]
      exact ce_kk_of j2
    · refine ⟨S, ?_, qt_refl S⟩
      refine fI_by tl_X11_bestRule (gd_r rfl rfl) (fun kk => sg_X11_bestRule_0 x y S kk) ?_
      simp only [c_isS1 hC h1, Option.bind_some, i_10, if_false, if_neg (i_le_not h3), if_pos h4, e2, if_neg hin, k3_eq, rc_6, hrc, if_neg ho, if_pos h, hsel]
  · refine ⟨S, ?_, qt_refl S⟩
    refine fI_by tl_X11_bestRule (gd_r rfl rfl) (fun kk => sg_X11_bestRule_0 x y S kk) ?_
    simp only [if_neg h]
    by_cases h1 : isS w x
    · by_cases h3 : y < 0
      · simp only [c_isS1 hC h1, Option.bind_some, i_10, if_false, if_pos h3]
      · have h4 : ¬ y ≤ 2 := fun q => h ⟨h1, i_not_lt h3, q⟩
        simp only [c_isS1 hC h1, Option.bind_some, i_10, if_false, if_neg h3, if_neg h4]
    · simp only [c_isS0 hC h1, Option.bind_some, if_true]
def d2 (acc : sp_D) : Int32 × Int32 := match acc with
  | none => (-1, -1)
  | some b => b
def d2ok (acc : sp_D) : Prop := ∀ b, acc = some b → b.1 ≠ -1
theorem d2ok_bed {acc : sp_D} (r : sp_R) {v : Int32} (h : d2ok acc) (hv : v ≠ -1) : d2ok (sp_bed acc r v) := by
  intro b hb
  unfold sp_bed at hb
  split at hb
  · split at hb
    · cases hb; exact hv
    · split at hb
      · cases hb; exact hv
      · exact h _ hb
  · exact h _ hb
theorem sp_1_d2 (acc : sp_D) : sp_1 acc = (d2 acc).1 := by cases acc <;> rfl
theorem c_whom12 {w : sp_W} (a p : Int32) : ∀ m, m ≤ w_n w → ∀ (acc : sp_D) (S : ce_S) (z6 : Option ce_V), CR w S → d2ok acc → ∃ S1, qt S S1 ∧ ce_Ev tb_X11_whom 12 (0, 0) [some (.inr (.inl (0, 0))), some (.inl a), some (.inl p), some (.inl (d2 acc).1), some (.inl (d2 acc).2), some (.inl (nI (w_n w - m))), z6] [] S (some (.inl (sp_1 (sp_who (w_E w) (w_r w) a p (w_n w) m acc))), S1) := by
  intro m
  induction m with
  | zero =>
    intro _ acc S z6 hC ha
    refine ⟨S, qt_refl S, ce_by tl_X11_whom (fun kk => sg_X11_whom_12 a p (d2 acc).1 (d2 acc).2 (nI (w_n w - 0)) z6 S kk) ?_⟩
    have h1 : ce_I S 0 6 0 ≤ nI (w_n w - 0) := by rw [hC.1.1]; exact Int32.le_refl _
    rw [if_pos h1]
    unfold sp_who
    rw [sp_1_d2]
  | succ m ih =>
    intro hm acc S z6 hC ha
    have hn : w_n w ≤ 6 := hC.1.2
    have hi : w_n w - (m + 1) < w_n w := by omega
    have e2 : (nI (w_n w - (m + 1))).toNatClampNeg = w_n w - (m + 1) := nI_clamp (by omega)
    have hin : ¬ (nI (w_n w - (m + 1)) < 0 ∨ 6 ≤ w_n w - (m + 1)) := nJ_in (by omega) (by decide)
    have h1 : ¬ ce_I S 0 6 0 ≤ nI (w_n w - (m + 1)) := by rw [hC.1.1, nJ_le (by omega) (by omega)]; omega
    have h6 : ¬ (6 : Int32) ≤ nI (w_n w - (m + 1)) := by rw [show (6 : Int32) = nI 6 from rfl, nJ_le (by omega) (by omega)]; omega
    have e1 : nI (w_n w - (m + 1)) + 1 = nI (w_n w - m) := by rw [nJ_succ, show w_n w - (m + 1) + 1 = w_n w - m by omega]
    have hv : nI (w_n w - (m + 1)) ≠ -1 := nI_ne _ (by omega)
    have hrc := (hC.2.1 _ hi).1
    unfold sp_who
    by_cases ho : sp_st (w_r w (w_n w - (m + 1))) = 0
    · obtain ⟨S1, g1, g2, g3⟩ := c_end hC e2 hin hi a p
      obtain ⟨S2, j1, j2⟩ := ih (by omega) (sp_bed acc (sp_go (w_E w) (w_r w (w_n w - (m + 1))) a p) (nI (w_n w - (m + 1)))) S1 (some (.inr (.inl (11, 18)))) (CR_qt hC g2) (d2ok_bed _ ha hv)
      refine ⟨S2, qt_trans g2 j1, ce_by tl_X11_whom (fun kk => sg_X11_whom_12 a p (d2 acc).1 (d2 acc).2 (nI (w_n w - (m + 1))) z6 S kk) ?_⟩
      simp only [if_pos ho, if_neg h1, if_neg h6, e2, if_neg hin, k3_eq, rc_6, hrc, g1, Option.bind_some, g3, rc_7, q_add_eq, e1]
      generalize sp_go (w_E w) (w_r w (w_n w - (m + 1))) a p = r at j2 ⊢
      unfold sp_bed at j2 ⊢
      by_cases hst : sp_st r = 1
      · simp only [if_pos hst] at j2 ⊢
        cases acc with
        | none =>
          simp only [d2, if_true] at j2 ⊢
          exact ce_kk_of j2
        | some b =>
          have hb : ¬ (d2 (some b)).1 = -1 := ha b rfl
          rw [if_neg hb]
          by_cases c1 : sp_pr r < b.2
          · rw [if_neg (show ¬ (d2 (some b)).2 ≤ sp_pr r from i_lt_not c1)]
            simp only [if_pos c1] at j2 ⊢
            exact ce_kk_of j2
          · rw [if_pos (show (d2 (some b)).2 ≤ sp_pr r from i_not_lt c1)]
            simp only [if_neg c1] at j2 ⊢
            exact ce_kk_of j2
      · simp only [if_neg hst] at j2 ⊢
        exact ce_kk_of j2
    · obtain ⟨S2, j1, j2⟩ := ih (by omega) acc S z6 hC ha
      refine ⟨S2, j1, ce_by tl_X11_whom (fun kk => sg_X11_whom_12 a p (d2 acc).1 (d2 acc).2 (nI (w_n w - (m + 1))) z6 S kk) ?_⟩
      simp only [if_neg ho, if_neg h1, if_neg h6, e2, if_neg hin, k3_eq, rc_6, hrc, q_add_eq, e1]
      exact ce_kk_of j2
theorem c_whom {w : sp_W} {S : ce_S} (hC : CR w S) (a p : Int32) : ∃ S', F_X11_whom [.inr (.inl (0, 0)), .inl a, .inl p] S = some (s_whom w a p, S') ∧ qt S S' := by
  unfold s_whom
  by_cases h : isR a p
  · obtain ⟨S1, j1, j2⟩ := c_whom12 (w := w) a p (w_n w) (Nat.le_refl _) none S none hC (fun b hb => by cases hb)
    rw [Nat.sub_self] at j2
    refine ⟨S1, fI_by tl_X11_whom (gd_r rfl rfl) (fun kk => sg_X11_whom_0 a p S kk) ?_, j1⟩
    simp only [c_isR1 S h, Option.bind_some, i_10, if_false, if_pos h]
    exact ce_kk_of j2
  · refine ⟨S, fI_by tl_X11_whom (gd_r rfl rfl) (fun kk => sg_X11_whom_0 a p S kk) ?_, qt_refl S⟩
    simp only [c_isR0 S h, Option.bind_some, if_true, if_neg h]
theorem sp_all_stop (E : sp_E) (f : Nat → sp_R) (a p : Int32) (N : Nat) (m : Nat) (acc : Int32 × Int32) (h : acc.1 ≠ -1) : sp_all E f a p N m acc = acc := by
  cases m with
  | zero => rfl
  | succ m => unfold sp_all; rw [if_neg h]
theorem c_all17 {w : sp_W} (a p y : Int32) : ∀ m, m ≤ w_n w → ∀ (acc : Int32 × Int32) (S : ce_S) (z7 : Option ce_V), CR w S → ∃ S1, qt S S1 ∧ ce_Ev tb_X11_allInTurn 17 (0, 0) [some (.inr (.inl (0, 0))), some (.inl a), some (.inl p), some (.inl y), some (.inl acc.1), some (.inl acc.2), some (.inl (nI (w_n w - m))), z7] [] S (some (.inl (if y = 0 then (sp_all (w_E w) (w_r w) a p (w_n w) m acc).1 else (sp_all (w_E w) (w_r w) a p (w_n w) m acc).2)), S1) := by
  intro m
  induction m with
  | zero =>
    intro _ acc S z7 hC
    refine ⟨S, qt_refl S, ce_by tl_X11_allInTurn (fun kk => sg_X11_allInTurn_17 a p y acc.1 acc.2 (nI (w_n w - 0)) z7 S kk) ?_⟩
    have h1 : ce_I S 0 6 0 ≤ nI (w_n w - 0) := by rw [hC.1.1]; exact Int32.le_refl _
    rw [if_pos h1]
    unfold sp_all
    by_cases y0 : y = 0
    · simp only [if_pos y0]
    · simp only [if_neg y0]
  | succ m ih =>
    intro hm acc S z7 hC
    have hn : w_n w ≤ 6 := hC.1.2
    have hi : w_n w - (m + 1) < w_n w := by omega
    have e2 : (nI (w_n w - (m + 1))).toNatClampNeg = w_n w - (m + 1) := nI_clamp (by omega)
    have hin : ¬ (nI (w_n w - (m + 1)) < 0 ∨ 6 ≤ w_n w - (m + 1)) := nJ_in (by omega) (by decide)
    have h1 : ¬ ce_I S 0 6 0 ≤ nI (w_n w - (m + 1)) := by rw [hC.1.1, nJ_le (by omega) (by omega)]; omega
    have h6 : ¬ (6 : Int32) ≤ nI (w_n w - (m + 1)) := by rw [show (6 : Int32) = nI 6 from rfl, nJ_le (by omega) (by omega)]; omega
    have e1 : nI (w_n w - (m + 1)) + 1 = nI (w_n w - m) := by rw [nJ_succ, show w_n w - (m + 1) + 1 = w_n w - m by omega]
    have hrc := (hC.2.1 _ hi).1
    by_cases hf : acc.1 = -1
    · unfold sp_all
      by_cases ho : sp_st (w_r w (w_n w - (m + 1))) = 0
      · obtain ⟨S1, g1, g2, g3⟩ := c_end hC e2 hin hi a p
        have hrc1 := ((CR_qt hC g2).2.1 _ hi).1
        obtain ⟨S2, j1, j2⟩ := ih (by omega) (sp_pr (sp_go (w_E w) (w_r w (w_n w - (m + 1))) a p), acc.2 + (sp_cu (sp_go (w_E w) (w_r w (w_n w - (m + 1))) a p) - sp_cu (w_r w (w_n w - (m + 1))))) S1 (some (.inr (.inl (11, 18)))) (CR_qt hC g2)
        refine ⟨S2, qt_trans g2 j1, ce_by tl_X11_allInTurn (fun kk => sg_X11_allInTurn_17 a p y acc.1 acc.2 (nI (w_n w - (m + 1))) z7 S kk) ?_⟩
        simp only [if_pos ho, if_neg h1, if_neg h6, if_pos hf, e2, if_neg hin, k3_eq, rc_6, hrc, g1, Option.bind_some, rc_5, rc_7, g3, hrc1, q_add_eq, q_sub_eq, e1]
        exact ce_kk_of j2
      · obtain ⟨S2, j1, j2⟩ := ih (by omega) acc S z7 hC
        refine ⟨S2, j1, ce_by tl_X11_allInTurn (fun kk => sg_X11_allInTurn_17 a p y acc.1 acc.2 (nI (w_n w - (m + 1))) z7 S kk) ?_⟩
        simp only [if_neg ho, if_neg h1, if_neg h6, if_pos hf, e2, if_neg hin, k3_eq, rc_6, hrc, q_add_eq, e1]
        exact ce_kk_of j2
    · refine ⟨S, qt_refl S, ce_by tl_X11_allInTurn (fun kk => sg_X11_allInTurn_17 a p y acc.1 acc.2 (nI (w_n w - (m + 1))) z7 S kk) ?_⟩
      rw [sp_all_stop _ _ _ _ _ _ _ hf]
      simp only [if_neg h1, if_neg h6, if_neg hf]
      by_cases y0 : y = 0
      · simp only [if_pos y0]
      · simp only [if_neg y0]
theorem c_all {w : sp_W} {S : ce_S} (hC : CR w S) (a p y : Int32) : ∃ S', F_X11_allInTurn [.inr (.inl (0, 0)), .inl a, .inl p, .inl y] S = some (s_all w a p y, S') ∧ qt S S' := by
  unfold s_all
  by_cases h : isR a p ∧ 0 ≤ y ∧ y ≤ 1
  · obtain ⟨S1, j1, j2⟩ := c_all17 (w := w) a p y (w_n w) (Nat.le_refl _) (-1, 0) S none hC
    rw [Nat.sub_self] at j2
    refine ⟨S1, fI_by tl_X11_allInTurn (gd_r rfl rfl) (fun kk => sg_X11_allInTurn_0 a p y S kk) ?_, j1⟩
    simp only [c_isR1 S h.1, Option.bind_some, i_10, if_false, if_neg (i_le_not h.2.1), if_pos h.2.2, if_pos h]
    exact ce_kk_of j2
  · refine ⟨S, fI_by tl_X11_allInTurn (gd_r rfl rfl) (fun kk => sg_X11_allInTurn_0 a p y S kk) ?_, qt_refl S⟩
    simp only [if_neg h]
    by_cases h2 : isR a p
    · by_cases h3 : y < 0
      · simp only [c_isR1 S h2, Option.bind_some, i_10, if_false, if_pos h3]
      · have h4 : ¬ y ≤ 1 := fun q => h ⟨h2, i_not_lt h3, q⟩
        simp only [c_isR1 S h2, Option.bind_some, i_10, if_false, if_neg h3, if_neg h4]
    · simp only [c_isR0 S h2, Option.bind_some, if_true]
theorem c_slipped {w : sp_W} {S : ce_S} (hC : CR w S) (x a p : Int32) : ∃ S', F_X11_slipped [.inr (.inl (0, 0)), .inl x, .inl a, .inl p] S = some (s_slipped w x a p, S') ∧ qt S S' := by
  unfold s_slipped
  by_cases h : isS w x ∧ isR a p
  · obtain ⟨h1, h2⟩ := id h
    obtain ⟨s, hs, h6, e, e2, hin, hsel, hrc⟩ := c_sel hC h1
    obtain ⟨S1, t1, t2, t3⟩ := c_take hC hs
    have q1 : qt S (wS S1 18 (sp_wk (w_r w s) 3)) := qt_trans t2 (qt_wS _ _ _ jk_18)
    obtain ⟨f, b1⟩ := f_begin (wS S1 18 (sp_wk (w_r w s) 3)) 18 0 (CR_ok (CR_qt hC q1))
    rw [CR_E (CR_qt hC q1), rc_wS] at b1
    have q2 := qt_trans q1 (qt_u (wS S1 18 (sp_wk (w_r w s) 3)) 18 (sp_beg (w_E w) (sp_wk (w_r w s) 3)) f jk_18)
    obtain ⟨f2, g1⟩ := f_go _ 18 0 a p (CR_ok (CR_qt hC q2))
    rw [CR_E (CR_qt hC q2), rc_tA, rc_wS] at g1
    refine ⟨_, ?_, qt_trans q2 (qt_u _ 18 (sp_go (w_E w) (sp_beg (w_E w) (sp_wk (w_r w s) 3)) a p) f2 jk_18)⟩
    refine fI_by tl_X11_slipped (gd_r rfl rfl) (fun kk => sg_X11_slipped_0 x a p S kk) ?_
    have e3 : ce_sR S1 11 0 18 3 = wS S1 18 (sp_wk (w_r w s) 3) := by rw [s0_wS, t3]; rfl
    simp only [c_isS1 hC h1, c_isR1 S h2, Option.bind_some, i_10, if_false, e2, if_neg hin, k3_eq, t1, e3, b1, g1, if_pos h, hsel, rc_7, rc_tA, rc_wS]
  · refine ⟨S, fI_by tl_X11_slipped (gd_r rfl rfl) (fun kk => sg_X11_slipped_0 x a p S kk) ?_, qt_refl S⟩
    simp only [if_neg h]
    by_cases h1 : isS w x
    · have h2 : ¬ isR a p := fun q => h ⟨h1, q⟩
      simp only [c_isS1 hC h1, c_isR0 S h2, Option.bind_some, i_10, if_false, if_true]
    · simp only [c_isS0 hC h1, Option.bind_some, if_true]
