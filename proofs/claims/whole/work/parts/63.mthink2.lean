/-! the reference in thought -/
theorem MX_8 {w : sp_W} {S : ce_S} (hM : MX w S) (v : Int32) : MX (w_setc w (w_ru w, v, w_ho w, w_li w)) (ce_sI S 20 8 0 v) := by
  obtain ⟨hn, ⟨c1, c2, c3, c4, c5, c6⟩, ⟨t1, t2, t3, t4⟩, hp, hh, ⟨i1, i2⟩, hw⟩ := hM
  have hI : ∀ k, k ≠ 8 → ce_I (ce_sI S 20 8 0 v) 20 k 0 = ce_I S 20 k 0 := fun k hk => by rw [r_I_sI, if_pos rfl, if_neg hk]
  have hE : ce_I (ce_sI S 20 8 0 v) 20 8 0 = v := by rw [r_I_sI]; simp only [if_true]
  refine ⟨⟨(hI 7 (by decide)).trans hn.1, hn.2⟩, ⟨hE, (hI 9 (by decide)).trans c2, (hI 10 (by decide)).trans c3, (hI 11 (by decide)).trans c4, c5, c6⟩, ⟨(hI 19 (by decide)).trans t1, t2, t3, t4⟩, ⟨(hI 18 (by decide)).trans hp.1, hp.2⟩, hh, ⟨fun e => (hI 33 (by decide)).trans (i1 e), fun m f c e => ?_⟩, hw⟩
  obtain ⟨a1, a2, a3, a4, a5, a6, a7, a8, a9⟩ := i2 m f c e
  exact ⟨(hI 33 (by decide)).trans a1, (hI 28 (by decide)).trans a2, a3, a4, (hI 29 (by decide)).trans a5, (hI 30 (by decide)).trans a6, (hI 31 (by decide)).trans a7, (hI 32 (by decide)).trans a8, a9⟩
theorem MX_9 {w : sp_W} {S : ce_S} (hM : MX w S) (v : Int32) : MX (w_setc w (w_ru w, w_sh w, v, w_li w)) (ce_sI S 20 9 0 v) := by
  obtain ⟨hn, ⟨c1, c2, c3, c4, c5, c6⟩, ⟨t1, t2, t3, t4⟩, hp, hh, ⟨i1, i2⟩, hw⟩ := hM
  have hI : ∀ k, k ≠ 9 → ce_I (ce_sI S 20 9 0 v) 20 k 0 = ce_I S 20 k 0 := fun k hk => by rw [r_I_sI, if_pos rfl, if_neg hk]
  have hE : ce_I (ce_sI S 20 9 0 v) 20 9 0 = v := by rw [r_I_sI]; simp only [if_true]
  refine ⟨⟨(hI 7 (by decide)).trans hn.1, hn.2⟩, ⟨(hI 8 (by decide)).trans c1, hE, (hI 10 (by decide)).trans c3, (hI 11 (by decide)).trans c4, c5, c6⟩, ⟨(hI 19 (by decide)).trans t1, t2, t3, t4⟩, ⟨(hI 18 (by decide)).trans hp.1, hp.2⟩, hh, ⟨fun e => (hI 33 (by decide)).trans (i1 e), fun m f c e => ?_⟩, hw⟩
  obtain ⟨a1, a2, a3, a4, a5, a6, a7, a8, a9⟩ := i2 m f c e
  exact ⟨(hI 33 (by decide)).trans a1, (hI 28 (by decide)).trans a2, a3, a4, (hI 29 (by decide)).trans a5, (hI 30 (by decide)).trans a6, (hI 31 (by decide)).trans a7, (hI 32 (by decide)).trans a8, a9⟩
theorem MX_10 {w : sp_W} {S : ce_S} (hM : MX w S) {v : Int32} (h : 0 ≤ v ∧ v ≤ 1999) : MX (w_setc w (w_ru w, w_sh w, w_ho w, v)) (ce_sI S 20 10 0 v) := by
  obtain ⟨hn, ⟨c1, c2, c3, c4, c5, c6⟩, ⟨t1, t2, t3, t4⟩, hp, hh, ⟨i1, i2⟩, hw⟩ := hM
  have hI : ∀ k, k ≠ 10 → ce_I (ce_sI S 20 10 0 v) 20 k 0 = ce_I S 20 k 0 := fun k hk => by rw [r_I_sI, if_pos rfl, if_neg hk]
  have hE : ce_I (ce_sI S 20 10 0 v) 20 10 0 = v := by rw [r_I_sI]; simp only [if_true]
  refine ⟨⟨(hI 7 (by decide)).trans hn.1, hn.2⟩, ⟨(hI 8 (by decide)).trans c1, (hI 9 (by decide)).trans c2, hE, (hI 11 (by decide)).trans c4, h⟩, ⟨(hI 19 (by decide)).trans t1, t2, t3, t4⟩, ⟨(hI 18 (by decide)).trans hp.1, hp.2⟩, hh, ⟨fun e => (hI 33 (by decide)).trans (i1 e), fun m f c e => ?_⟩, hw⟩
  obtain ⟨a1, a2, a3, a4, a5, a6, a7, a8, a9⟩ := i2 m f c e
  exact ⟨(hI 33 (by decide)).trans a1, (hI 28 (by decide)).trans a2, a3, a4, (hI 29 (by decide)).trans a5, (hI 30 (by decide)).trans a6, (hI 31 (by decide)).trans a7, (hI 32 (by decide)).trans a8, a9⟩
theorem MX_11 {w : sp_W} {S : ce_S} (hM : MX w S) {v : Nat} (h : v < w_nt w) : MX (w_setc w (v, w_sh w, w_ho w, w_li w)) (ce_sI S 20 11 0 (nI v)) := by
  obtain ⟨hn, ⟨c1, c2, c3, c4, c5, c6⟩, ⟨t1, t2, t3, t4⟩, hp, hh, ⟨i1, i2⟩, hw⟩ := hM
  have hI : ∀ k, k ≠ 11 → ce_I (ce_sI S 20 11 0 (nI v)) 20 k 0 = ce_I S 20 k 0 := fun k hk => by rw [r_I_sI, if_pos rfl, if_neg hk]
  have hE : ce_I (ce_sI S 20 11 0 (nI v)) 20 11 0 = (nI v) := by rw [r_I_sI]; simp only [if_true]
  refine ⟨⟨(hI 7 (by decide)).trans hn.1, hn.2⟩, ⟨(hI 8 (by decide)).trans c1, (hI 9 (by decide)).trans c2, (hI 10 (by decide)).trans c3, hE, c5, c6⟩, ⟨(hI 19 (by decide)).trans t1, t2, h, t4⟩, ⟨(hI 18 (by decide)).trans hp.1, hp.2⟩, hh, ⟨fun e => (hI 33 (by decide)).trans (i1 e), fun m f c e => ?_⟩, hw⟩
  obtain ⟨a1, a2, a3, a4, a5, a6, a7, a8, a9⟩ := i2 m f c e
  exact ⟨(hI 33 (by decide)).trans a1, (hI 28 (by decide)).trans a2, a3, a4, (hI 29 (by decide)).trans a5, (hI 30 (by decide)).trans a6, (hI 31 (by decide)).trans a7, (hI 32 (by decide)).trans a8, a9⟩
theorem cEq_20 (S : ce_S) (k i : Nat) (v : Int32) : cEq S (ce_sI S 20 k i v) := cEq_sI S 20 k i v (by decide)
/-- sold, and the price -/
theorem rok_pr {r : sp_R} (h : rok r) : (sp_st r = 1 ∧ ¬ sp_pr r < 0) ∨ (¬ sp_st r = 1 ∧ sp_pr r < 0) := by
  by_cases c : sp_st r = 1
  · exact Or.inl ⟨c, i_le_not (h.2.2.1 c).1⟩
  · refine Or.inr ⟨c, ?_⟩
    rw [h.2.2.2 c]; decide
def m3 (acc : sp_B) : Int32 × Int32 × Int32 := match acc with
  | none => (-1, 0, 0)
  | some b => b
def m3ok (acc : sp_B) : Prop := ∀ b, acc = some b → ¬ b.1 < 0
theorem nI_nn (n : Nat) (h : n < 2 ^ 31) : ¬ nI n < 0 := by
  rw [show (0 : Int32) = nI 0 from rfl, nJ_lt h (by decide)]; omega
theorem m_br29 {w : sp_W} (x2 : Int32) {s : Nat} (hs : s < w_n w) (k : Nat) (hk : k ≤ 20) : ∀ m, m ≤ 11 → ∀ (acc : sp_B) (S : ce_S) (z8 : Option ce_V), MR w S → m3ok acc → ∃ S1 z, MR w S1 ∧ mq S S1 ∧ m3ok (sp_brp (w_E w) (w_r w s) (nI (20 * k)) m acc) ∧ ∀ res, ce_Ev tb_X12_bestRule 19 (0, 0) [some (.inr (.inl (20, 0))), some (.inl (nI s)), some (.inl x2), some (.inl (m3 (sp_brp (w_E w) (w_r w s) (nI (20 * k)) m acc)).1), some (.inl (m3 (sp_brp (w_E w) (w_r w s) (nI (20 * k)) m acc)).2.1), some (.inl (m3 (sp_brp (w_E w) (w_r w s) (nI (20 * k)) m acc)).2.2), some (.inl (nI (20 * (k + 1)))), some (.inl (nI 11)), z] [] S1 res → ce_Ev tb_X12_bestRule 29 (0, 0) [some (.inr (.inl (20, 0))), some (.inl (nI s)), some (.inl x2), some (.inl (m3 acc).1), some (.inl (m3 acc).2.1), some (.inl (m3 acc).2.2), some (.inl (nI (20 * k))), some (.inl (nI (11 - m))), z8] [] S res := by
  intro m
  induction m with
  | zero =>
    intro _ acc S z8 hR ha
    refine ⟨S, z8, hR, mq_refl S, ha, fun res hr => ?_⟩
    refine ce_by tl_X12_bestRule (fun kk => sg_X12_bestRule_29 (nI s) x2 (m3 acc).1 (m3 acc).2.1 (m3 acc).2.2 (nI (20 * k)) (nI (11 - 0)) z8 S kk) ?_
    have h10 : (10 : Int32) < nI (11 - 0) := by decide
    rw [if_pos h10]
    have e20 : q_add (nI (20 * k)) 20 = nI (20 * (k + 1)) := by
      rw [q_add_eq, show (20 : Int32) = nI 20 from rfl, nJ_add, show 20 * k + 20 = 20 * (k + 1) by omega]
    rw [e20]
    exact ce_kk_of hr
  | succ m ih =>
    intro hm acc S z8 hR ha
    obtain ⟨hM, hf⟩ := id hR
    have em : 11 - (m + 1) = 10 - m := by omega
    have hp : isR (nI (20 * k)) (nI (10 - m)) := by
      refine ⟨⟨?_, ?_⟩, ?_, ?_⟩
      · rw [show (0 : Int32) = nI 0 from rfl, nJ_le (by omega) (by omega)]; omega
      · rw [show (1999 : Int32) = nI 1999 from rfl, nJ_le (by omega) (by omega)]; omega
      · rw [show (0 : Int32) = nI 0 from rfl, nJ_le (by omega) (by omega)]; omega
      · rw [show (10 : Int32) = nI 10 from rfl, nJ_le (by omega) (by omega)]; omega
    obtain ⟨S1, t1, t2, t3, t4, t5, t6, t7⟩ := m_thinks hM hf hs hp 0
    simp only [if_true] at t1 t5 t6 t7
    have hrok : rok (sp_go (w_E w) (w_r w s) (nI (20 * k)) (nI (10 - m))) := rok_go hp (MX_lim hM) (hf s hs).2
    have ev : 100 * nI (20 * k) + nI (10 - m) = nI (100 * (20 * k) + (10 - m)) := by
      rw [show (100 : Int32) = nI 100 from rfl, nJ_mul, nJ_add]
    have hv : ¬ 100 * nI (20 * k) + nI (10 - m) < 0 := by rw [ev]; exact nI_nn _ (by omega)
    have hok : m3ok (sp_bet acc (sp_go (w_E w) (w_r w s) (nI (20 * k)) (nI (10 - m))) (100 * nI (20 * k) + nI (10 - m))) := by
      intro b hb
      unfold sp_bet at hb
      split at hb
      · split at hb
        · cases hb; exact hv
        · split at hb
          · cases hb; exact hv
          · exact ha _ hb
      · exact ha _ hb
    obtain ⟨S2, z, i1, iq, i2, i3⟩ := ih (by omega) (sp_bet acc (sp_go (w_E w) (w_r w s) (nI (20 * k)) (nI (10 - m))) (100 * nI (20 * k) + nI (10 - m))) S1 (some (.inl (sp_pr (sp_go (w_E w) (w_r w s) (nI (20 * k)) (nI (10 - m)))))) ⟨MX_mq hM t2, t3⟩ hok
    refine ⟨S2, z, i1, mq_trans t2 iq, i2, fun res hr => ?_⟩
    have h := i3 res hr
    refine ce_by tl_X12_bestRule (fun kk => sg_X12_bestRule_29 (nI s) x2 (m3 acc).1 (m3 acc).2.1 (m3 acc).2.2 (nI (20 * k)) (nI (11 - (m + 1))) z8 S kk) ?_
    rw [em]
    have h10 : ¬ (10 : Int32) < nI (10 - m) := by
      rw [show (10 : Int32) = nI 10 from rfl, nJ_lt (by omega) (by omega)]; omega
    have e11 : nI (10 - m) + 1 = nI (11 - m) := by rw [nJ_succ, show 10 - m + 1 = 11 - m by omega]
    simp only [if_neg h10, t1, Option.bind_some, t7, q_add_eq, q_mul_eq, e11]
    generalize sp_go (w_E w) (w_r w s) (nI (20 * k)) (nI (10 - m)) = r at h hrok ⊢
    unfold sp_bet at h
    rcases rok_pr hrok with ⟨hst, hpr⟩ | ⟨hst, hpr⟩
    · simp only [if_pos hst] at h
      simp only [if_neg hpr]
      cases acc with
      | none =>
        rw [if_pos (show (m3 none).1 < 0 by decide)]
        exact ce_kk_of h
      | some b =>
        rw [if_neg (show ¬ (m3 (some b)).1 < 0 from ha b rfl)]
        by_cases c1 : b.2.1 < sp_pr r
        · rw [if_pos (show (m3 (some b)).2.1 < sp_pr r from c1)]
          simp only [if_neg (show ¬ (sp_pr r < b.2.1 ∨ (sp_pr r = b.2.1 ∧ sp_cu r < b.2.2)) from fun q => by
            rw [i_lt] at c1
            rcases q with q | q
            · rw [i_lt] at q; omega
            · rw [i_eq] at q; omega)] at h
          exact ce_kk_of h
        · rw [if_neg (show ¬ (m3 (some b)).2.1 < sp_pr r from c1)]
          by_cases c2 : sp_pr r = b.2.1
          · rw [if_pos (show sp_pr r = (m3 (some b)).2.1 from c2)]
            by_cases c3 : sp_cu r < b.2.2
            · rw [if_pos (show sp_cu r < (m3 (some b)).2.2 from c3)]
              simp only [if_pos (show sp_pr r < b.2.1 ∨ (sp_pr r = b.2.1 ∧ sp_cu r < b.2.2) from Or.inr ⟨c2, c3⟩)] at h
              exact ce_kk_of h
            · rw [if_neg (show ¬ sp_cu r < (m3 (some b)).2.2 from c3)]
              simp only [if_neg (show ¬ (sp_pr r < b.2.1 ∨ (sp_pr r = b.2.1 ∧ sp_cu r < b.2.2)) from fun q => by
                rcases q with q | q
                · rw [i_lt] at q; rw [i_eq] at c2; omega
                · exact c3 q.2)] at h
              exact ce_kk_of h
          · rw [if_neg (show ¬ sp_pr r = (m3 (some b)).2.1 from c2)]
            have c4 : sp_pr r < b.2.1 := by rw [i_lt] at c1 ⊢; rw [i_eq] at c2; omega
            simp only [if_pos (show sp_pr r < b.2.1 ∨ (sp_pr r = b.2.1 ∧ sp_cu r < b.2.2) from Or.inl c4)] at h
            exact ce_kk_of h
    · simp only [if_neg hst] at h
      simp only [if_pos hpr]
      exact ce_kk_of h
theorem m_br19 {w : sp_W} (x2 : Int32) {s : Nat} (hs : s < w_n w) (ho : sp_st (w_r w s) = 0) : ∀ m, m ≤ 21 → ∀ (acc : sp_B) (S : ce_S) (z7 z8 : Option ce_V), MR w S → m3ok acc → ∃ S1, MR w S1 ∧ mq S S1 ∧ ce_Ev tb_X12_bestRule 19 (0, 0) [some (.inr (.inl (20, 0))), some (.inl (nI s)), some (.inl x2), some (.inl (m3 acc).1), some (.inl (m3 acc).2.1), some (.inl (m3 acc).2.2), some (.inl (nI (20 * (21 - m)))), z7, z8] [] S (some (.inl (sp_3 x2 (sp_bra (w_E w) (w_r w s) m acc))), S1) := by
  intro m
  induction m with
  | zero =>
    intro _ acc S z7 z8 hR ha
    refine ⟨S, hR, mq_refl S, ce_by tl_X12_bestRule (fun kk => sg_X12_bestRule_19 (nI s) x2 (m3 acc).1 (m3 acc).2.1 (m3 acc).2.2 (nI (20 * (21 - 0))) z7 z8 S kk) ?_⟩
    have h4 : (400 : Int32) < nI (20 * (21 - 0)) := by decide
    rw [if_pos h4]
    unfold sp_bra sp_3
    cases acc with
    | none => rw [if_pos (show (m3 none).1 < 0 by decide)]; rfl
    | some b =>
      rw [if_neg (show ¬ (m3 (some b)).1 < 0 from ha b rfl)]
      by_cases y0 : x2 = 0
      · simp only [if_pos y0]; rfl
      by_cases y1 : x2 = 1
      · simp only [if_neg y0, if_pos y1]; rfl
      · simp only [if_neg y0, if_neg y1]; rfl
  | succ m ih =>
    intro hm acc S z7 z8 hR ha
    have h6 : s < 6 := Nat.lt_of_lt_of_le hs hR.1.1.2
    have e2 : (nI s).toNatClampNeg = s := nI_clamp (by omega)
    have hin : ¬ (nI s < 0 ∨ 6 ≤ s) := nJ_in h6 (by decide)
    have h26 : ce_A S 26 0 s = 0 := (hR.2 s hs).1.2.2.2.2.2.1.trans ho
    obtain ⟨S1, z, i1, iq, i2, i3⟩ := m_br29 (w := w) x2 hs (20 - m) (by omega) 11 (Nat.le_refl _) acc S z8 hR ha
    obtain ⟨S2, j1, jq, j2⟩ := ih (by omega) (sp_brp (w_E w) (w_r w s) (nI (20 * (20 - m))) 11 acc) S1 (some (.inl (nI 11))) z i1 i2
    refine ⟨S2, j1, mq_trans iq jq, ce_by tl_X12_bestRule (fun kk => sg_X12_bestRule_19 (nI s) x2 (m3 acc).1 (m3 acc).2.1 (m3 acc).2.2 (nI (20 * (21 - (m + 1)))) z7 z8 S kk) ?_⟩
    have h4 : ¬ (400 : Int32) < nI (20 * (21 - (m + 1))) := by
      rw [show (400 : Int32) = nI 400 from rfl, nJ_lt (by omega) (by omega)]; omega
    rw [if_neg h4, e2, if_neg hin, h26, if_pos rfl]
    rw [show 20 - m + 1 = 21 - m by omega] at i3
    rw [show 21 - (m + 1) = 20 - m by omega]
    exact ce_kk_of (i3 _ j2)
theorem m_bestRule {w : sp_W} {S : ce_S} (hR : MR w S) (x y : Int32) : ∃ S', F_X12_bestRule [.inr (.inl (20, 0)), .inl x, .inl y] S = some (s_bestRule w x y, S') ∧ MR w S' ∧ cEq S S' := by
  obtain ⟨hM, hf⟩ := id hR
  unfold s_bestRule
  by_cases h1 : isS w x
  · by_cases h3 : 0 ≤ y ∧ y ≤ 2
    · obtain ⟨s, hs, h6, rfl, e2, hin, hsel⟩ := m_sel hM h1
      rw [if_pos (show isS w (nI s) ∧ 0 ≤ y ∧ y ≤ 2 from ⟨h1, h3⟩), hsel]
      by_cases ho : sp_st (w_r w s) = 0
      · obtain ⟨S1, j1, jq, j2⟩ := m_br19 (w := w) y hs ho 21 (Nat.le_refl _) none S none none hR (fun b hb => by cases hb)
        rw [if_pos ho]
        refine ⟨S1, fI_by tl_X12_bestRule (gd_r rfl rfl) (fun kk => sg_X12_bestRule_0 (nI s) y S kk) ?_, j1, cEq_mq jq⟩
        simp only [m_isS1 hM h1, f_isIn1 S h3, Option.bind_some, i_10, if_false]
        exact ce_kk_of j2
      · rw [if_neg ho]
        refine ⟨S, fI_by tl_X12_bestRule (gd_r rfl rfl) (fun kk => sg_X12_bestRule_0 (nI s) y S kk) ?_, hR, cEq_refl S⟩
        simp only [m_isS1 hM h1, f_isIn1 S h3, Option.bind_some, i_10, if_false]
        refine ce_kk_of (ce_by tl_X12_bestRule (fun kk => sg_X12_bestRule_19 (nI s) y (-1) 0 0 0 none none S kk) ?_)
        have h26 : ¬ ce_A S 26 0 s = 0 := by rw [(hf s hs).1.2.2.2.2.2.1]; exact ho
        rw [if_neg (by decide), e2, if_neg hin, if_neg h26, if_pos (by decide)]
    · refine ⟨S, fI_by tl_X12_bestRule (gd_r rfl rfl) (fun kk => sg_X12_bestRule_0 x y S kk) ?_, hR, cEq_refl S⟩
      rw [if_neg (show ¬ (isS w x ∧ 0 ≤ y ∧ y ≤ 2) from fun q => h3 q.2)]
      simp only [m_isS1 hM h1, f_isIn0 S h3, Option.bind_some, i_10, if_false, if_true]
  · refine ⟨S, fI_by tl_X12_bestRule (gd_r rfl rfl) (fun kk => sg_X12_bestRule_0 x y S kk) ?_, hR, cEq_refl S⟩
    rw [if_neg (show ¬ (isS w x ∧ 0 ≤ y ∧ y ≤ 2) from fun q => h1 q.1)]
    simp only [m_isS0 hM h1, Option.bind_some, if_true]
def m2 (acc : sp_D) : Int32 × Int32 := match acc with
  | none => (-1, 0)
  | some b => b
def m2ok (acc : sp_D) : Prop := ∀ b, acc = some b → ¬ b.1 < 0
theorem m2ok_bed {acc : sp_D} (r : sp_R) {v : Int32} (h : m2ok acc) (hv : ¬ v < 0) : m2ok (sp_bed acc r v) := by
  intro b hb
  unfold sp_bed at hb
  split at hb
  · split at hb
    · cases hb; exact hv
    · split at hb
      · cases hb; exact hv
      · exact h _ hb
  · exact h _ hb
theorem sp_1_m2 (acc : sp_D) : sp_1 acc = (m2 acc).1 := by cases acc <;> rfl
theorem m_whom12 {w : sp_W} {a p : Int32} (hp : isR a p) : ∀ m, m ≤ w_n w → ∀ (acc : sp_D) (S : ce_S) (z6 : Option ce_V), MR w S → m2ok acc → ∃ S1, MR w S1 ∧ mq S S1 ∧ ce_Ev tb_X12_whom 12 (0, 0) [some (.inr (.inl (20, 0))), some (.inl a), some (.inl p), some (.inl (m2 acc).1), some (.inl (m2 acc).2), some (.inl (nI (w_n w - m))), z6] [] S (some (.inl (sp_1 (sp_who (w_E w) (w_r w) a p (w_n w) m acc))), S1) := by
  intro m
  induction m with
  | zero =>
    intro _ acc S z6 hR ha
    refine ⟨S, hR, mq_refl S, ce_by tl_X12_whom (fun kk => sg_X12_whom_12 a p (m2 acc).1 (m2 acc).2 (nI (w_n w - 0)) z6 S kk) ?_⟩
    have h1 : ce_I S 20 7 0 ≤ nI (w_n w - 0) := by rw [hR.1.1.1]; exact Int32.le_refl _
    rw [if_pos h1]
    unfold sp_who
    rw [sp_1_m2]
  | succ m ih =>
    intro hm acc S z6 hR ha
    obtain ⟨hM, hf⟩ := id hR
    have hn : w_n w ≤ 6 := hM.1.2
    have hi : w_n w - (m + 1) < w_n w := by omega
    have e2 : (nI (w_n w - (m + 1))).toNatClampNeg = w_n w - (m + 1) := nI_clamp (by omega)
    have hin : ¬ (nI (w_n w - (m + 1)) < 0 ∨ 6 ≤ w_n w - (m + 1)) := nJ_in (by omega) (by decide)
    have h1 : ¬ ce_I S 20 7 0 ≤ nI (w_n w - (m + 1)) := by rw [hM.1.1, nJ_le (by omega) (by omega)]; omega
    have e1 : nI (w_n w - (m + 1)) + 1 = nI (w_n w - m) := by rw [nJ_succ, show w_n w - (m + 1) + 1 = w_n w - m by omega]
    have hv : ¬ nI (w_n w - (m + 1)) < 0 := nI_nn _ (by omega)
    have h26 : ce_A S 26 0 (w_n w - (m + 1)) = sp_st (w_r w (w_n w - (m + 1))) := (hf _ hi).1.2.2.2.2.2.1
    unfold sp_who
    by_cases ho : sp_st (w_r w (w_n w - (m + 1))) = 0
    · obtain ⟨S1, t1, t2, t3, t4, t5, t6, t7⟩ := m_thinks hM hf hi hp 0
      simp only [if_true] at t1 t5 t6 t7
      have hrok : rok (sp_go (w_E w) (w_r w (w_n w - (m + 1))) a p) := rok_go hp (MX_lim hM) (hf _ hi).2
      obtain ⟨S2, j1, jq, j2⟩ := ih (by omega) (sp_bed acc (sp_go (w_E w) (w_r w (w_n w - (m + 1))) a p) (nI (w_n w - (m + 1)))) S1 (some (.inl (sp_pr (sp_go (w_E w) (w_r w (w_n w - (m + 1))) a p)))) ⟨MX_mq hM t2, t3⟩ (m2ok_bed _ ha hv)
      refine ⟨S2, j1, mq_trans t2 jq, ce_by tl_X12_whom (fun kk => sg_X12_whom_12 a p (m2 acc).1 (m2 acc).2 (nI (w_n w - (m + 1))) z6 S kk) ?_⟩
      simp only [if_pos ho, if_neg h1, e2, if_neg hin, h26, t1, Option.bind_some, q_add_eq, e1]
      generalize sp_go (w_E w) (w_r w (w_n w - (m + 1))) a p = r at j2 hrok ⊢
      unfold sp_bed at j2 ⊢
      rcases rok_pr hrok with ⟨hst, hpr⟩ | ⟨hst, hpr⟩
      · simp only [if_pos hst] at j2 ⊢
        simp only [if_neg hpr]
        cases acc with
        | none =>
          rw [if_pos (show (m2 none).1 < 0 by decide)]
          exact ce_kk_of j2
        | some b =>
          rw [if_neg (show ¬ (m2 (some b)).1 < 0 from ha b rfl)]
          by_cases c1 : sp_pr r < b.2
          · rw [if_pos (show sp_pr r < (m2 (some b)).2 from c1)]
            simp only [if_pos c1] at j2 ⊢
            exact ce_kk_of j2
          · rw [if_neg (show ¬ sp_pr r < (m2 (some b)).2 from c1)]
            simp only [if_neg c1] at j2 ⊢
            exact ce_kk_of j2
      · simp only [if_neg hst] at j2 ⊢
        simp only [if_pos hpr]
        exact ce_kk_of j2
    · obtain ⟨S2, j1, jq, j2⟩ := ih (by omega) acc S (some (.inl (-1))) hR ha
      refine ⟨S2, j1, jq, ce_by tl_X12_whom (fun kk => sg_X12_whom_12 a p (m2 acc).1 (m2 acc).2 (nI (w_n w - (m + 1))) z6 S kk) ?_⟩
      simp only [if_neg ho, if_neg h1, e2, if_neg hin, h26, q_add_eq, e1]
      exact ce_kk_of j2
theorem m_whom {w : sp_W} {S : ce_S} (hR : MR w S) (a p : Int32) : ∃ S', F_X12_whom [.inr (.inl (20, 0)), .inl a, .inl p] S = some (s_whom w a p, S') ∧ MR w S' ∧ cEq S S' := by
  unfold s_whom
  by_cases h : isR a p
  · obtain ⟨S1, j1, jq, j2⟩ := m_whom12 (w := w) h (w_n w) (Nat.le_refl _) none S none hR (fun b hb => by cases hb)
    rw [Nat.sub_self] at j2
    refine ⟨S1, fI_by tl_X12_whom (gd_r rfl rfl) (fun kk => sg_X12_whom_0 a p S kk) ?_, j1, cEq_mq jq⟩
    simp only [m_isR1 S h, Option.bind_some, i_10, if_false, if_pos h]
    exact ce_kk_of j2
  · refine ⟨S, fI_by tl_X12_whom (gd_r rfl rfl) (fun kk => sg_X12_whom_0 a p S kk) ?_, hR, cEq_refl S⟩
    simp only [m_isR0 S h, Option.bind_some, if_true, if_neg h]
theorem m_all17 {w : sp_W} {a p : Int32} (y : Int32) (hp : isR a p) : ∀ m, m ≤ w_n w → ∀ (acc : Int32 × Int32) (S : ce_S), MR w S → (acc.1 = -1 ∨ 0 ≤ acc.1) → ∃ S1, MR w S1 ∧ mq S S1 ∧ ce_Ev tb_X12_allInTurn 17 (0, 0) [some (.inr (.inl (20, 0))), some (.inl a), some (.inl p), some (.inl y), some (.inl acc.2), some (.inl acc.1), some (.inl (nI (w_n w - m)))] [] S (some (.inl (if y = 0 then (sp_all (w_E w) (w_r w) a p (w_n w) m acc).1 else (sp_all (w_E w) (w_r w) a p (w_n w) m acc).2)), S1) := by
  intro m
  induction m with
  | zero =>
    intro _ acc S hR _
    refine ⟨S, hR, mq_refl S, ce_by tl_X12_allInTurn (fun kk => sg_X12_allInTurn_17 a p y acc.2 acc.1 (nI (w_n w - 0)) S kk) ?_⟩
    have h1 : ce_I S 20 7 0 ≤ nI (w_n w - 0) := by rw [hR.1.1.1]; exact Int32.le_refl _
    rw [if_pos h1]
    unfold sp_all
    by_cases y0 : y = 0
    · simp only [if_pos y0]
    · simp only [if_neg y0]
  | succ m ih =>
    intro hm acc S hR ha
    obtain ⟨hM, hf⟩ := id hR
    have hn : w_n w ≤ 6 := hM.1.2
    have hi : w_n w - (m + 1) < w_n w := by omega
    have e2 : (nI (w_n w - (m + 1))).toNatClampNeg = w_n w - (m + 1) := nI_clamp (by omega)
    have hin : ¬ (nI (w_n w - (m + 1)) < 0 ∨ 6 ≤ w_n w - (m + 1)) := nJ_in (by omega) (by decide)
    have h1 : ¬ ce_I S 20 7 0 ≤ nI (w_n w - (m + 1)) := by rw [hM.1.1, nJ_le (by omega) (by omega)]; omega
    have e1 : nI (w_n w - (m + 1)) + 1 = nI (w_n w - m) := by rw [nJ_succ, show w_n w - (m + 1) + 1 = w_n w - m by omega]
    have h26 : ce_A S 26 0 (w_n w - (m + 1)) = sp_st (w_r w (w_n w - (m + 1))) := (hf _ hi).1.2.2.2.2.2.1
    by_cases hfd : acc.1 = -1
    · have hfd' : ¬ (0 : Int32) ≤ acc.1 := by rw [hfd]; decide
      unfold sp_all
      by_cases ho : sp_st (w_r w (w_n w - (m + 1))) = 0
      · obtain ⟨S1, t1, t2, t3, t4, t5, t6, t7⟩ := m_thinks hM hf hi hp 0
        simp only [if_true] at t1 t5 t6 t7
        have hrok : rok (sp_go (w_E w) (w_r w (w_n w - (m + 1))) a p) := rok_go hp (MX_lim hM) (hf _ hi).2
        have h25 : ce_A S1 25 0 (w_n w - (m + 1)) = sp_cu (w_r w (w_n w - (m + 1))) := (t3 _ hi).1.2.2.2.2.1
        obtain ⟨S2, j1, jq, j2⟩ := ih (by omega) (sp_pr (sp_go (w_E w) (w_r w (w_n w - (m + 1))) a p), acc.2 + (sp_cu (sp_go (w_E w) (w_r w (w_n w - (m + 1))) a p) - sp_cu (w_r w (w_n w - (m + 1))))) S1 ⟨MX_mq hM t2, t3⟩ (by
          by_cases c : sp_st (sp_go (w_E w) (w_r w (w_n w - (m + 1))) a p) = 1
          · exact Or.inr (hrok.2.2.1 c).1
          · exact Or.inl (hrok.2.2.2 c))
        refine ⟨S2, j1, mq_trans t2 jq, ce_by tl_X12_allInTurn (fun kk => sg_X12_allInTurn_17 a p y acc.2 acc.1 (nI (w_n w - (m + 1))) S kk) ?_⟩
        simp only [if_neg h1, if_neg hfd', if_pos hfd, e2, if_neg hin, h26, if_pos ho, t1, Option.bind_some, t7, h25, q_add_eq, q_sub_eq, e1]
        exact ce_kk_of j2
      · obtain ⟨S2, j1, jq, j2⟩ := ih (by omega) acc S hR ha
        refine ⟨S2, j1, jq, ce_by tl_X12_allInTurn (fun kk => sg_X12_allInTurn_17 a p y acc.2 acc.1 (nI (w_n w - (m + 1))) S kk) ?_⟩
        simp only [if_neg h1, if_neg hfd', if_pos hfd, e2, if_neg hin, h26, if_neg ho, q_add_eq, e1]
        exact ce_kk_of j2
    · have hfd' : (0 : Int32) ≤ acc.1 := by rcases ha with q | q; exact absurd q hfd; exact q
      refine ⟨S, hR, mq_refl S, ce_by tl_X12_allInTurn (fun kk => sg_X12_allInTurn_17 a p y acc.2 acc.1 (nI (w_n w - (m + 1))) S kk) ?_⟩
      rw [sp_all_stop _ _ _ _ _ _ _ hfd]
      simp only [if_neg h1, if_pos hfd']
      by_cases y0 : y = 0
      · simp only [if_pos y0]
      · simp only [if_neg y0]
theorem m_all {w : sp_W} {S : ce_S} (hR : MR w S) (a p y : Int32) : ∃ S', F_X12_allInTurn [.inr (.inl (20, 0)), .inl a, .inl p, .inl y] S = some (s_all w a p y, S') ∧ MR w S' ∧ cEq S S' := by
  unfold s_all
  by_cases h2 : isR a p
  · by_cases h3 : 0 ≤ y ∧ y ≤ 1
    · obtain ⟨S1, j1, jq, j2⟩ := m_all17 (w := w) y h2 (w_n w) (Nat.le_refl _) (-1, 0) S hR (Or.inl rfl)
      rw [Nat.sub_self] at j2
      refine ⟨S1, fI_by tl_X12_allInTurn (gd_r rfl rfl) (fun kk => sg_X12_allInTurn_0 a p y S kk) ?_, j1, cEq_mq jq⟩
      rw [if_pos (show isR a p ∧ 0 ≤ y ∧ y ≤ 1 from ⟨h2, h3⟩)]
      simp only [m_isR1 S h2, f_isIn1 S h3, Option.bind_some, i_10, if_false]
      exact ce_kk_of j2
    · refine ⟨S, fI_by tl_X12_allInTurn (gd_r rfl rfl) (fun kk => sg_X12_allInTurn_0 a p y S kk) ?_, hR, cEq_refl S⟩
      rw [if_neg (show ¬ (isR a p ∧ 0 ≤ y ∧ y ≤ 1) from fun q => h3 q.2)]
      simp only [m_isR1 S h2, f_isIn0 S h3, Option.bind_some, i_10, if_false, if_true]
  · refine ⟨S, fI_by tl_X12_allInTurn (gd_r rfl rfl) (fun kk => sg_X12_allInTurn_0 a p y S kk) ?_, hR, cEq_refl S⟩
    rw [if_neg (show ¬ (isR a p ∧ 0 ≤ y ∧ y ≤ 1) from fun q => h2 q.1)]
    simp only [m_isR0 S h2, Option.bind_some, if_true]
theorem cEq_sA2 (S : ce_S) (t e : Nat) (v : Int32) (h : 20 ≤ t) : cEq S (ce_sA S t 0 e v) := cEq_sA S t 0 e v h
theorem m_slipped {w : sp_W} {S : ce_S} (hR : MR w S) (x a p : Int32) : ∃ S', F_X12_slipped [.inr (.inl (20, 0)), .inl x, .inl a, .inl p] S = some (s_slipped w x a p, S') ∧ MR w S' ∧ cEq S S' := by
  obtain ⟨hM, hf⟩ := id hR
  unfold s_slipped
  by_cases h1 : isS w x
  · by_cases h2 : isR a p
    · obtain ⟨s, hs, h6, rfl, e2, hin, hsel⟩ := m_sel hM h1
      have o1 : mq S (ce_sA S 21 0 s (nI 3)) := mq_sA S 21 0 s _ (by decide)
      have hf1 : MSr (w_n w) (w_put (w_r w) s (sp_wk (w_r w s) 3)) (ce_sA S 21 0 s (nI 3)) := by
        intro i hi
        unfold w_put
        by_cases q : i = s
        · subst q; rw [if_pos rfl]; exact ⟨mr_21 (hf i hi).1 3, by show 3 < 6; decide, (hf i hi).2.2⟩
        · rw [if_neg q]; exact ⟨mr_ne (hf i hi).1 _ q, (hf i hi).2⟩
      obtain ⟨S1, t1, t2, t3, t4, t5, t6, t7⟩ := m_thinks (MX_mq hM o1) hf1 hs h2 1
      have hput : w_put (w_r w) s (sp_wk (w_r w s) 3) s = sp_wk (w_r w s) 3 := by unfold w_put; rw [if_pos rfl]
      simp only [if_neg (show ¬ ((1 : Int32) = 0) by decide), hput] at t1
      have o2 : mq S1 (ce_sA S1 21 0 s (nI (sp_k (w_r w s)))) := mq_sA S1 21 0 s _ (by decide)
      have hf2 : MSr (w_n w) (w_r w) (ce_sA S1 21 0 s (nI (sp_k (w_r w s)))) := by
        intro i hi
        have := t3 i hi
        unfold w_put at this
        by_cases q : i = s
        · subst q
          rw [if_pos rfl] at this
          exact ⟨mr_21 this.1 (sp_k (w_r w i)), (hf i hi).2⟩
        · rw [if_neg q] at this
          exact ⟨mr_ne this.1 _ q, (hf i hi).2⟩
      refine ⟨ce_sA S1 21 0 s (nI (sp_k (w_r w s))), fI_by tl_X12_slipped (gd_r rfl rfl) (fun kk => sg_X12_slipped_0 (nI s) a p S kk) ?_, ⟨MX_mq hM (mq_trans o1 (mq_trans t2 o2)), hf2⟩, cEq_mq (mq_trans o1 (mq_trans t2 o2))⟩
      rw [if_pos (show isS w (nI s) ∧ isR a p from ⟨h1, h2⟩), hsel]
      have h21 : ce_A S 21 0 s = nI (sp_k (w_r w s)) := (hf s hs).1.1
      simp only [m_isS1 hM h1, m_isR1 S h2, Option.bind_some, i_10, if_false, e2, if_neg hin, h21]
      rw [show ce_sA S 21 0 s 3 = ce_sA S 21 0 s (nI 3) from rfl, t1]
      rfl
    · refine ⟨S, fI_by tl_X12_slipped (gd_r rfl rfl) (fun kk => sg_X12_slipped_0 x a p S kk) ?_, hR, cEq_refl S⟩
      rw [if_neg (show ¬ (isS w x ∧ isR a p) from fun q => h2 q.2)]
      simp only [m_isS1 hM h1, m_isR0 S h2, Option.bind_some, i_10, if_false, if_true]
  · refine ⟨S, fI_by tl_X12_slipped (gd_r rfl rfl) (fun kk => sg_X12_slipped_0 x a p S kk) ?_, hR, cEq_refl S⟩
    rw [if_neg (show ¬ (isS w x ∧ isR a p) from fun q => h1 q.1)]
    simp only [m_isS0 hM h1, Option.bind_some, if_true]
theorem m_at8 {w : sp_W} {a p y : Int32} (hp : isR a p) (y0 : y = 0) {s : Nat} (hs : s < w_n w) (old : Int32) (hold : old = w_sh w) : ∀ m, m ≤ 10 → ∀ (acc : sp_D) (S : ce_S) (v : Int32) (z9 : Option ce_V), MR (w_setc w (w_ru w, v, w_ho w, w_li w)) S → m2ok acc → ∃ S1, MR w S1 ∧ cEq S S1 ∧ ce_Ev tb_X12_bestAt 29 (0, 0) [some (.inr (.inl (20, 0))), some (.inl (nI s)), some (.inl a), some (.inl p), some (.inl y), some (.inl old), some (.inl (m2 acc).1), some (.inl (m2 acc).2), some (.inl (nI (10 - m))), z9] [] S (some (.inl (sp_1 (sp_bat (w_E w) (w_r w s) a p y 10 m acc))), S1) := by
  intro m
  induction m with
  | zero =>
    intro _ acc S v z9 hR ha
    have hM2 := MX_8 hR.1 old
    refine ⟨ce_sI S 20 8 0 old, ⟨?_, hR.2⟩, cEq_20 _ _ _ _, ce_by tl_X12_bestAt (fun kk => sg_X12_bestAt_29 (nI s) a p y old (m2 acc).1 (m2 acc).2 (nI (10 - 0)) z9 S kk) ?_⟩
    · rw [hold] at hM2 ⊢; exact hM2
    · have h1 : (10 : Int32) ≤ nI (10 - 0) := by decide
      simp only [if_pos y0, if_pos h1]
      unfold sp_bat
      rw [sp_1_m2]
  | succ m ih =>
    intro hm acc S v z9 hR ha
    have h1 : ¬ (10 : Int32) ≤ nI (10 - (m + 1)) := by rw [show (10 : Int32) = nI 10 from rfl, nJ_le (by omega) (by omega)]; omega
    have e1 : nI (10 - (m + 1)) + 1 = nI (10 - m) := by rw [nJ_succ, show 10 - (m + 1) + 1 = 10 - m by omega]
    have hv : ¬ nI (10 - (m + 1)) < 0 := nI_nn _ (by omega)
    have hM2 : MX (w_setc w (w_ru w, (nI (10 - (m + 1))), w_ho w, w_li w)) (ce_sI S 20 8 0 (nI (10 - (m + 1)))) := MX_8 hR.1 (nI (10 - (m + 1)))
    have hf2 : MSr (w_n w) (w_r w) (ce_sI S 20 8 0 (nI (10 - (m + 1)))) := hR.2
    obtain ⟨S1, t1, t2, t3, t4, t5, t6, t7⟩ := m_thinks hM2 hf2 hs hp 1
    have hE : sp_Ew (w_E w) y (nI (10 - (m + 1))) = w_E (w_setc w (w_ru w, (nI (10 - (m + 1))), w_ho w, w_li w)) := by
      unfold sp_Ew
      rw [if_pos y0]; rfl
    simp only [if_neg (show ¬ ((1 : Int32) = 0) by decide)] at t1
    rw [← hE] at t1
    have hrok : rok (sp_go (sp_Ew (w_E w) y (nI (10 - (m + 1)))) (sp_beg (sp_Ew (w_E w) y (nI (10 - (m + 1)))) (w_r w s)) a p) := by
      refine rok_go hp ?_ (rok_beg _ (hR.2 s hs).2.1)
      rw [hE]
      exact MX_lim hM2
    obtain ⟨S2, j1, jq, j2⟩ := ih (by omega) (sp_bed acc (sp_go (sp_Ew (w_E w) y (nI (10 - (m + 1)))) (sp_beg (sp_Ew (w_E w) y (nI (10 - (m + 1)))) (w_r w s)) a p) (nI (10 - (m + 1)))) S1 (nI (10 - (m + 1))) (some (.inl (sp_pr (sp_go (sp_Ew (w_E w) y (nI (10 - (m + 1)))) (sp_beg (sp_Ew (w_E w) y (nI (10 - (m + 1)))) (w_r w s)) a p)))) ⟨MX_mq hM2 t2, t3⟩ (m2ok_bed _ ha hv)
    refine ⟨S2, j1, cEq_trans (cEq_trans (cEq_20 _ _ _ _) (cEq_mq t2)) jq, ce_by tl_X12_bestAt (fun kk => sg_X12_bestAt_29 (nI s) a p y old (m2 acc).1 (m2 acc).2 (nI (10 - (m + 1))) z9 S kk) ?_⟩
    simp only [if_pos y0, if_neg h1, t1, Option.bind_some, q_add_eq, e1]
    unfold sp_bat
    generalize sp_go (sp_Ew (w_E w) y (nI (10 - (m + 1)))) (sp_beg (sp_Ew (w_E w) y (nI (10 - (m + 1)))) (w_r w s)) a p = r at j2 hrok ⊢
    unfold sp_bed at j2 ⊢
    rcases rok_pr hrok with ⟨hst, hpr⟩ | ⟨hst, hpr⟩
    · simp only [if_pos hst] at j2 ⊢
      simp only [if_neg hpr]
      cases acc with
      | none =>
        rw [if_pos (show (m2 none).1 < 0 by decide)]
        exact ce_kk_of j2
      | some b =>
        rw [if_neg (show ¬ (m2 (some b)).1 < 0 from ha b rfl)]
        by_cases c1 : sp_pr r < b.2
        · rw [if_pos (show sp_pr r < (m2 (some b)).2 from c1)]
          simp only [if_pos c1] at j2 ⊢
          exact ce_kk_of j2
        · rw [if_neg (show ¬ sp_pr r < (m2 (some b)).2 from c1)]
          simp only [if_neg c1] at j2 ⊢
          exact ce_kk_of j2
    · simp only [if_neg hst] at j2 ⊢
      simp only [if_pos hpr]
      exact ce_kk_of j2
theorem m_at9 {w : sp_W} {a p y : Int32} (hp : isR a p) (y0 : ¬ y = 0) {s : Nat} (hs : s < w_n w) (old : Int32) (hold : old = w_ho w) : ∀ m, m ≤ 24 → ∀ (acc : sp_D) (S : ce_S) (v : Int32) (z9 : Option ce_V), MR (w_setc w (w_ru w, w_sh w, v, w_li w)) S → m2ok acc → ∃ S1, MR w S1 ∧ cEq S S1 ∧ ce_Ev tb_X12_bestAt 29 (0, 0) [some (.inr (.inl (20, 0))), some (.inl (nI s)), some (.inl a), some (.inl p), some (.inl y), some (.inl old), some (.inl (m2 acc).1), some (.inl (m2 acc).2), some (.inl (nI (24 - m))), z9] [] S (some (.inl (sp_1 (sp_bat (w_E w) (w_r w s) a p y 24 m acc))), S1) := by
  intro m
  induction m with
  | zero =>
    intro _ acc S v z9 hR ha
    have hM2 := MX_9 hR.1 old
    refine ⟨ce_sI S 20 9 0 old, ⟨?_, hR.2⟩, cEq_20 _ _ _ _, ce_by tl_X12_bestAt (fun kk => sg_X12_bestAt_29 (nI s) a p y old (m2 acc).1 (m2 acc).2 (nI (24 - 0)) z9 S kk) ?_⟩
    · rw [hold] at hM2 ⊢; exact hM2
    · have h1 : (24 : Int32) ≤ nI (24 - 0) := by decide
      simp only [if_neg y0, if_pos h1]
      unfold sp_bat
      rw [sp_1_m2]
  | succ m ih =>
    intro hm acc S v z9 hR ha
    have h1 : ¬ (24 : Int32) ≤ nI (24 - (m + 1)) := by rw [show (24 : Int32) = nI 24 from rfl, nJ_le (by omega) (by omega)]; omega
    have e1 : nI (24 - (m + 1)) + 1 = nI (24 - m) := by rw [nJ_succ, show 24 - (m + 1) + 1 = 24 - m by omega]
    have hv : ¬ nI (24 - (m + 1)) < 0 := nI_nn _ (by omega)
    have hM2 : MX (w_setc w (w_ru w, w_sh w, (nI (24 - (m + 1))), w_li w)) (ce_sI S 20 9 0 (nI (24 - (m + 1)))) := MX_9 hR.1 (nI (24 - (m + 1)))
    have hf2 : MSr (w_n w) (w_r w) (ce_sI S 20 9 0 (nI (24 - (m + 1)))) := hR.2
    obtain ⟨S1, t1, t2, t3, t4, t5, t6, t7⟩ := m_thinks hM2 hf2 hs hp 1
    have hE : sp_Ew (w_E w) y (nI (24 - (m + 1))) = w_E (w_setc w (w_ru w, w_sh w, (nI (24 - (m + 1))), w_li w)) := by
      unfold sp_Ew
      rw [if_neg y0]; rfl
    simp only [if_neg (show ¬ ((1 : Int32) = 0) by decide)] at t1
    rw [← hE] at t1
    have hrok : rok (sp_go (sp_Ew (w_E w) y (nI (24 - (m + 1)))) (sp_beg (sp_Ew (w_E w) y (nI (24 - (m + 1)))) (w_r w s)) a p) := by
      refine rok_go hp ?_ (rok_beg _ (hR.2 s hs).2.1)
      rw [hE]
      exact MX_lim hM2
    obtain ⟨S2, j1, jq, j2⟩ := ih (by omega) (sp_bed acc (sp_go (sp_Ew (w_E w) y (nI (24 - (m + 1)))) (sp_beg (sp_Ew (w_E w) y (nI (24 - (m + 1)))) (w_r w s)) a p) (nI (24 - (m + 1)))) S1 (nI (24 - (m + 1))) (some (.inl (sp_pr (sp_go (sp_Ew (w_E w) y (nI (24 - (m + 1)))) (sp_beg (sp_Ew (w_E w) y (nI (24 - (m + 1)))) (w_r w s)) a p)))) ⟨MX_mq hM2 t2, t3⟩ (m2ok_bed _ ha hv)
    refine ⟨S2, j1, cEq_trans (cEq_trans (cEq_20 _ _ _ _) (cEq_mq t2)) jq, ce_by tl_X12_bestAt (fun kk => sg_X12_bestAt_29 (nI s) a p y old (m2 acc).1 (m2 acc).2 (nI (24 - (m + 1))) z9 S kk) ?_⟩
    simp only [if_neg y0, if_neg h1, t1, Option.bind_some, q_add_eq, e1]
    unfold sp_bat
    generalize sp_go (sp_Ew (w_E w) y (nI (24 - (m + 1)))) (sp_beg (sp_Ew (w_E w) y (nI (24 - (m + 1)))) (w_r w s)) a p = r at j2 hrok ⊢
    unfold sp_bed at j2 ⊢
    rcases rok_pr hrok with ⟨hst, hpr⟩ | ⟨hst, hpr⟩
    · simp only [if_pos hst] at j2 ⊢
      simp only [if_neg hpr]
      cases acc with
      | none =>
        rw [if_pos (show (m2 none).1 < 0 by decide)]
        exact ce_kk_of j2
      | some b =>
        rw [if_neg (show ¬ (m2 (some b)).1 < 0 from ha b rfl)]
        by_cases c1 : sp_pr r < b.2
        · rw [if_pos (show sp_pr r < (m2 (some b)).2 from c1)]
          simp only [if_pos c1] at j2 ⊢
          exact ce_kk_of j2
        · rw [if_neg (show ¬ sp_pr r < (m2 (some b)).2 from c1)]
          simp only [if_neg c1] at j2 ⊢
          exact ce_kk_of j2
    · simp only [if_neg hst] at j2 ⊢
      simp only [if_pos hpr]
      exact ce_kk_of j2
theorem m_bestAt {w : sp_W} {S : ce_S} (hR : MR w S) (x a p y : Int32) : ∃ S', F_X12_bestAt [.inr (.inl (20, 0)), .inl x, .inl a, .inl p, .inl y] S = some (s_bestAt w x a p y, S') ∧ MR w S' ∧ cEq S S' := by
  obtain ⟨hM, hf⟩ := id hR
  unfold s_bestAt
  by_cases h1 : isS w x
  · by_cases h2 : isR a p
    · by_cases h3 : 0 ≤ y ∧ y ≤ 1
      · obtain ⟨s, hs, h6, rfl, e2, hin, hsel⟩ := m_sel hM h1
        rw [if_pos (show isS w (nI s) ∧ isR a p ∧ 0 ≤ y ∧ y ≤ 1 from ⟨h1, h2, h3⟩), hsel]
        by_cases y0 : y = 0
        · obtain ⟨S1, j1, jq, j2⟩ := m_at8 (w := w) h2 y0 hs (w_sh w) rfl 10 (Nat.le_refl _) none S (w_sh w) none hR (fun b hb => by cases hb)
          rw [if_pos y0]
          refine ⟨S1, fI_by tl_X12_bestAt (gd_r rfl rfl) (fun kk => sg_X12_bestAt_0 (nI s) a p y S kk) ?_, j1, jq⟩
          simp only [m_isS1 hM h1, m_isR1 S h2, f_isIn1 S h3, Option.bind_some, i_10, if_false, if_pos y0, hM.2.1.1]
          exact ce_kk_of j2
        · obtain ⟨S1, j1, jq, j2⟩ := m_at9 (w := w) h2 y0 hs (w_ho w) rfl 24 (Nat.le_refl _) none S (w_ho w) none hR (fun b hb => by cases hb)
          rw [if_neg y0]
          refine ⟨S1, fI_by tl_X12_bestAt (gd_r rfl rfl) (fun kk => sg_X12_bestAt_0 (nI s) a p y S kk) ?_, j1, jq⟩
          simp only [m_isS1 hM h1, m_isR1 S h2, f_isIn1 S h3, Option.bind_some, i_10, if_false, if_neg y0, hM.2.1.2.1]
          exact ce_kk_of j2
      · refine ⟨S, fI_by tl_X12_bestAt (gd_r rfl rfl) (fun kk => sg_X12_bestAt_0 x a p y S kk) ?_, hR, cEq_refl S⟩
        rw [if_neg (show ¬ (isS w x ∧ isR a p ∧ 0 ≤ y ∧ y ≤ 1) from fun q => h3 q.2.2)]
        simp only [m_isS1 hM h1, m_isR1 S h2, f_isIn0 S h3, Option.bind_some, i_10, if_false, if_true]
    · refine ⟨S, fI_by tl_X12_bestAt (gd_r rfl rfl) (fun kk => sg_X12_bestAt_0 x a p y S kk) ?_, hR, cEq_refl S⟩
      rw [if_neg (show ¬ (isS w x ∧ isR a p ∧ 0 ≤ y ∧ y ≤ 1) from fun q => h2 q.2.1)]
      simp only [m_isS1 hM h1, m_isR0 S h2, Option.bind_some, i_10, if_false, if_true]
  · refine ⟨S, fI_by tl_X12_bestAt (gd_r rfl rfl) (fun kk => sg_X12_bestAt_0 x a p y S kk) ?_, hR, cEq_refl S⟩
    rw [if_neg (show ¬ (isS w x ∧ isR a p ∧ 0 ≤ y ∧ y ≤ 1) from fun q => h1 q.1)]
    simp only [m_isS0 hM h1, Option.bind_some, if_true]
