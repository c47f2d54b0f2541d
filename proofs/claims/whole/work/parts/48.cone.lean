/-! the component's methods, the plain ones -/
theorem i_10 : ((1 : Int32) = 0) = False := by simp
theorem k3_eq (e : Nat) : ce_k3 e = 3 * e := rfl
theorem k31_eq (e : Nat) : ce_k31 e = 3 * e + 1 := rfl
theorem k32_eq (e : Nat) : ce_k32 e = 3 * e + 2 := rfl
theorem i_not_lt {a b : Int32} (h : ¬ a < b) : b ≤ a := by rw [i_lt] at h; rw [i_le]; omega
theorem i_not_le {a b : Int32} (h : ¬ a ≤ b) : b < a := by rw [i_le] at h; rw [i_lt]; omega
theorem i_lt_not {a b : Int32} (h : a < b) : ¬ b ≤ a := by rw [i_lt] at h; rw [i_le]; omega
theorem i_le_not {a b : Int32} (h : a ≤ b) : ¬ b < a := by rw [i_le] at h; rw [i_lt]; omega
/-- an int within bounds is a Nat -/
theorem i_nat {x : Int32} {n : Nat} (hn : n < 2 ^ 31) (h : 0 ≤ x ∧ x < nI n) : ∃ s, s < n ∧ x = nI s ∧ x.toNatClampNeg = s := by
  refine ⟨x.toNatClampNeg, clamp_lt hn h.1 h.2, nJ_of h.1, rfl⟩
theorem c_isS1 {w : sp_W} {S : ce_S} (hC : CR w S) {x : Int32} (h : isS w x) : F_X11_isSeller [.inr (.inl (0, 0)), .inl x] S = some (1, S) := by
  refine fI_by tl_X11_isSeller (gd_r rfl rfl) (fun kk => sg_X11_isSeller_0 x S kk) ?_
  have hn : w_n w ≤ 6 := hC.1.2
  have h3 : ¬ (6 : Int32) ≤ x := by
    obtain ⟨s, hs, e, _⟩ := i_nat (by omega) h
    rw [e, show (6 : Int32) = nI 6 from rfl, nJ_le (by omega) (by omega)]; omega
  simp only [hC.1.1, if_neg (i_le_not h.1), if_neg (i_lt_not h.2), if_neg h3]
theorem c_isS0 {w : sp_W} {S : ce_S} (hC : CR w S) {x : Int32} (h : ¬ isS w x) : F_X11_isSeller [.inr (.inl (0, 0)), .inl x] S = some (0, S) := by
  refine fI_by tl_X11_isSeller (gd_r rfl rfl) (fun kk => sg_X11_isSeller_0 x S kk) ?_
  simp only [hC.1.1]
  by_cases h1 : x < 0
  · simp only [if_pos h1]
  · have h2 : nI (w_n w) ≤ x := by
      by_cases q : nI (w_n w) ≤ x
      · exact q
      · exact absurd ⟨i_not_lt h1, i_not_le q⟩ h
    simp only [if_neg h1, if_pos h2]
theorem c_isR1 {a p : Int32} (S : ce_S) (h : isR a p) : F_X11_isRule [.inl a, .inl p] S = some (1, S) := by
  rw [f_isRule, decide_eq_true h]; rfl
theorem c_isR0 {a p : Int32} (S : ce_S) (h : ¬ isR a p) : F_X11_isRule [.inl a, .inl p] S = some (0, S) := by
  rw [f_isRule, decide_eq_false h]; rfl
theorem c_is41 {x : Int32} (S : ce_S) (h : is4 x) : F_X11_isSheet [.inl x] S = some (1, S) := by
  rw [f_isSheet, decide_eq_true h]; rfl
theorem c_is40 {x : Int32} (S : ce_S) (h : ¬ is4 x) : F_X11_isSheet [.inl x] S = some (0, S) := by
  rw [f_isSheet, decide_eq_false h]; rfl
theorem c_isB1 {x : Int32} (S : ce_S) (h : isB x) : F_X11_isBid [.inl x] S = some (1, S) := by
  rw [f_isBid, decide_eq_true h]; rfl
theorem c_isB0 {x : Int32} (S : ce_S) (h : ¬ isB x) : F_X11_isBid [.inl x] S = some (0, S) := by
  rw [f_isBid, decide_eq_false h]; rfl
/-- a seller's place -/
theorem c_sel {w : sp_W} {S : ce_S} (hC : CR w S) {x : Int32} (h : isS w x) : ∃ s, s < w_n w ∧ s < 6 ∧ x = nI s ∧ x.toNatClampNeg = s ∧ ¬ (x < 0 ∨ 6 ≤ s) ∧ w_sel w x = w_r w s ∧ rc S (3 * s) = w_r w s := by
  have hn : w_n w ≤ 6 := hC.1.2
  obtain ⟨s, hs, e, e2⟩ := i_nat (by omega) h
  refine ⟨s, hs, by omega, e, e2, ?_, ?_, (hC.2.1 s hs).1⟩
  · rw [e]; exact nJ_in (by omega) (by decide)
  · unfold w_sel; rw [e2]
/-! a seller's record is put: the state stands so -/
theorem CR_put {w : sp_W} {S : ce_S} (hC : CR w S) (s : Nat) (hs : s < w_n w) (r : sp_R) (hk : sp_k r = sp_k (w_r w s)) : CR (w_set w s r) (wS S (3 * s) r) := by
  obtain ⟨⟨n1, n2⟩, hr, ⟨c1, c2, c3, c4, c5⟩, ⟨t1, t2, t3, t4, t5⟩, ⟨p1, p2, p3⟩, hh, ⟨i1, i2⟩⟩ := hC
  have hI : ∀ t k i, t ≠ 11 → ce_I (wS S (3 * s) r) t k i = ce_I S t k i := fun t k i h => wS_I _ _ _ _ _ _ h
  have hR : ∀ t k i, t ≠ 11 → ce_R (wS S (3 * s) r) t k i = ce_R S t k i := fun t k i h => wS_R _ _ _ _ _ _ h
  refine ⟨⟨(hI 0 6 0 (by decide)).trans n1, n2⟩, fun i hi => ?_, ⟨(hI _ _ _ (by decide)).trans c1, (hI _ _ _ (by decide)).trans c2, (hI _ _ _ (by decide)).trans c3, (hI _ _ _ (by decide)).trans c4, (hR _ _ _ (by decide)).trans c5⟩, ⟨(hI _ _ _ (by decide)).trans t1, t2, t3, t4, fun k hk => ?_⟩, ⟨(hI _ _ _ (by decide)).trans p1, p2, p3⟩, fun i hi => ?_, ?_, ?_⟩
  · show rc (wS S (3 * s) r) (3 * i) = w_put (w_r w) s r i ∧ ce_I (wS S (3 * s) r) 11 1 (3 * i) = nI (sp_k (w_put (w_r w) s r i))
    rw [wS_I1]
    unfold w_put
    by_cases e : i = s
    · subst e; rw [rc_wS, if_pos rfl, hk]; exact ⟨rfl, (hr i hi).2⟩
    · rw [rc_wS_ne _ _ _ _ (by omega), if_neg e]; exact hr i hi
  · rw [txok_wS, txt_wS]; exact t5 k hk
  · rw [hI _ _ _ (by decide), hI _ _ _ (by decide)]; exact hh i hi
  · intro e; rw [hI _ _ _ (by decide)]; exact i1 e
  · intro m f c e
    obtain ⟨a1, a2, a3, a4, a5, a6, a7, a8, a9⟩ := i2 m f c e
    refine ⟨(hI _ _ _ (by decide)).trans a1, a2, fun i hi => ?_, (hI _ _ _ (by decide)).trans a4, (hI _ _ _ (by decide)).trans a5, (hI _ _ _ (by decide)).trans a6, (hI _ _ _ (by decide)).trans a7, (hR _ _ _ (by decide)).trans a8, a9⟩
    rw [rc_wS_ne _ _ _ _ (by omega)]; exact a3 i hi
theorem k_beg (E : sp_E) (r : sp_R) : sp_k (sp_beg E r) = sp_k r := rfl
theorem k_sell (r : sp_R) (x : Int32) : sp_k (sp_sell r x) = sp_k r := rfl
theorem CR_tA {w : sp_W} {S : ce_S} (hC : CR w S) (f : Nat → Nat → Int32) : CR w (ce_tA S 17 f) := CR_qt hC (qt_tA S f)
theorem c_anew {w : sp_W} {S : ce_S} (hC : CR w S) (x : Int32) : ∃ S', F_X11_anew [.inr (.inl (0, 0)), .inl x] S = some ((s_anew w x).1, S') ∧ CR (s_anew w x).2 S' ∧ mEq S S' := by
  unfold s_anew
  by_cases h : isS w x
  · obtain ⟨s, hs, h6, e, e2, hin, hsel, hrc⟩ := c_sel hC h
    obtain ⟨f, hb⟩ := f_begin S (3 * s) 0 (CR_ok hC)
    rw [CR_E hC, hrc] at hb
    refine ⟨ce_tA (wS S (3 * s) (sp_beg (w_E w) (w_r w s))) 17 f, ?_, ?_, ?_⟩
    · refine fI_by tl_X11_anew (gd_r rfl rfl) (fun kk => sg_X11_anew_0 x S kk) ?_
      simp only [c_isS1 hC h, Option.bind_some, i_10, if_false, e2, if_neg hin, k3_eq, hb, r_I_tA, wS_r4, if_pos h, hsel]
    · simp only [if_pos h, e2, hsel]
      exact CR_tA (CR_put hC s hs (sp_beg (w_E w) (w_r w s)) (k_beg _ _)) f
    · exact mEq_trans (mEq_wS _ _ _) (mEq_tA _ _ _ (by decide))
  · refine ⟨S, ?_, ?_, mEq_refl S⟩
    · refine fI_by tl_X11_anew (gd_r rfl rfl) (fun kk => sg_X11_anew_0 x S kk) ?_
      simp only [c_isS0 hC h, Option.bind_some, if_true, if_neg h]
    · simp only [if_neg h]; exact hC
theorem c_told {w : sp_W} {S : ce_S} (hC : CR w S) (x y : Int32) : ∃ S', F_X11_told [.inr (.inl (0, 0)), .inl x, .inl y] S = some (s_told w x y, S') ∧ qt S S' := by
  unfold s_told
  by_cases h : isS w x
  · obtain ⟨s, hs, h6, e, e2, hin, hsel, hrc⟩ := c_sel hC h
    obtain ⟨f, hb⟩ := f_least S 0 (3 * s) 0 (CR_ok hC)
    rw [CR_E hC, hrc] at hb
    have h1 : ce_I S 11 1 (3 * s) = nI (sp_k (w_r w s)) := (hC.2.1 s hs).2
    by_cases h7 : y = 7
    · refine ⟨ce_tA S 17 f, ?_, qt_tA S f⟩
      refine fI_by tl_X11_told (gd_r rfl rfl) (fun kk => sg_X11_told_0 x y S kk) ?_
      subst h7
      simp only [c_isS1 hC h, Option.bind_some, i_10, if_false, e2, if_neg hin, k3_eq, hb, if_pos h, hsel]
      rfl
    · refine ⟨S, ?_, qt_refl S⟩
      refine fI_by tl_X11_told (gd_r rfl rfl) (fun kk => sg_X11_told_0 x y S kk) ?_
      simp only [c_isS1 hC h, Option.bind_some, i_10, if_false, e2, if_neg hin, k3_eq, if_pos h, hsel, if_neg h7, f_stays, h1, rc_2, rc_3, rc_4, rc_5, rc_6, rc_7, rc_0, hrc]
      by_cases g0 : y = 0
      · simp only [if_pos g0]
      by_cases g1 : y = 1
      · simp only [if_neg g0, if_pos g1]
      by_cases g2 : y = 2
      · simp only [if_neg g0, if_neg g1, if_pos g2]
      by_cases g3 : y = 3
      · simp only [if_neg g0, if_neg g1, if_neg g2, if_pos g3]
      by_cases g4 : y = 4
      · simp only [if_neg g0, if_neg g1, if_neg g2, if_neg g3, if_pos g4]
      by_cases g5 : y = 5
      · simp only [if_neg g0, if_neg g1, if_neg g2, if_neg g3, if_neg g4, if_pos g5]
      by_cases g6 : y = 6
      · simp only [if_neg g0, if_neg g1, if_neg g2, if_neg g3, if_neg g4, if_neg g5, if_pos g6]
      by_cases g8 : y = 8
      · simp only [if_neg g0, if_neg g1, if_neg g2, if_neg g3, if_neg g4, if_neg g5, if_neg g6, if_pos g8]
      · simp only [if_neg g0, if_neg g1, if_neg g2, if_neg g3, if_neg g4, if_neg g5, if_neg g6, if_neg g8]
  · refine ⟨S, ?_, qt_refl S⟩
    refine fI_by tl_X11_told (gd_r rfl rfl) (fun kk => sg_X11_told_0 x y S kk) ?_
    simp only [c_isS0 hC h, Option.bind_some, if_true, if_neg h]
theorem c_word {w : sp_W} {S : ce_S} (hC : CR w S) (x y : Int32) : ∃ S', F_X11_word [.inr (.inl (0, 0)), .inl x, .inl y] S = some ((s_word w x y).1, S') ∧ CR (s_word w x y).2 S' ∧ mEq S S' := by
  unfold s_word
  by_cases h : isS w x
  · by_cases hy : isB y
    · obtain ⟨s, hs, h6, e, e2, hin, hsel, hrc⟩ := c_sel hC h
      by_cases ho : sp_st (w_r w s) = 0
      · obtain ⟨f, hb⟩ := f_hear S (3 * s) 0 y (CR_ok hC)
        rw [CR_E hC, hrc] at hb
        refine ⟨ce_tA (wS S (3 * s) (sp_hea (w_E w) (w_r w s) y)) 17 f, ?_, ?_, ?_⟩
        · refine fI_by tl_X11_word (gd_r rfl rfl) (fun kk => sg_X11_word_0 x y S kk) ?_
          simp only [c_isS1 hC h, c_isB1 S hy, Option.bind_some, i_10, if_false, e2, if_neg hin, k3_eq, rc_6, hrc, if_pos ho, hb, rc_tA, rc_wS, if_pos (And.intro h hy), hsel]
        · simp only [if_pos (And.intro h hy), hsel, if_pos ho, e2]
          refine CR_tA (CR_put hC s hs _ ?_) f
          unfold sp_hea
          simp only
          split
          · rfl
          · split <;> rfl
        · exact mEq_trans (mEq_wS _ _ _) (mEq_tA _ _ _ (by decide))
      · refine ⟨S, ?_, ?_, mEq_refl S⟩
        · refine fI_by tl_X11_word (gd_r rfl rfl) (fun kk => sg_X11_word_0 x y S kk) ?_
          simp only [c_isS1 hC h, c_isB1 S hy, Option.bind_some, i_10, if_false, e2, if_neg hin, k3_eq, rc_6, hrc, if_neg ho, if_pos (And.intro h hy), hsel]
        · simp only [if_pos (And.intro h hy), hsel, if_neg ho]; exact hC
    · have hn : ¬ (isS w x ∧ isB y) := fun q => hy q.2
      refine ⟨S, ?_, ?_, mEq_refl S⟩
      · refine fI_by tl_X11_word (gd_r rfl rfl) (fun kk => sg_X11_word_0 x y S kk) ?_
        simp only [c_isS1 hC h, c_isB0 S hy, Option.bind_some, i_10, if_false, if_true, if_neg hn]
      · simp only [if_neg hn]; exact hC
  · have hn : ¬ (isS w x ∧ isB y) := fun q => h q.1
    refine ⟨S, ?_, ?_, mEq_refl S⟩
    · refine fI_by tl_X11_word (gd_r rfl rfl) (fun kk => sg_X11_word_0 x y S kk) ?_
      simp only [c_isS0 hC h, Option.bind_some, if_true, if_neg hn]
    · simp only [if_neg hn]; exact hC
theorem c_agree {w : sp_W} {S : ce_S} (hC : CR w S) (x : Int32) : ∃ S', F_X11_agree [.inr (.inl (0, 0)), .inl x] S = some ((s_agree w x).1, S') ∧ CR (s_agree w x).2 S' ∧ mEq S S' := by
  unfold s_agree
  by_cases h : isS w x
  · obtain ⟨s, hs, h6, e, e2, hin, hsel, hrc⟩ := c_sel hC h
    by_cases ho : sp_st (w_r w s) = 0
    · refine ⟨wS S (3 * s) (sp_sell (w_r w s) (sp_sa (w_r w s))), ?_, ?_, mEq_wS _ _ _⟩
      · refine fI_by tl_X11_agree (gd_r rfl rfl) (fun kk => sg_X11_agree_0 x S kk) ?_
        simp only [c_isS1 hC h, Option.bind_some, i_10, if_false, e2, if_neg hin, k3_eq, rc_6, rc_7, rc_4, hrc, if_pos ho, f_sellAt, rc_wS, if_pos h, hsel]
        rfl
      · simp only [if_pos h, hsel, if_pos ho, e2]
        exact CR_put hC s hs _ rfl
    · refine ⟨S, ?_, ?_, mEq_refl S⟩
      · refine fI_by tl_X11_agree (gd_r rfl rfl) (fun kk => sg_X11_agree_0 x S kk) ?_
        simp only [c_isS1 hC h, Option.bind_some, i_10, if_false, e2, if_neg hin, k3_eq, rc_6, hrc, if_neg ho, if_pos h, hsel]
      · simp only [if_pos h, hsel, if_neg ho]; exact hC
  · refine ⟨S, ?_, ?_, mEq_refl S⟩
    · refine fI_by tl_X11_agree (gd_r rfl rfl) (fun kk => sg_X11_agree_0 x S kk) ?_
      simp only [c_isS0 hC h, Option.bind_some, if_true, if_neg h]
    · simp only [if_neg h]; exact hC
