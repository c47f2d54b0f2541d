/-! the reference's market -/
/-- in the market: all but the sellers' talk; the crowd; what is kept -/
def MK (w : sp_W) (f0 f : Nat → sp_R) (S : ce_S) : Prop := MX w S ∧ MSr (w_n w) f S ∧ KG (w_n w) f0 S ∧ ∀ i, i < w_n w → sp_k (f i) = sp_k (f0 i) ∧ sp_co (f i) = sp_co (f0 i) ∧ sp_nu (f i) = sp_nu (f0 i)
theorem MK_tA {w : sp_W} {f0 f : Nat → sp_R} {S : ce_S} (h : MK w f0 f S) (g : Nat → Nat → Int32) : MK w f0 f (ce_tA S 32 g) := ⟨MX_mq h.1 (mq_tA S g), h.2.1, fun i hi => h.2.2.1 i hi, h.2.2.2⟩
theorem MK_sI {w : sp_W} {f0 f : Nat → sp_R} {S : ce_S} (h : MK w f0 f S) (k : Nat) (v : Int32) (hk : 34 ≤ k) : MK w f0 f (ce_sI S 20 k 0 v) := ⟨MX_mq h.1 (mq_sI S k v hk), h.2.1, fun i hi => h.2.2.1 i hi, h.2.2.2⟩
theorem ws_self (r : sp_R) : sp_ws r (sp_sa r) = r := rfl
theorem El_lea (w : sp_W) (L : Int32) (r : sp_R) (b : Int32) : sp_lea (sp_El (w_E w) L) r b = sp_lea (w_E w) r b := rfl
theorem m_hop4 {w : sp_W} {f0 f : Nat → sp_R} (a p L : Int32) : ∀ m, m ≤ w_n w → ∀ (c : Bool) (S : ce_S), MK w f0 f S → ∃ g, ∀ res, ce_Ev tb_X12_goesBuyer 33 (0, 0) [some (.inr (.inl (20, 0))), some (.inl a), some (.inl p), some (.inl L), some (.inl (sp_b (c || sp_hop (sp_El (w_E w) L) f (w_n w) m))), some (.inl 0)] [] (ce_tA S 32 g) res → ce_Ev tb_X12_goesBuyer 4 (0, 0) [some (.inr (.inl (20, 0))), some (.inl a), some (.inl p), some (.inl L), some (.inl (sp_b c)), some (.inl (nI (w_n w - m)))] [] S res := by
  intro m
  induction m with
  | zero =>
    intro _ c S hK
    refine ⟨ce_A S 32, fun res h => ?_⟩
    rw [tA_self] at h
    refine ce_by tl_X12_goesBuyer (fun kk => sg_X12_goesBuyer_4 a p L (sp_b c) (nI (w_n w - 0)) S kk) ?_
    have h1 : ce_I S 20 7 0 ≤ nI (w_n w - 0) := by rw [hK.1.1.1]; exact Int32.le_refl _
    rw [if_pos h1]
    unfold sp_hop at h
    rw [Bool.or_false] at h
    exact ce_kk_of h
  | succ m ih =>
    intro hm c S hK
    have hn : w_n w ≤ 6 := hK.1.1.2
    have hi : w_n w - (m + 1) < w_n w := by omega
    have e2 : (nI (w_n w - (m + 1))).toNatClampNeg = w_n w - (m + 1) := nI_clamp (by omega)
    have hin : ¬ (nI (w_n w - (m + 1)) < 0 ∨ 6 ≤ w_n w - (m + 1)) := nJ_in (by omega) (by decide)
    have h1 : ¬ ce_I S 20 7 0 ≤ nI (w_n w - (m + 1)) := by rw [hK.1.1.1, nJ_le (by omega) (by omega)]; omega
    have e1 : nI (w_n w - (m + 1)) + 1 = nI (w_n w - m) := by rw [nJ_succ, show w_n w - (m + 1) + 1 = w_n w - m by omega]
    have hmr := (hK.2.1 _ hi).1
    have h26 : ce_A S 26 0 (w_n w - (m + 1)) = sp_st (f (w_n w - (m + 1))) := hmr.2.2.2.2.2.1
    have h24 : ce_A S 24 0 (w_n w - (m + 1)) = sp_sa (f (w_n w - (m + 1))) := hmr.2.2.2.1
    cases c with
    | true =>
      obtain ⟨g, j⟩ := ih (by omega) true S hK
      refine ⟨g, fun res h => ce_by tl_X12_goesBuyer (fun kk => sg_X12_goesBuyer_4 a p L (sp_b true) (nI (w_n w - (m + 1))) S kk) ?_⟩
      have hb : ¬ sp_b true = 0 := by decide
      simp only [if_neg h1, if_neg hb, q_add_eq, e1]
      exact ce_kk_of (j res (by rw [Bool.true_or] at h ⊢; exact h))
    | false =>
      have hb : sp_b false = 0 := rfl
      by_cases ho : sp_st (f (w_n w - (m + 1))) = 0
      · obtain ⟨g1, el⟩ := m_least hK.1 (by omega) hmr.2.1 hmr.2.2.2.2.1 0 (sp_sa (f (w_n w - (m + 1))))
        rw [ws_self] at el
        by_cases hl : sp_lea (w_E w) (f (w_n w - (m + 1))) 0 ≤ L
        · obtain ⟨g, j⟩ := ih (by omega) true (ce_tA S 32 g1) (MK_tA hK g1)
          rw [tA_tA] at j
          refine ⟨g, fun res h => ce_by tl_X12_goesBuyer (fun kk => sg_X12_goesBuyer_4 a p L (sp_b false) (nI (w_n w - (m + 1))) S kk) ?_⟩
          simp only [if_neg h1, if_pos hb, e2, if_neg hin, h26, if_pos ho, h24, el, Option.bind_some, if_neg (i_le_not hl), q_add_eq, e1]
          refine ce_kk_of (j res ?_)
          unfold sp_hop at h
          rw [if_pos (show sp_st (f (w_n w - (m + 1))) = 0 ∧ sp_lea (sp_El (w_E w) L) (f (w_n w - (m + 1))) 0 ≤ (sp_El (w_E w) L).2.2.2 from ⟨ho, hl⟩)] at h
          rw [Bool.true_or]
          exact h
        · obtain ⟨g, j⟩ := ih (by omega) false (ce_tA S 32 g1) (MK_tA hK g1)
          rw [tA_tA] at j
          refine ⟨g, fun res h => ce_by tl_X12_goesBuyer (fun kk => sg_X12_goesBuyer_4 a p L (sp_b false) (nI (w_n w - (m + 1))) S kk) ?_⟩
          simp only [if_neg h1, if_pos hb, e2, if_neg hin, h26, if_pos ho, h24, el, Option.bind_some, if_pos (i_not_le hl), q_add_eq, e1]
          refine ce_kk_of (j res ?_)
          unfold sp_hop at h
          rw [if_neg (show ¬ (sp_st (f (w_n w - (m + 1))) = 0 ∧ sp_lea (sp_El (w_E w) L) (f (w_n w - (m + 1))) 0 ≤ (sp_El (w_E w) L).2.2.2) from fun q => hl q.2)] at h
          exact h
      · obtain ⟨g, j⟩ := ih (by omega) false S hK
        refine ⟨g, fun res h => ce_by tl_X12_goesBuyer (fun kk => sg_X12_goesBuyer_4 a p L (sp_b false) (nI (w_n w - (m + 1))) S kk) ?_⟩
        simp only [if_neg h1, if_pos hb, e2, if_neg hin, h26, if_neg ho, q_add_eq, e1]
        refine ce_kk_of (j res ?_)
        unfold sp_hop at h
        rw [if_neg (show ¬ (sp_st (f (w_n w - (m + 1))) = 0 ∧ sp_lea (sp_El (w_E w) L) (f (w_n w - (m + 1))) 0 ≤ (sp_El (w_E w) L).2.2.2) from fun q => ho q.1)] at h
        exact h
/-- what a buyer adds -/
def by_add (t : Int32 × Int32 × Int32) (pr : Int32) (c : Bool) : Int32 × Int32 × Int32 := if pr = -1 then (if c = true then (t.1, t.2.1, t.2.2 + 1) else t) else (t.1 + 1, t.2.1 + pr, t.2.2)
def MT (t : Int32 × Int32 × Int32) (S : ce_S) : Prop := ce_I S 20 38 0 = t.1 ∧ ce_I S 20 39 0 = t.2.1 ∧ ce_I S 20 40 0 = t.2.2
theorem m_buy33 {w : sp_W} {f0 : Nat → sp_R} {a p L : Int32} (hp : isR a p) (hL : 0 ≤ L ∧ L ≤ 1999) (c : Bool) : ∀ m, m ≤ w_n w → ∀ (f : Nat → sp_R) (t : Int32 × Int32 × Int32) (S : ce_S), MK w f0 f S → MT t S → ∃ S1, mq S S1 ∧ MK w f0 (sp_buy (sp_El (w_E w) L) a p (w_n w) m f).2 S1 ∧ MT (by_add t (sp_buy (sp_El (w_E w) L) a p (w_n w) m f).1 c) S1 ∧ ce_Ev tb_X12_goesBuyer 33 (0, 0) [some (.inr (.inl (20, 0))), some (.inl a), some (.inl p), some (.inl L), some (.inl (sp_b c)), some (.inl (nI (w_n w - m)))] [] S (none, S1) := by
  intro m
  induction m with
  | zero =>
    intro _ f t S hK ht
    have h1 : ce_I S 20 7 0 ≤ nI (w_n w - 0) := by rw [hK.1.1.1]; exact Int32.le_refl _
    have h40 := ht.2.2
    cases c with
    | true =>
      refine ⟨ce_sI S 20 40 0 (t.2.2 + 1), mq_sI S 40 _ (by decide), MK_sI hK 40 _ (by decide), ?_, ce_by tl_X12_goesBuyer (fun kk => sg_X12_goesBuyer_33 a p L (sp_b true) (nI (w_n w - 0)) S kk) ?_⟩
      · refine ⟨?_, ?_, ?_⟩ <;> simp only [r_I_sR, r_I_sA, r_I_sF, r_I_sQ, r_R_sI, r_R_sA, r_R_sF, r_R_sQ, r_A_sI, r_A_sR, r_A_sQ, r_L_sI, r_L_sR, r_L_sA, r_L_sF, r_L_sQ, r_C_sI, r_C_sR, r_C_sA, r_C_sF, r_C_sQ, r_Q_sI, r_Q_sR, r_Q_sA, r_Q_sF, r_I_sI, r_R_sR, r_A_sA, r_A_sF, r_Q_sQ, r_I_tA, r_R_tA, r_L_tA, r_C_tA, r_Q_tA, r_A_tA, reduceIte, Nat.reduceEqDiff]
        · exact ht.1
        · exact ht.2.1
        · rfl
      · simp only [if_pos h1, if_neg (show ¬ sp_b true = 0 by decide), h40, q_add_eq]
    | false =>
      refine ⟨ce_sI S 20 40 0 (t.2.2 + 0), mq_sI S 40 _ (by decide), MK_sI hK 40 _ (by decide), ?_, ce_by tl_X12_goesBuyer (fun kk => sg_X12_goesBuyer_33 a p L (sp_b false) (nI (w_n w - 0)) S kk) ?_⟩
      · refine ⟨?_, ?_, ?_⟩ <;> simp only [r_I_sR, r_I_sA, r_I_sF, r_I_sQ, r_R_sI, r_R_sA, r_R_sF, r_R_sQ, r_A_sI, r_A_sR, r_A_sQ, r_L_sI, r_L_sR, r_L_sA, r_L_sF, r_L_sQ, r_C_sI, r_C_sR, r_C_sA, r_C_sF, r_C_sQ, r_Q_sI, r_Q_sR, r_Q_sA, r_Q_sF, r_I_sI, r_R_sR, r_A_sA, r_A_sF, r_Q_sQ, r_I_tA, r_R_tA, r_L_tA, r_C_tA, r_Q_tA, r_A_tA, reduceIte, Nat.reduceEqDiff]
        · exact ht.1
        · exact ht.2.1
        · rw [Int32.add_zero]; rfl
      · simp only [if_pos h1, if_pos (show sp_b false = 0 by decide), h40, q_add_eq]
  | succ m ih =>
    intro hm f t S hK ht
    have hn : w_n w ≤ 6 := hK.1.1.2
    have hi : w_n w - (m + 1) < w_n w := by omega
    have h6 : w_n w - (m + 1) < 6 := by omega
    have e2 : (nI (w_n w - (m + 1))).toNatClampNeg = w_n w - (m + 1) := nI_clamp (by omega)
    have hin : ¬ (nI (w_n w - (m + 1)) < 0 ∨ 6 ≤ w_n w - (m + 1)) := nJ_in (by omega) (by decide)
    have h1 : ¬ ce_I S 20 7 0 ≤ nI (w_n w - (m + 1)) := by rw [hK.1.1.1, nJ_le (by omega) (by omega)]; omega
    have e1 : nI (w_n w - (m + 1)) + 1 = nI (w_n w - m) := by rw [nJ_succ, show w_n w - (m + 1) + 1 = w_n w - m by omega]
    have hmr := hK.2.1 _ hi
    have h26 : ce_A S 26 0 (w_n w - (m + 1)) = sp_st (f (w_n w - (m + 1))) := hmr.1.2.2.2.2.2.1
    generalize hs : w_n w - (m + 1) = s at *
    unfold sp_buy
    rw [hs]
    by_cases ho : sp_st (f s) = 0
    · obtain ⟨S1, b1, b2, b3⟩ := m_bids hK.1 h6 hmr.1 hmr.2 hp hL
      have hrok : rok (sp_go (sp_El (w_E w) L) (f s) a p) := rok_go hp hL hmr.2
      obtain ⟨g1, g2, g3⟩ := k_gol (sp_El (w_E w) L) p 30 (if (sp_El (w_E w) L).2.2.2 < a then (sp_El (w_E w) L).2.2.2 else a) (f s)
      have hK1 : MK w f0 (w_put f s (sp_go (sp_El (w_E w) L) (f s) a p)) S1 := by
        refine ⟨MX_mq hK.1 b2.1, fun i hi' => ?_, KG_mo hK.2.2.1 b2, fun i hi' => ?_⟩
        · unfold w_put
          by_cases q : i = s
          · subst q; rw [if_pos rfl]; exact ⟨b3, hrok⟩
          · rw [if_neg q, mo_mr b2 q]; exact hK.2.1 i hi'
        · unfold w_put
          by_cases q : i = s
          · subst q; rw [if_pos rfl]
            obtain ⟨c1, c2, c3⟩ := hK.2.2.2 i hi'
            exact ⟨g1.trans c1, g2.trans c2, g3.trans c3⟩
          · rw [if_neg q]; exact hK.2.2.2 i hi'
      have ht1 : MT t S1 := ⟨(b2.2.2.2.2 38 (by decide)).trans ht.1, (b2.2.2.2.2 39 (by decide)).trans ht.2.1, (b2.2.2.2.2 40 (by decide)).trans ht.2.2⟩
      by_cases hst : sp_st (sp_go (sp_El (w_E w) L) (f s) a p) = 1
      · simp only [if_pos ho, if_pos hst]
        refine ⟨ce_sI (ce_sI S1 20 38 0 (t.1 + 1)) 20 39 0 (t.2.1 + sp_pr (sp_go (sp_El (w_E w) L) (f s) a p)), mq_trans b2.1 (mq_trans (mq_sI _ 38 _ (by decide)) (mq_sI _ 39 _ (by decide))), MK_sI (MK_sI hK1 38 _ (by decide)) 39 _ (by decide), ?_, ce_by tl_X12_goesBuyer (fun kk => sg_X12_goesBuyer_33 a p L (sp_b c) (nI s) S kk) ?_⟩
        · have hne : ¬ sp_pr (sp_go (sp_El (w_E w) L) (f s) a p) = -1 := fun q => by
            have := (hrok.2.2.1 hst).1
            rw [q] at this
            exact absurd this (by decide)
          unfold by_add
          rw [if_neg hne]
          refine ⟨?_, ?_, ?_⟩ <;> simp only [r_I_sR, r_I_sA, r_I_sF, r_I_sQ, r_R_sI, r_R_sA, r_R_sF, r_R_sQ, r_A_sI, r_A_sR, r_A_sQ, r_L_sI, r_L_sR, r_L_sA, r_L_sF, r_L_sQ, r_C_sI, r_C_sR, r_C_sA, r_C_sF, r_C_sQ, r_Q_sI, r_Q_sR, r_Q_sA, r_Q_sF, r_I_sI, r_R_sR, r_A_sA, r_A_sF, r_Q_sQ, r_I_tA, r_R_tA, r_L_tA, r_C_tA, r_Q_tA, r_A_tA, reduceIte, Nat.reduceEqDiff]
          exact ht1.2.2
        · simp only [if_neg h1, e2, if_neg hin, h26, if_pos ho, b1, Option.bind_some, b3.2.2.2.2.2.1, if_pos hst, b3.2.2.2.2.2.2, ht1.1, ht1.2.1, q_add_eq]
      · simp only [if_pos ho, if_neg hst]
        obtain ⟨S2, j1, j2, j3, j4⟩ := ih (by omega) _ t S1 hK1 ht1
        refine ⟨S2, mq_trans b2.1 j1, j2, j3, ce_by tl_X12_goesBuyer (fun kk => sg_X12_goesBuyer_33 a p L (sp_b c) (nI s) S kk) ?_⟩
        simp only [if_neg h1, e2, if_neg hin, h26, if_pos ho, b1, Option.bind_some, b3.2.2.2.2.2.1, if_neg hst, q_add_eq, e1]
        exact ce_kk_of j4
    · simp only [if_neg ho]
      obtain ⟨S2, j1, j2, j3, j4⟩ := ih (by omega) f t S hK ht
      refine ⟨S2, j1, j2, j3, ce_by tl_X12_goesBuyer (fun kk => sg_X12_goesBuyer_33 a p L (sp_b c) (nI s) S kk) ?_⟩
      simp only [if_neg h1, e2, if_neg hin, h26, if_neg ho, q_add_eq, e1]
      exact ce_kk_of j4
theorem m_buyer {w : sp_W} {f0 f : Nat → sp_R} {a p L : Int32} (hp : isR a p) (hL : 0 ≤ L ∧ L ≤ 1999) {t : Int32 × Int32 × Int32} {S : ce_S} (hK : MK w f0 f S) (ht : MT t S) : ∃ S1, F_X12_goesBuyer [.inr (.inl (20, 0)), .inl a, .inl p, .inl L] S = some S1 ∧ mq S S1 ∧ MK w f0 (sp_buy (sp_El (w_E w) L) a p (w_n w) (w_n w) f).2 S1 ∧ MT (by_add t (sp_buy (sp_El (w_E w) L) a p (w_n w) (w_n w) f).1 (sp_hop (sp_El (w_E w) L) f (w_n w) (w_n w))) S1 := by
  obtain ⟨g, j⟩ := m_hop4 (w := w) (f0 := f0) (f := f) a p L (w_n w) (Nat.le_refl _) false S hK
  obtain ⟨S1, k1, k2, k3, k4⟩ := m_buy33 hp hL (sp_hop (sp_El (w_E w) L) f (w_n w) (w_n w)) (w_n w) (Nat.le_refl _) f t (ce_tA S 32 g) (MK_tA hK g) ht
  rw [Nat.sub_self] at k4 j
  refine ⟨S1, fV_by tl_X12_goesBuyer (gd_r rfl rfl) (fun kk => sg_X12_goesBuyer_0 a p L S kk) ?_, mq_trans (mq_tA S g) k1, k2, k3⟩
  exact ce_kk_of (j _ (by rw [Bool.false_or]; exact k4))
theorem m_mk35 {w : sp_W} {f0 : Nat → sp_R} {a p : Int32} (y : Int32) (hp : isR a p) (hf0 : ∀ i, i < w_n w → rok (f0 i)) (j n : Nat) (hj : j < 4) (g : Nat → Int32) (h40 : n ≤ 40) : ∀ m, m ≤ n → ∀ (f : Nat → sp_R) (t : Int32 × Int32 × Int32) (S : ce_S), MK w f0 f S → MT t S → ce_A S 35 0 j = nI n → (∀ e, e < n → ce_A S 36 0 (40 * j + e) = g e) → ∃ S1, mq S S1 ∧ MSr (w_n w) f0 S1 ∧ ce_Ev tb_X12_market 35 (0, 0) [some (.inr (.inl (20, 0))), some (.inl (nI j)), some (.inl a), some (.inl p), some (.inl y), some (.inl (nI (n - m)))] [] S (some (.inl (sp_t3 y (sp_mkt (w_E w) (w_n w) g a p n m f t))), S1) := by
  have ej : (nI j).toNatClampNeg = j := nI_clamp (by omega)
  have hjn : ¬ (nI j < 0 ∨ 4 ≤ j) := nJ_in hj (by decide)
  intro m
  induction m with
  | zero =>
    intro _ f t S hK ht hn hc
    have hk3 : ∀ i, i < w_n w → ce_A S 21 0 i = nI (sp_k (f0 i)) ∧ ce_A S 22 0 i = sp_co (f0 i) ∧ ce_A S 23 0 i = sp_nu (f0 i) := fun i hi => by
      obtain ⟨a1, a2, a3⟩ := hK.2.2.2 i hi
      obtain ⟨b1, b2, b3⟩ := MSr_k3 hK.2.1 i hi
      exact ⟨by rw [b1, a1], b2.trans a2, b3.trans a3⟩
    obtain ⟨S1, p1, p2, p3, p4⟩ := m_back1 (g := f0) hK.1 hk3 hK.2.2.1
    refine ⟨S1, mt_mq p2, fun i hi => ⟨p4 i hi, hf0 i hi⟩, ce_by tl_X12_market (fun kk => sg_X12_market_35 (nI j) a p y (nI (n - 0)) S kk) ?_⟩
    simp only [ej, if_neg hjn, hn, if_pos (show nI n ≤ nI (n - 0) from Int32.le_refl _), hK.1.1.1, p1, Option.bind_some, mt_I p2, ht.1, ht.2.1, ht.2.2]
    unfold sp_mkt sp_t3
    by_cases y0 : y = 0
    · simp only [if_pos y0]
    by_cases y1 : y = 1
    · simp only [if_neg y0, if_pos y1]
    · simp only [if_neg y0, if_neg y1]
  | succ m ih =>
    intro hm f t S hK ht hn hc
    have hi : n - (m + 1) < n := by omega
    have h1 : ¬ nI n ≤ nI (n - (m + 1)) := by rw [nJ_le (by omega) (by omega)]; omega
    have e1 : nI (n - (m + 1)) + 1 = nI (n - m) := by rw [nJ_succ, show n - (m + 1) + 1 = n - m by omega]
    obtain ⟨b1, b2⟩ := b160 hj (show n - (m + 1) < 40 by omega)
    obtain ⟨S1, k1, k2, k3, k4⟩ := m_buyer hp (cl_bd 0 1999 (g (n - (m + 1))) (by decide)) hK ht
    obtain ⟨S2, j1, j2, j3⟩ := ih (by omega) _ _ S1 k3 k4 (by rw [mq_A k2 35 (by decide) (by decide) (by decide)]; exact hn) (by rw [mq_A k2 36 (by decide) (by decide) (by decide)]; exact hc)
    refine ⟨S2, mq_trans k2 j1, j2, ce_by tl_X12_market (fun kk => sg_X12_market_35 (nI j) a p y (nI (n - (m + 1))) S kk) ?_⟩
    simp only [ej, if_neg hjn, hn, if_neg h1, q_add_eq, q_sub_eq, q_mul_eq, q_and_eq, q_div_eq, q_rem_eq, q_ushr_eq, q_neg_eq, q_i2b_eq, q_i2s_eq, e40, b1, if_neg b2, hc _ hi, f_bounded, Option.bind_some, k1, e1]
    exact ce_kk_of j3
theorem m_market {w : sp_W} {S : ce_S} (hR : MR w S) (x a p y : Int32) : ∃ S', F_X12_market [.inr (.inl (20, 0)), .inl x, .inl a, .inl p, .inl y] S = some (s_market w x a p y, S') ∧ MR w S' ∧ cEq S S' := by
  obtain ⟨hM, hf⟩ := id hR
  unfold s_market
  by_cases h1 : is4 x
  · by_cases h2 : isR a p
    · by_cases h3 : 0 ≤ y ∧ y ≤ 2
      · obtain ⟨j, hj, rfl, f2, fin, fsh, f3, f4, f5, f6, f7⟩ := m_sh hM h1
        rw [if_pos (show is4 (nI j) ∧ isR a p ∧ 0 ≤ y ∧ y ≤ 2 from ⟨h1, h2, h3⟩), fsh]
        rcases miss_nn f6 with ⟨hm, hm'⟩ | ⟨hm, hm'⟩
        · rw [if_neg hm]
          obtain ⟨S1, k1, k2, k3, k4, k5, k6, k7⟩ := m_keep1 hM hf
          have q3 : mq S1 (ce_sI (ce_sI (ce_sI S1 20 38 0 0) 20 39 0 0) 20 40 0 0) := mq_trans (mq_trans (mq_sI _ 38 _ (by decide)) (mq_sI _ 39 _ (by decide))) (mq_sI _ 40 _ (by decide))
          have hK : MK w (w_r w) (w_r w) (ce_sI (ce_sI (ce_sI S1 20 38 0 0) 20 39 0 0) 20 40 0 0) := ⟨MX_mq k3 q3, k4, k5, fun _ _ => ⟨rfl, rfl, rfl⟩⟩
          have hT : MT (0, 0, 0) (ce_sI (ce_sI (ce_sI S1 20 38 0 0) 20 39 0 0) 20 40 0 0) := by
            refine ⟨?_, ?_, ?_⟩ <;> simp only [r_I_sR, r_I_sA, r_I_sF, r_I_sQ, r_R_sI, r_R_sA, r_R_sF, r_R_sQ, r_A_sI, r_A_sR, r_A_sQ, r_L_sI, r_L_sR, r_L_sA, r_L_sF, r_L_sQ, r_C_sI, r_C_sR, r_C_sA, r_C_sF, r_C_sQ, r_Q_sI, r_Q_sR, r_Q_sA, r_Q_sF, r_I_sI, r_R_sR, r_A_sA, r_A_sF, r_Q_sQ, r_I_tA, r_R_tA, r_L_tA, r_C_tA, r_Q_tA, r_A_tA, reduceIte, Nat.reduceEqDiff]
          obtain ⟨S2, j1, j2, j3⟩ := m_mk35 y h2 (fun i hi => (hf i hi).2) j (w_h w j).2.1 hj (w_h w j).2.2 f5 _ (Nat.le_refl _) (w_r w) (0, 0, 0) _ hK hT (by show ce_A S1 35 0 j = _; rw [k7 35 (by decide)]; exact f4) (by
            intro e he
            show ce_A S1 36 0 (40 * j + e) = _
            rw [k7 36 (by decide)]; exact f7 e he)
          rw [Nat.sub_self] at j3
          refine ⟨S2, fI_by tl_X12_market (gd_r rfl rfl) (fun kk => sg_X12_market_0 (nI j) a p y S kk) ?_, ⟨MX_mq hM (mq_trans k2 (mq_trans q3 j1)), j2⟩, cEq_mq (mq_trans k2 (mq_trans q3 j1))⟩
          simp only [m_is41 S h1, m_isR1 S h2, f_isIn1 S h3, Option.bind_some, i_10, if_false, f2, if_neg fin, f3, if_pos hm', k1]
          exact ce_kk_of j3
        · rw [if_pos hm]
          refine ⟨S, fI_by tl_X12_market (gd_r rfl rfl) (fun kk => sg_X12_market_0 (nI j) a p y S kk) ?_, hR, cEq_refl S⟩
          simp only [m_is41 S h1, m_isR1 S h2, f_isIn1 S h3, Option.bind_some, i_10, if_false, f2, if_neg fin, f3, if_neg hm']
      · refine ⟨S, fI_by tl_X12_market (gd_r rfl rfl) (fun kk => sg_X12_market_0 x a p y S kk) ?_, hR, cEq_refl S⟩
        rw [if_neg (show ¬ (is4 x ∧ isR a p ∧ 0 ≤ y ∧ y ≤ 2) from fun q => h3 q.2.2)]
        simp only [m_is41 S h1, m_isR1 S h2, f_isIn0 S h3, Option.bind_some, i_10, if_false, if_true]
    · refine ⟨S, fI_by tl_X12_market (gd_r rfl rfl) (fun kk => sg_X12_market_0 x a p y S kk) ?_, hR, cEq_refl S⟩
      rw [if_neg (show ¬ (is4 x ∧ isR a p ∧ 0 ≤ y ∧ y ≤ 2) from fun q => h2 q.2.1)]
      simp only [m_is41 S h1, m_isR0 S h2, Option.bind_some, i_10, if_false, if_true]
  · refine ⟨S, fI_by tl_X12_market (gd_r rfl rfl) (fun kk => sg_X12_market_0 x a p y S kk) ?_, hR, cEq_refl S⟩
    rw [if_neg (show ¬ (is4 x ∧ isR a p ∧ 0 ≤ y ∧ y ≤ 2) from fun q => h1 q.1)]
    simp only [m_is40 S h1, Option.bind_some, if_true]
