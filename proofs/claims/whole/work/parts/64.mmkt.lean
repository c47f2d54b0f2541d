/-! the reference: sheets, drawn bids, the market -/
theorem m_sh {w : sp_W} {S : ce_S} (hM : MX w S) {x : Int32} (h : is4 x) : ∃ j, j < 4 ∧ x = nI j ∧ x.toNatClampNeg = j ∧ ¬ (x < 0 ∨ 4 ≤ j) ∧ w_sheet w x = w_h w j ∧ ce_A S 34 0 j = (w_h w j).1 ∧ ce_A S 35 0 j = nI (w_h w j).2.1 ∧ (w_h w j).2.1 ≤ 40 ∧ ((w_h w j).1 = -1 ∨ 0 ≤ (w_h w j).1) ∧ ∀ e, e < (w_h w j).2.1 → ce_A S 36 0 (40 * j + e) = (w_h w j).2.2 e := by
  obtain ⟨j, hj, e, e2⟩ := i_nat (n := 4) (by decide) h
  obtain ⟨a1, a2, a3, a4, a5⟩ := hM.2.2.2.2.1 j hj
  refine ⟨j, hj, e, e2, ?_, by unfold w_sheet; rw [e2], a1, a2, a3, a4, a5⟩
  rw [e]; exact nJ_in hj (by decide)
theorem e40 (j e : Nat) : 40 * nI j + nI e = nI (40 * j + e) := by rw [show (40 : Int32) = nI 40 from rfl, nJ_mul, nJ_add]
theorem b160 {j e : Nat} (hj : j < 4) (he : e < 40) : (nI (40 * j + e)).toNatClampNeg = 40 * j + e ∧ ¬ (nI (40 * j + e) < 0 ∨ 160 ≤ 40 * j + e) := ⟨nI_clamp (by omega), nJ_in (by omega) (by decide)⟩
theorem m_just5 {w : sp_W} {s : Nat} (hs : s < 6) (j n : Nat) (hj : j < 4) (g : Nat → Int32) (h40 : n ≤ 40) (he : n % 2 = 0) : ∀ m, m ≤ n / 2 → ∀ (r : sp_R) (S : ce_S) (z4 : Option ce_V), MX w S → mr S s r → rok r → ¬ sp_st r = 1 → ce_A S 35 0 j = nI n → (∀ e, e < n → ce_A S 36 0 (40 * j + e) = g e) → ∃ S1, mo s S S1 ∧ ce_Ev tb_X12_isJustSo 5 (0, 0) [some (.inr (.inl (20, 0))), some (.inl (nI s)), some (.inl (nI j)), some (.inl (nI (2 * (n / 2 - m)))), z4] [] S (some (.inl (sp_b (sp_so (w_E w) g (n / 2) m r))), S1) := by
  have e2 : (nI s).toNatClampNeg = s := nI_clamp (by omega)
  have hin : ¬ (nI s < 0 ∨ 6 ≤ s) := nJ_in hs (by decide)
  have ej : (nI j).toNatClampNeg = j := nI_clamp (by omega)
  have hjn : ¬ (nI j < 0 ∨ 4 ≤ j) := nJ_in hj (by decide)
  intro m
  induction m with
  | zero =>
    intro _ r S z4 hM h hr h0 hn hg
    refine ⟨S, mo_refl s S, ce_by tl_X12_isJustSo (fun kk => sg_X12_isJustSo_5 (nI s) (nI j) (nI (2 * (n / 2 - 0))) z4 S kk) ?_⟩
    have h1 : nI n ≤ nI (2 * (n / 2 - 0)) := by rw [nJ_le (by omega) (by omega)]; omega
    simp only [ej, if_neg hjn, hn, if_pos h1]; rfl
  | succ m ih =>
    intro hm r S z4 hM h hr h0 hn hg
    have h1 : ¬ nI n ≤ nI (2 * (n / 2 - (m + 1))) := by rw [nJ_le (by omega) (by omega)]; omega
    have e22 : nI (2 * (n / 2 - (m + 1))) + 2 = nI (2 * (n / 2 - m)) := by rw [show (2 : Int32) = nI 2 from rfl, nJ_add, show 2 * (n / 2 - (m + 1)) + 2 = 2 * (n / 2 - m) by omega]
    have hi : 2 * (n / 2 - (m + 1)) < n := by omega
    have hi1 : 2 * (n / 2 - (m + 1)) + 1 < n := by omega
    obtain ⟨b1, b2⟩ := b160 hj (show 2 * (n / 2 - (m + 1)) < 40 by omega)
    obtain ⟨b3, b4⟩ := b160 hj (show 2 * (n / 2 - (m + 1)) + 1 < 40 by omega)
    have eg1 := hg _ hi
    unfold sp_so
    by_cases hb : isB (g (2 * (n / 2 - (m + 1))))
    · obtain ⟨S1, t1, t2, tI, t3⟩ := m_speaks hM hs h hr hb
      have hA36 : ce_A S1 36 = ce_A S 36 := mq_A t2.1 36 (by decide) (by decide) (by decide)
      have hA35 : ce_A S1 35 = ce_A S 35 := mq_A t2.1 35 (by decide) (by decide) (by decide)
      have eg2 : ce_A S1 36 0 (40 * j + (2 * (n / 2 - (m + 1)) + 1)) = g (2 * (n / 2 - (m + 1)) + 1) := by rw [hA36]; exact hg _ hi1
      by_cases ho : sp_st (sp_hea (w_E w) r (g (2 * (n / 2 - (m + 1))))) = 0
      · by_cases hsa : sp_sa (sp_hea (w_E w) r (g (2 * (n / 2 - (m + 1))))) = g (2 * (n / 2 - (m + 1)) + 1)
        · obtain ⟨S2, j1, j2⟩ := ih (by omega) (sp_hea (w_E w) r (g (2 * (n / 2 - (m + 1))))) S1 (some (.inl (g (2 * (n / 2 - (m + 1)))))) (MX_mq hM t2.1) t3 (rok_hea hr h0 hb) (by rw [ho]; decide) (by rw [hA35]; exact hn) (by rw [hA36]; exact hg)
          refine ⟨S2, mo_trans t2 j1, ce_by tl_X12_isJustSo (fun kk => sg_X12_isJustSo_5 (nI s) (nI j) (nI (2 * (n / 2 - (m + 1)))) z4 S kk) ?_⟩
          simp only [ej, if_neg hjn, hn, if_neg h1, q_add_eq, q_sub_eq, q_mul_eq, q_and_eq, q_div_eq, q_rem_eq, q_ushr_eq, q_neg_eq, q_i2b_eq, q_i2s_eq, e40, nJ_succ, b1, b3, if_neg b2, eg1, m_isB1 S hb, Option.bind_some, i_10, if_false, t1, if_pos ho, e2, if_neg hin]
          rw [show 40 * j + 2 * (n / 2 - (m + 1)) + 1 = 40 * j + (2 * (n / 2 - (m + 1)) + 1) by omega]
          simp only [b3, if_neg b4, t3.2.2.2.1, eg2, if_pos hsa, e22, if_pos hb, if_pos (And.intro ho hsa)]
          exact ce_kk_of j2
        · refine ⟨S1, t2, ce_by tl_X12_isJustSo (fun kk => sg_X12_isJustSo_5 (nI s) (nI j) (nI (2 * (n / 2 - (m + 1)))) z4 S kk) ?_⟩
          simp only [ej, if_neg hjn, hn, if_neg h1, q_add_eq, q_sub_eq, q_mul_eq, q_and_eq, q_div_eq, q_rem_eq, q_ushr_eq, q_neg_eq, q_i2b_eq, q_i2s_eq, e40, nJ_succ, b1, b3, if_neg b2, eg1, m_isB1 S hb, Option.bind_some, i_10, if_false, t1, if_pos ho, e2, if_neg hin]
          rw [show 40 * j + 2 * (n / 2 - (m + 1)) + 1 = 40 * j + (2 * (n / 2 - (m + 1)) + 1) by omega]
          simp only [b3, if_neg b4, t3.2.2.2.1, eg2, if_neg hsa, if_pos hb]
          rw [if_neg (fun q => hsa q.2)]; rfl
      · refine ⟨S1, t2, ce_by tl_X12_isJustSo (fun kk => sg_X12_isJustSo_5 (nI s) (nI j) (nI (2 * (n / 2 - (m + 1)))) z4 S kk) ?_⟩
        simp only [ej, if_neg hjn, hn, if_neg h1, q_add_eq, q_sub_eq, q_mul_eq, q_and_eq, q_div_eq, q_rem_eq, q_ushr_eq, q_neg_eq, q_i2b_eq, q_i2s_eq, e40, nJ_succ, b1, b3, if_neg b2, eg1, m_isB1 S hb, Option.bind_some, i_10, if_false, t1, if_neg ho, if_pos hb]
        rw [if_neg (fun q => ho q.1)]; rfl
    · refine ⟨S, mo_refl s S, ce_by tl_X12_isJustSo (fun kk => sg_X12_isJustSo_5 (nI s) (nI j) (nI (2 * (n / 2 - (m + 1)))) z4 S kk) ?_⟩
      simp only [ej, if_neg hjn, hn, if_neg h1, q_add_eq, q_sub_eq, q_mul_eq, q_and_eq, q_div_eq, q_rem_eq, q_ushr_eq, q_neg_eq, q_i2b_eq, q_i2s_eq, e40, nJ_succ, b1, b3, if_neg b2, eg1, m_isB0 S hb, Option.bind_some, if_true, if_neg hb]; rfl
theorem m_just {w : sp_W} {S : ce_S} (hM : MX w S) {s : Nat} (hs : s < 6) {r : sp_R} (h : mr S s r) (hk : sp_k r < 6) (j n : Nat) (hj : j < 4) (g : Nat → Int32) (h40 : n ≤ 40) (he : n % 2 = 0) (hn : ce_A S 35 0 j = nI n) (hg : ∀ e, e < n → ce_A S 36 0 (40 * j + e) = g e) : ∃ S1, F_X12_isJustSo [.inr (.inl (20, 0)), .inl (nI s), .inl (nI j)] S = some (sp_b (sp_so (w_E w) g (n / 2) (n / 2) (sp_beg (w_E w) r)), S1) ∧ mo s S S1 := by
  obtain ⟨S1, b1, b2, b3⟩ := m_begins hM hs h
  have hA36 : ce_A S1 36 = ce_A S 36 := mq_A b2.1 36 (by decide) (by decide) (by decide)
  have hA35 : ce_A S1 35 = ce_A S 35 := mq_A b2.1 35 (by decide) (by decide) (by decide)
  obtain ⟨S2, j1, j2⟩ := m_just5 (w := w) hs j n hj g h40 he (n / 2) (Nat.le_refl _) (sp_beg (w_E w) r) S1 none (MX_mq hM b2.1) b3 (rok_beg _ hk) (by show ¬ (0 : Int32) = 1; decide) (by rw [hA35]; exact hn) (by rw [hA36]; exact hg)
  rw [Nat.sub_self] at j2
  refine ⟨S2, fI_by tl_X12_isJustSo (gd_r rfl rfl) (fun kk => sg_X12_isJustSo_0 (nI s) (nI j) S kk) ?_, mo_trans b2 j1⟩
  simp only [b1, Option.bind_some]
  exact ce_kk_of j2
/-- kinds, numbers, and costs but for one -/
def kk3 (n s : Nat) (f : Nat → sp_R) (S : ce_S) : Prop := ∀ i, i < n → ce_A S 21 0 i = nI (sp_k (f i)) ∧ ce_A S 23 0 i = sp_nu (f i) ∧ (¬ i = s → ce_A S 22 0 i = sp_co (f i))
theorem kk3_mo {n s : Nat} {f : Nat → sp_R} {S S' : ce_S} (h : kk3 n s f S) (o : mo s S S') : kk3 n s f S' := fun i hi => by
  rw [o.2.2.1.1, o.2.2.1.2.1, o.2.2.1.2.2]; exact h i hi
theorem kk3_22 {n s : Nat} {f : Nat → sp_R} {S : ce_S} (h : kk3 n s f S) (v : Int32) : kk3 n s f (ce_sA S 22 0 s v) := fun i hi => by
  obtain ⟨a, b, c⟩ := h i hi
  refine ⟨?_, ?_, fun q => ?_⟩
  · rw [r_A_sA, if_neg (by decide)]; exact a
  · rw [r_A_sA, if_neg (by decide)]; exact b
  · rw [r_A_sA, if_pos rfl, if_pos rfl, if_neg q]; exact c q
theorem KG_sA {n : Nat} {f : Nat → sp_R} {S : ce_S} (h : KG n f S) (t e : Nat) (v : Int32) (ht : t ≠ 33) : KG n f (ce_sA S t 0 e v) := by
  intro i hi
  have := h i hi
  unfold kpt at this ⊢
  have e33 : ce_A (ce_sA S t 0 e v) 33 = ce_A S 33 := by
    funext a b
    rw [r_A_sA, if_neg (fun q => ht q.symm)]
  rw [e33]; exact this
theorem m_his47 {w : sp_W} {f : Nat → sp_R} {s : Nat} (hs : s < w_n w) (hf : ∀ i, i < w_n w → rok (f i)) (z : Int32) (j n : Nat) (hj : j < 4) (g : Nat → Int32) (h40 : n ≤ 40) (he : n % 2 = 0) : ∀ m, m ≤ 1000 → ∀ (acc : Int32 × Int32 × Int32) (S : ce_S), MX w S → kk3 (w_n w) s f S → KG (w_n w) f S → ce_A S 35 0 j = nI n → (∀ e, e < n → ce_A S 36 0 (40 * j + e) = g e) → (acc.2.1 = -1 ∨ 0 ≤ acc.2.1) → ∃ S1, mq S S1 ∧ (∀ i, i < w_n w → mr S1 i (f i)) ∧ ce_Ev tb_X12_hisCost 47 (0, 0) [some (.inr (.inl (20, 0))), some (.inl (nI s)), some (.inl (nI j)), some (.inl z), some (.inl (sp_co (f s))), some (.inl acc.1), some (.inl acc.2.1), some (.inl acc.2.2), some (.inl (nI (1000 - m)))] [] S (some (.inl (sp_t3 z (sp_his (w_E w) (f s) g (n / 2) m acc))), S1) := by
  intro m
  induction m with
  | zero =>
    intro _ acc S hM hk hg hn hc ha
    have h6 : s < 6 := Nat.lt_of_lt_of_le hs hM.1.2
    have e2 : (nI s).toNatClampNeg = s := nI_clamp (by omega)
    have hin : ¬ (nI s < 0 ∨ 6 ≤ s) := nJ_in h6 (by decide)
    have o1 : mq S (ce_sA S 22 0 s (sp_co (f s))) := mq_sA S 22 0 s _ (by decide)
    have hk2 : ∀ i, i < w_n w → ce_A (ce_sA S 22 0 s (sp_co (f s))) 21 0 i = nI (sp_k (f i)) ∧ ce_A (ce_sA S 22 0 s (sp_co (f s))) 22 0 i = sp_co (f i) ∧ ce_A (ce_sA S 22 0 s (sp_co (f s))) 23 0 i = sp_nu (f i) := fun i hi => by
      obtain ⟨a, b, c⟩ := kk3_22 hk (sp_co (f s)) i hi
      refine ⟨a, ?_, b⟩
      by_cases q : i = s
      · subst q; rw [r_A_sA]; simp only [if_true]
      · exact c q
    obtain ⟨S1, p1, p2, p3, p4⟩ := m_back1 (g := f) (MX_mq hM o1) hk2 (KG_sA hg 22 s _ (by decide))
    refine ⟨S1, mq_trans o1 (mt_mq p2), p4, ce_by tl_X12_hisCost (fun kk => sg_X12_hisCost_47 (nI s) (nI j) z (sp_co (f s)) acc.1 acc.2.1 acc.2.2 (nI (1000 - 0)) S kk) ?_⟩
    have h1 : (999 : Int32) < nI (1000 - 0) := by decide
    simp only [if_pos h1, e2, if_neg hin, hM.1.1, p1, Option.bind_some]
    unfold sp_his sp_t3
    by_cases y0 : z = 0
    · simp only [if_pos y0]
    by_cases y1 : z = 1
    · simp only [if_neg y0, if_pos y1]
    · simp only [if_neg y0, if_neg y1]
  | succ m ih =>
    intro hm acc S hM hk hg hn hc ha
    have h6 : s < 6 := Nat.lt_of_lt_of_le hs hM.1.2
    have e2 : (nI s).toNatClampNeg = s := nI_clamp (by omega)
    have hin : ¬ (nI s < 0 ∨ 6 ≤ s) := nJ_in h6 (by decide)
    have em : 1000 - (m + 1) = 999 - m := by omega
    have h1 : ¬ (999 : Int32) < nI (999 - m) := by rw [show (999 : Int32) = nI 999 from rfl, nJ_lt (by omega) (by omega)]; omega
    have e1 : nI (999 - m) + 1 = nI (1000 - m) := by rw [nJ_succ, show 999 - m + 1 = 1000 - m by omega]
    have o1 : mq S (ce_sA S 22 0 s (nI (999 - m))) := mq_sA S 22 0 s _ (by decide)
    have hA36 : ce_A (ce_sA S 22 0 s (nI (999 - m))) 36 = ce_A S 36 := mq_A o1 36 (by decide) (by decide) (by decide)
    have hA35 : ce_A (ce_sA S 22 0 s (nI (999 - m))) 35 = ce_A S 35 := mq_A o1 35 (by decide) (by decide) (by decide)
    have hmr : mr (ce_sA S 22 0 s (nI (999 - m))) s (sp_k (f s), nI (999 - m), sp_nu (f s), ce_A S 24 0 s, ce_A S 25 0 s, ce_A S 26 0 s, ce_A S 27 0 s) := by
      obtain ⟨a, b, c⟩ := hk s hs
      refine ⟨?_, ?_, ?_, ?_, ?_, ?_, ?_⟩ <;> simp only [r_I_sR, r_I_sA, r_I_sF, r_I_sQ, r_R_sI, r_R_sA, r_R_sF, r_R_sQ, r_A_sI, r_A_sR, r_A_sQ, r_L_sI, r_L_sR, r_L_sA, r_L_sF, r_L_sQ, r_C_sI, r_C_sR, r_C_sA, r_C_sF, r_C_sQ, r_Q_sI, r_Q_sR, r_Q_sA, r_Q_sF, r_I_sI, r_R_sR, r_A_sA, r_A_sF, r_Q_sQ, r_I_tA, r_R_tA, r_L_tA, r_C_tA, r_Q_tA, r_A_tA, reduceIte, Nat.reduceEqDiff] <;> first | exact a | exact b | rfl
    obtain ⟨S1, g1, g2⟩ := m_just (MX_mq hM o1) h6 hmr (hf s hs).1 j n hj g h40 he (by rw [hA35]; exact hn) (by rw [hA36]; exact hc)
    have g1 : F_X12_isJustSo [.inr (.inl (20, 0)), .inl (nI s), .inl (nI j)] (ce_sA S 22 0 s (nI (999 - m))) = some (sp_b (sp_so (w_E w) g (n / 2) (n / 2) (sp_beg (w_E w) (sp_wc (f s) (nI (999 - m))))), S1) := g1
    have q2 := mq_trans o1 g2.1
    have M1 := MX_mq hM q2
    have k1 := kk3_mo (kk3_22 hk (nI (999 - m))) g2
    have kg1 := KG_mo (KG_sA hg 22 s (nI (999 - m)) (by decide)) g2
    have n1 : ce_A S1 35 0 j = nI n := by rw [mq_A q2 35 (by decide) (by decide) (by decide)]; exact hn
    have c1 : ∀ e, e < n → ce_A S1 36 0 (40 * j + e) = g e := by rw [mq_A q2 36 (by decide) (by decide) (by decide)]; exact hc
    rw [em]
    unfold sp_his
    by_cases hb : sp_so (w_E w) g (n / 2) (n / 2) (sp_beg (w_E w) (sp_wc (f s) (nI (999 - m)))) = true
    · rw [hb] at g1
      by_cases hl : acc.2.1 = -1
      · have hl' : ¬ (0 : Int32) ≤ acc.2.1 := by rw [hl]; decide
        obtain ⟨S2, j1, jk, j2⟩ := ih (by omega) (acc.1 + 1, nI (999 - m), nI (999 - m)) S1 M1 k1 kg1 n1 c1 (Or.inr (i_not_lt (nI_nn _ (by omega))))
        refine ⟨S2, mq_trans q2 j1, jk, ce_by tl_X12_hisCost (fun kk => sg_X12_hisCost_47 (nI s) (nI j) z (sp_co (f s)) acc.1 acc.2.1 acc.2.2 (nI (999 - m)) S kk) ?_⟩
        simp only [if_neg h1, e2, if_neg hin, g1, Option.bind_some, sp_b, if_true, i_10, if_false, if_neg hl', if_pos hl, q_add_eq, e1, hb]
        exact ce_kk_of j2
      · have hl' : (0 : Int32) ≤ acc.2.1 := by rcases ha with q | q; exact absurd q hl; exact q
        obtain ⟨S2, j1, jk, j2⟩ := ih (by omega) (acc.1 + 1, acc.2.1, nI (999 - m)) S1 M1 k1 kg1 n1 c1 ha
        refine ⟨S2, mq_trans q2 j1, jk, ce_by tl_X12_hisCost (fun kk => sg_X12_hisCost_47 (nI s) (nI j) z (sp_co (f s)) acc.1 acc.2.1 acc.2.2 (nI (999 - m)) S kk) ?_⟩
        simp only [if_neg h1, e2, if_neg hin, g1, Option.bind_some, sp_b, if_true, i_10, if_false, if_pos hl', if_neg hl, q_add_eq, e1, hb]
        exact ce_kk_of j2
    · have hb' : sp_so (w_E w) g (n / 2) (n / 2) (sp_beg (w_E w) (sp_wc (f s) (nI (999 - m)))) = false := by simpa using hb
      rw [hb'] at g1
      have hz : sp_b false = 0 := rfl
      obtain ⟨S2, j1, jk, j2⟩ := ih (by omega) acc S1 M1 k1 kg1 n1 c1 ha
      refine ⟨S2, mq_trans q2 j1, jk, ce_by tl_X12_hisCost (fun kk => sg_X12_hisCost_47 (nI s) (nI j) z (sp_co (f s)) acc.1 acc.2.1 acc.2.2 (nI (999 - m)) S kk) ?_⟩
      simp only [if_neg h1, e2, if_neg hin, g1, Option.bind_some, hz, if_true, q_add_eq, e1, if_neg hb]
      exact ce_kk_of j2
theorem rem21 (n : Nat) (h : n ≤ 40) : (nI n - nI n / 2 * 2 = 1) = (n % 2 = 1) := by
  refine propext ?_
  have : ∀ n : Fin 41, (nI n.1 - nI n.1 / 2 * 2 = 1) ↔ (n.1 % 2 = 1) := by decide
  exact this ⟨n, by omega⟩
theorem miss_nn {x : Int32} (h : x = -1 ∨ 0 ≤ x) : (¬ x = -1 ∧ 0 ≤ x) ∨ (x = -1 ∧ ¬ 0 ≤ x) := by
  rcases h with h | h
  · exact Or.inr ⟨h, by rw [h]; decide⟩
  · exact Or.inl ⟨fun q => by rw [q] at h; exact absurd h (by decide), h⟩
theorem m_hisCost {w : sp_W} {S : ce_S} (hR : MR w S) (x y z : Int32) : ∃ S', F_X12_hisCost [.inr (.inl (20, 0)), .inl x, .inl y, .inl z] S = some (s_hisCost w x y z, S') ∧ MR w S' ∧ cEq S S' := by
  obtain ⟨hM, hf⟩ := id hR
  unfold s_hisCost
  by_cases h1 : isS w x
  · by_cases h2 : is4 y
    · by_cases h3 : 0 ≤ z ∧ z ≤ 2
      · obtain ⟨s, hs, h6, rfl, e2, hin, hsel⟩ := m_sel hM h1
        obtain ⟨j, hj, rfl, f2, fin, fsh, f3, f4, f5, f6, f7⟩ := m_sh hM h2
        rw [if_pos (show isS w (nI s) ∧ is4 (nI j) ∧ 0 ≤ z ∧ z ≤ 2 from ⟨h1, h2, h3⟩), hsel, fsh]
        rcases miss_nn f6 with ⟨hm, hm'⟩ | ⟨hm, hm'⟩
        · rw [if_neg hm]
          by_cases hr : (w_h w j).2.1 % 2 = 1
          · rw [if_pos hr]
            have hr2 : nI (w_h w j).2.1 - nI (w_h w j).2.1 / 2 * 2 = 1 := by rw [rem21 _ f5]; exact hr
            refine ⟨S, fI_by tl_X12_hisCost (gd_r rfl rfl) (fun kk => sg_X12_hisCost_0 (nI s) (nI j) z S kk) ?_, hR, cEq_refl S⟩
            simp only [m_isS1 hM h1, m_is41 S h2, f_isIn1 S h3, Option.bind_some, i_10, if_false, f2, if_neg fin, f3, if_pos hm', f4, q_rem_eq, if_pos hr2]
          · rw [if_neg hr]
            have hr2 : ¬ nI (w_h w j).2.1 - nI (w_h w j).2.1 / 2 * 2 = 1 := by rw [rem21 _ f5]; exact hr
            obtain ⟨S1, k1, k2, k3, k4, k5, k6, k7⟩ := m_keep1 hM hf
            have h22 : ce_A S1 22 0 s = sp_co (w_r w s) := (k4 s hs).1.2.1
            obtain ⟨S2, j1, jk, j2⟩ := m_his47 (w := w) (f := w_r w) hs (fun i hi => (hf i hi).2) z j (w_h w j).2.1 hj (w_h w j).2.2 f5 (by omega) 1000 (Nat.le_refl _) (0, -1, -1) S1 k3 (fun i hi => ⟨(k4 i hi).1.1, (k4 i hi).1.2.2.1, fun _ => (k4 i hi).1.2.1⟩) k5 (by rw [k7 35 (by decide)]; exact f4) (by rw [k7 36 (by decide)]; exact f7) (Or.inl rfl)
            rw [Nat.sub_self] at j2
            refine ⟨S2, fI_by tl_X12_hisCost (gd_r rfl rfl) (fun kk => sg_X12_hisCost_0 (nI s) (nI j) z S kk) ?_, ⟨MX_mq hM (mq_trans k2 j1), fun i hi => ⟨jk i hi, (hf i hi).2⟩⟩, cEq_mq (mq_trans k2 j1)⟩
            simp only [m_isS1 hM h1, m_is41 S h2, f_isIn1 S h3, Option.bind_some, i_10, if_false, f2, if_neg fin, f3, if_pos hm', f4, q_rem_eq, if_neg hr2, k1, e2, if_neg hin, h22]
            exact ce_kk_of j2
        · rw [if_pos hm]
          refine ⟨S, fI_by tl_X12_hisCost (gd_r rfl rfl) (fun kk => sg_X12_hisCost_0 (nI s) (nI j) z S kk) ?_, hR, cEq_refl S⟩
          simp only [m_isS1 hM h1, m_is41 S h2, f_isIn1 S h3, Option.bind_some, i_10, if_false, f2, if_neg fin, f3, if_neg hm']
      · refine ⟨S, fI_by tl_X12_hisCost (gd_r rfl rfl) (fun kk => sg_X12_hisCost_0 x y z S kk) ?_, hR, cEq_refl S⟩
        rw [if_neg (show ¬ (isS w x ∧ is4 y ∧ 0 ≤ z ∧ z ≤ 2) from fun q => h3 q.2.2)]
        simp only [m_isS1 hM h1, m_is41 S h2, f_isIn0 S h3, Option.bind_some, i_10, if_false, if_true]
    · refine ⟨S, fI_by tl_X12_hisCost (gd_r rfl rfl) (fun kk => sg_X12_hisCost_0 x y z S kk) ?_, hR, cEq_refl S⟩
      rw [if_neg (show ¬ (isS w x ∧ is4 y ∧ 0 ≤ z ∧ z ≤ 2) from fun q => h2 q.2.1)]
      simp only [m_isS1 hM h1, m_is40 S h2, Option.bind_some, i_10, if_false, if_true]
  · refine ⟨S, fI_by tl_X12_hisCost (gd_r rfl rfl) (fun kk => sg_X12_hisCost_0 x y z S kk) ?_, hR, cEq_refl S⟩
    rw [if_neg (show ¬ (isS w x ∧ is4 y ∧ 0 ≤ z ∧ z ≤ 2) from fun q => h1 q.1)]
    simp only [m_isS0 hM h1, Option.bind_some, if_true]
/-! judged -/
/-- the end of what was tried with seller s: put back -/
theorem m_back2 {w : sp_W} {f : Nat → sp_R} {s : Nat} {S1 S : ce_S} (hM : MX w S1) (hf : MSr (w_n w) f S1) (hg : KG (w_n w) f S1) (o : mo s S1 S) : ∃ S2, F_X12_putsBack [.inr (.inl (20, 0)), .inl 1, .inl (ce_I S 20 7 0)] S = some S2 ∧ mq S S2 ∧ MSr (w_n w) f S2 ∧ ce_I S2 = ce_I S := by
  have M := MX_mq hM o.1
  obtain ⟨S2, p1, p2, p3, p4⟩ := m_back1 (g := f) M (mo_k3 o (MSr_k3 hf)) (KG_mo hg o)
  rw [← M.1.1] at p1
  exact ⟨S2, p1, mt_mq p2, fun i hi => ⟨p4 i hi, (hf i hi).2⟩, mt_I p2⟩
theorem m_jud23 {w : sp_W} {f : Nat → sp_R} {s : Nat} {S1 : ce_S} (hs : s < w_n w) (hM1 : MX w S1) (hf1 : MSr (w_n w) f S1) (hg1 : KG (w_n w) f S1) (j n : Nat) (hj : j < 4) (g : Nat → Int32) (h40 : n ≤ 40) (hn : ce_A S1 35 0 j = nI n) (hc : ∀ e, e < n → ce_A S1 36 0 (40 * j + e) = g e) : ∀ m, m ≤ n → ∀ (r : sp_R) (S : ce_S) (z5 : Option ce_V), mo s S1 S → mr S s r → rok r → ∃ S2, mq S S2 ∧ MSr (w_n w) f S2 ∧ ce_Ev tb_X12_judge 23 (0, 0) [some (.inr (.inl (20, 0))), some (.inl (nI s)), some (.inl (nI j)), some (.inl (-1)), some (.inl (nI (n - m))), z5] [] S (some (.inl (sp_jud (w_E w) g n m r)), S2) := by
  have h6 : s < 6 := Nat.lt_of_lt_of_le hs hM1.1.2
  have e2 : (nI s).toNatClampNeg = s := nI_clamp (by omega)
  have hin : ¬ (nI s < 0 ∨ 6 ≤ s) := nJ_in h6 (by decide)
  have ej : (nI j).toNatClampNeg = j := nI_clamp (by omega)
  have hjn : ¬ (nI j < 0 ∨ 4 ≤ j) := nJ_in hj (by decide)
  intro m
  induction m with
  | zero =>
    intro _ r S z5 o h hr
    obtain ⟨S2, p1, p2, p3, _⟩ := m_back2 hM1 hf1 hg1 o
    have n1 : ce_A S 35 0 j = nI n := by rw [mq_A o.1 35 (by decide) (by decide) (by decide)]; exact hn
    refine ⟨S2, p2, p3, ce_by tl_X12_judge (fun kk => sg_X12_judge_23 (nI s) (nI j) (-1) (nI (n - 0)) z5 S kk) ?_⟩
    simp only [ej, if_neg hjn, n1, if_pos (show nI n ≤ nI (n - 0) from Int32.le_refl _), p1, Option.bind_some]; rfl
  | succ m ih =>
    intro hm r S z5 o h hr
    have n1 : ce_A S 35 0 j = nI n := by rw [mq_A o.1 35 (by decide) (by decide) (by decide)]; exact hn
    have hi : n - (m + 1) < n := by omega
    have h1 : ¬ nI n ≤ nI (n - (m + 1)) := by rw [nJ_le (by omega) (by omega)]; omega
    have e1 : nI (n - (m + 1)) + 1 = nI (n - m) := by rw [nJ_succ, show n - (m + 1) + 1 = n - m by omega]
    obtain ⟨b1, b2⟩ := b160 hj (show n - (m + 1) < 40 by omega)
    have c1 : ce_A S 36 0 (40 * j + (n - (m + 1))) = g (n - (m + 1)) := by rw [mq_A o.1 36 (by decide) (by decide) (by decide)]; exact hc _ hi
    have hm1 : ¬ (0 : Int32) ≤ -1 := by decide
    unfold sp_jud
    -- found: the next turn puts back
    have found : ∀ (z : Option ce_V), ∃ S2, mq S S2 ∧ MSr (w_n w) f S2 ∧ ce_Ev tb_X12_judge 23 (0, 0) [some (.inr (.inl (20, 0))), some (.inl (nI s)), some (.inl (nI j)), some (.inl (nI (n - (m + 1)))), some (.inl (nI (n - m))), z] [] S (some (.inl (nI (n - (m + 1)))), S2) := by
      intro z
      obtain ⟨S2, p1, p2, p3, _⟩ := m_back2 hM1 hf1 hg1 o
      refine ⟨S2, p2, p3, ce_by tl_X12_judge (fun kk => sg_X12_judge_23 (nI s) (nI j) (nI (n - (m + 1))) (nI (n - m)) z S kk) ?_⟩
      have hge : (0 : Int32) ≤ nI (n - (m + 1)) := i_not_lt (nI_nn _ (by omega))
      by_cases q : nI n ≤ nI (n - m)
      · simp only [ej, if_neg hjn, n1, if_pos q, p1, Option.bind_some]
      · simp only [ej, if_neg hjn, n1, if_neg q, if_pos hge, p1, Option.bind_some]
    by_cases ho : sp_st r = 0
    · by_cases hb : isB (g (n - (m + 1)))
      · obtain ⟨S2, t1, t2, tI, t3⟩ := m_speaks (MX_mq hM1 o.1) h6 h hr hb
        obtain ⟨S3, j1, jk, j2⟩ := ih (by omega) (sp_hea (w_E w) r (g (n - (m + 1)))) S2 (some (.inl (g (n - (m + 1))))) (mo_trans o t2) t3 (rok_hea hr (by rw [ho]; decide) hb)
        refine ⟨S3, mq_trans t2.1 j1, jk, ce_by tl_X12_judge (fun kk => sg_X12_judge_23 (nI s) (nI j) (-1) (nI (n - (m + 1))) z5 S kk) ?_⟩
        simp only [ej, if_neg hjn, n1, if_neg h1, if_neg hm1, q_add_eq, q_sub_eq, q_mul_eq, q_and_eq, q_div_eq, q_rem_eq, q_ushr_eq, q_neg_eq, q_i2b_eq, q_i2s_eq, e40, b1, if_neg b2, e2, if_neg hin, h.2.2.2.2.2.1, if_pos ho, c1, m_isB1 S hb, Option.bind_some, i_10, if_false, t1, e1, if_pos (And.intro ho hb)]
        exact ce_kk_of j2
      · obtain ⟨S2, p2, p3, p4⟩ := found (some (.inl (g (n - (m + 1)))))
        refine ⟨S2, p2, p3, ce_by tl_X12_judge (fun kk => sg_X12_judge_23 (nI s) (nI j) (-1) (nI (n - (m + 1))) z5 S kk) ?_⟩
        rw [if_neg (show ¬ (sp_st r = 0 ∧ isB (g (n - (m + 1)))) from fun q => hb q.2)]
        simp only [ej, if_neg hjn, n1, if_neg h1, if_neg hm1, q_add_eq, q_sub_eq, q_mul_eq, q_and_eq, q_div_eq, q_rem_eq, q_ushr_eq, q_neg_eq, q_i2b_eq, q_i2s_eq, e40, b1, if_neg b2, e2, if_neg hin, h.2.2.2.2.2.1, if_pos ho, c1, m_isB0 S hb, Option.bind_some, if_true, e1]
        exact ce_kk_of p4
    · obtain ⟨S2, p2, p3, p4⟩ := found (some (.inl (g (n - (m + 1)))))
      refine ⟨S2, p2, p3, ce_by tl_X12_judge (fun kk => sg_X12_judge_23 (nI s) (nI j) (-1) (nI (n - (m + 1))) z5 S kk) ?_⟩
      rw [if_neg (show ¬ (sp_st r = 0 ∧ isB (g (n - (m + 1)))) from fun q => ho q.1)]
      simp only [ej, if_neg hjn, n1, if_neg h1, if_neg hm1, q_add_eq, q_sub_eq, q_mul_eq, q_and_eq, q_div_eq, q_rem_eq, q_ushr_eq, q_neg_eq, q_i2b_eq, q_i2s_eq, e40, b1, if_neg b2, e2, if_neg hin, h.2.2.2.2.2.1, if_neg ho, c1, e1]
      exact ce_kk_of p4
theorem m_judge {w : sp_W} {S : ce_S} (hR : MR w S) (x y : Int32) : ∃ S', F_X12_judge [.inr (.inl (20, 0)), .inl x, .inl y] S = some (s_judge w x y, S') ∧ MR w S' ∧ cEq S S' := by
  obtain ⟨hM, hf⟩ := id hR
  unfold s_judge
  by_cases h1 : isS w x
  · by_cases h2 : is4 y
    · obtain ⟨s, hs, h6, rfl, e2, hin, hsel⟩ := m_sel hM h1
      obtain ⟨j, hj, rfl, f2, fin, fsh, f3, f4, f5, f6, f7⟩ := m_sh hM h2
      rw [if_pos (show isS w (nI s) ∧ is4 (nI j) from ⟨h1, h2⟩), hsel, fsh]
      rcases miss_nn f6 with ⟨hm, hm'⟩ | ⟨hm, hm'⟩
      · rw [if_neg hm]
        obtain ⟨S1, k1, k2, k3, k4, k5, k6, k7⟩ := m_keep1 hM hf
        obtain ⟨S2, j1, jk, j2⟩ := m_jud23 hs k3 k4 k5 j (w_h w j).2.1 hj (w_h w j).2.2 f5 (by rw [k7 35 (by decide)]; exact f4) (by rw [k7 36 (by decide)]; exact f7) _ (Nat.le_refl _) (w_r w s) S1 none (mo_refl s S1) (k4 s hs).1 (k4 s hs).2
        rw [Nat.sub_self] at j2
        refine ⟨S2, fI_by tl_X12_judge (gd_r rfl rfl) (fun kk => sg_X12_judge_0 (nI s) (nI j) S kk) ?_, ⟨MX_mq hM (mq_trans k2 j1), jk⟩, cEq_mq (mq_trans k2 j1)⟩
        simp only [m_isS1 hM h1, m_is41 S h2, Option.bind_some, i_10, if_false, f2, if_neg fin, f3, if_pos hm', k1]
        exact ce_kk_of j2
      · rw [if_pos hm]
        refine ⟨S, fI_by tl_X12_judge (gd_r rfl rfl) (fun kk => sg_X12_judge_0 (nI s) (nI j) S kk) ?_, hR, cEq_refl S⟩
        simp only [m_isS1 hM h1, m_is41 S h2, Option.bind_some, i_10, if_false, f2, if_neg fin, f3, if_neg hm']
    · refine ⟨S, fI_by tl_X12_judge (gd_r rfl rfl) (fun kk => sg_X12_judge_0 x y S kk) ?_, hR, cEq_refl S⟩
      rw [if_neg (show ¬ (isS w x ∧ is4 y) from fun q => h2 q.2)]
      simp only [m_isS1 hM h1, m_is40 S h2, Option.bind_some, i_10, if_false, if_true]
  · refine ⟨S, fI_by tl_X12_judge (gd_r rfl rfl) (fun kk => sg_X12_judge_0 x y S kk) ?_, hR, cEq_refl S⟩
    rw [if_neg (show ¬ (isS w x ∧ is4 y) from fun q => h1 q.1)]
    simp only [m_isS0 hM h1, Option.bind_some, if_true]
/-! drawn -/
theorem u_nI (u : UInt32) : u.toInt32 = nI u.toNat := by
  show (⟨u⟩ : Int32) = ⟨UInt32.ofNat u.toNat⟩
  rw [UInt32.ofNat_toNat]
theorem db_bd (z : Int32) : isB (sp_db z) := by
  unfold sp_db
  have hu : (z.toUInt32 >>> (Int32.toUInt32 11 &&& Int32.toUInt32 31)).toNat < 2 ^ 21 := by
    rw [UInt32.toNat_shiftRight]
    have : z.toUInt32.toNat < 2 ^ 32 := z.toUInt32.toNat_lt
    rw [show (Int32.toUInt32 11 &&& Int32.toUInt32 31).toNat % 32 = 11 by decide, Nat.shiftRight_eq_div_pow]
    omega
  rw [u_nI]
  generalize (z.toUInt32 >>> (Int32.toUInt32 11 &&& Int32.toUInt32 31)).toNat = a at hu
  have h1 : a / 400 * 400 ≤ a := Nat.div_mul_le_self a 400
  rw [show (400 : Int32) = nI 400 from rfl, nJ_div a 400 (by omega) (by decide), nJ_mul, nJ_sub _ _ h1]
  have h2 : a - a / 400 * 400 < 400 := by
    have := Nat.mod_lt a (show 0 < 400 by decide)
    rw [Nat.mod_eq_sub_div_mul] at this
    exact this
  exact ⟨i_not_lt (nI_nn _ (by omega)), by rw [show (1999 : Int32) = nI 1999 from rfl, nJ_le (by omega) (by omega)]; omega⟩
theorem m_dr7 {w : sp_W} {f : Nat → sp_R} {s : Nat} {S1 : ce_S} (hs : s < w_n w) (hM1 : MX w S1) (hf1 : MSr (w_n w) f S1) (hg1 : KG (w_n w) f S1) (y : Int32) : ∀ m, m ≤ 30 → ∀ (z : Int32) (r : sp_R) (S : ce_S), mo s S1 S → mr S s r → rok r → ∃ S2, mq S S2 ∧ MSr (w_n w) f S2 ∧ ce_Ev tb_X12_drawnBy 7 (0, 0) [some (.inr (.inl (20, 0))), some (.inl (nI s)), some (.inl y), some (.inl z), some (.inl (nI (30 - m)))] [] S (some (.inl (sp_st (sp_drl (w_E w) m z r))), S2) := by
  have h6 : s < 6 := Nat.lt_of_lt_of_le hs hM1.1.2
  have e2 : (nI s).toNatClampNeg = s := nI_clamp (by omega)
  have hin : ¬ (nI s < 0 ∨ 6 ≤ s) := nJ_in h6 (by decide)
  intro m
  induction m with
  | zero =>
    intro _ z r S o h hr
    obtain ⟨S2, p1, p2, p3, _⟩ := m_back2 hM1 hf1 hg1 o
    refine ⟨S2, p2, p3, ce_by tl_X12_drawnBy (fun kk => sg_X12_drawnBy_7 (nI s) y z (nI (30 - 0)) S kk) ?_⟩
    have h1 : (30 : Int32) ≤ nI (30 - 0) := by decide
    simp only [if_pos h1, e2, if_neg hin, p1, Option.bind_some, h.2.2.2.2.2.1]; rfl
  | succ m ih =>
    intro hm z r S o h hr
    have h1 : ¬ (30 : Int32) ≤ nI (30 - (m + 1)) := by rw [show (30 : Int32) = nI 30 from rfl, nJ_le (by omega) (by omega)]; omega
    have e1 : nI (30 - (m + 1)) + 1 = nI (30 - m) := by rw [nJ_succ, show 30 - (m + 1) + 1 = 30 - m by omega]
    unfold sp_drl
    by_cases ho : sp_st r = 0
    · obtain ⟨S2, t1, t2, tI, t3⟩ := m_speaks (MX_mq hM1 o.1) h6 h hr (db_bd (sp_z z))
      obtain ⟨S3, j1, jk, j2⟩ := ih (by omega) (sp_z z) (sp_hea (w_E w) r (sp_db (sp_z z))) S2 (mo_trans o t2) t3 (rok_hea hr (by rw [ho]; decide) (db_bd (sp_z z)))
      refine ⟨S3, mq_trans t2.1 j1, jk, ce_by tl_X12_drawnBy (fun kk => sg_X12_drawnBy_7 (nI s) y z (nI (30 - (m + 1))) S kk) ?_⟩
      have ez : z * 1103515245 + 12345 = sp_z z := rfl
      simp only [if_neg h1, e2, if_neg hin, h.2.2.2.2.2.1, if_pos ho, q_rem_eq, q_ushr_eq, q_add_eq, q_mul_eq, e1, ez]
      rw [show ((sp_z z).toUInt32 >>> (Int32.toUInt32 11 &&& Int32.toUInt32 31)).toInt32 - ((sp_z z).toUInt32 >>> (Int32.toUInt32 11 &&& Int32.toUInt32 31)).toInt32 / 400 * 400 = sp_db (sp_z z) from rfl, t1]
      exact ce_kk_of j2
    · obtain ⟨S2, p1, p2, p3, _⟩ := m_back2 hM1 hf1 hg1 o
      refine ⟨S2, p2, p3, ce_by tl_X12_drawnBy (fun kk => sg_X12_drawnBy_7 (nI s) y z (nI (30 - (m + 1))) S kk) ?_⟩
      simp only [if_neg h1, e2, if_neg hin, h.2.2.2.2.2.1, if_neg ho, p1, Option.bind_some]
theorem m_drawnBy {w : sp_W} {S : ce_S} (hR : MR w S) {s : Nat} (hs : s < w_n w) (y : Int32) : ∃ S', F_X12_drawnBy [.inr (.inl (20, 0)), .inl (nI s), .inl y] S = some (sp_dr (w_E w) (w_r w s) y, S') ∧ MR w S' ∧ mq S S' := by
  obtain ⟨hM, hf⟩ := id hR
  obtain ⟨S1, k1, k2, k3, k4, k5, k6, k7⟩ := m_keep1 hM hf
  obtain ⟨S2, j1, jk, j2⟩ := m_dr7 hs k3 k4 k5 y 30 (Nat.le_refl _) y (w_r w s) S1 (mo_refl s S1) (k4 s hs).1 (k4 s hs).2
  rw [Nat.sub_self] at j2
  refine ⟨S2, fI_by tl_X12_drawnBy (gd_r rfl rfl) (fun kk => sg_X12_drawnBy_0 (nI s) y S kk) ?_, ⟨MX_mq hM (mq_trans k2 j1), jk⟩, mq_trans k2 j1⟩
  simp only [k1, Option.bind_some]
  exact ce_kk_of j2
theorem m_drawn {w : sp_W} {S : ce_S} (hR : MR w S) (x y : Int32) : ∃ S', F_X12_drawn [.inr (.inl (20, 0)), .inl x, .inl y] S = some (s_drawn w x y, S') ∧ MR w S' ∧ cEq S S' := by
  obtain ⟨hM, hf⟩ := id hR
  unfold s_drawn
  by_cases h1 : isS w x
  · obtain ⟨s, hs, h6, rfl, e2, hin, hsel⟩ := m_sel hM h1
    obtain ⟨S1, g1, g2, g3⟩ := m_drawnBy hR hs y
    refine ⟨S1, fI_by tl_X12_drawn (gd_r rfl rfl) (fun kk => sg_X12_drawn_0 (nI s) y S kk) ?_, g2, cEq_mq g3⟩
    rw [if_pos h1, hsel]
    simp only [m_isS1 hM h1, Option.bind_some, i_10, if_false, g1]
  · refine ⟨S, fI_by tl_X12_drawn (gd_r rfl rfl) (fun kk => sg_X12_drawn_0 x y S kk) ?_, hR, cEq_refl S⟩
    rw [if_neg h1]
    simp only [m_isS0 hM h1, Option.bind_some, if_true]
theorem m_gcd4 (x0 x1 : Int32) (S : ce_S) : ∀ (b a : Nat) (z : Option ce_V), a ≤ 30 → b ≤ 30 → ce_Ev tb_X12_divisor 4 (0, 0) [some (.inl x0), some (.inl x1), some (.inl (nI a)), some (.inl (nI b)), z] [] S (some (.inl (nI (Nat.gcd a b))), S) := by
  intro b
  induction b using Nat.strongRecOn with
  | ind b ih =>
    intro a z ha hb
    refine ce_by tl_X12_divisor (fun kk => sg_X12_divisor_4 x0 x1 (nI a) (nI b) z S kk) ?_
    by_cases h0 : b = 0
    · subst h0
      rw [if_pos (show nI 0 = 0 from rfl), Nat.gcd_zero_right]
    · have e0 : ¬ nI b = 0 := by rw [show (0 : Int32) = nI 0 from rfl, nJ_inj (by omega) (by omega)]; exact h0
      have hr : q_rem (nI a) (nI b) = nI (a % b) := by
        rw [q_rem_eq]; exact rem_31 ⟨a, by omega⟩ ⟨b, by omega⟩
      have hlt : a % b < b := Nat.mod_lt _ (by omega)
      have hgg : Nat.gcd b (a % b) = Nat.gcd a b := by
        rw [Nat.gcd_comm b (a % b), Nat.gcd_comm a b]
        exact (Nat.gcd_rec b a).symm
      rw [if_neg e0, if_neg e0]
      simp only [hr]
      have := ih (a % b) hlt b (some (.inl (nI (a % b)))) hb (by omega)
      rw [hgg] at this
      exact ce_kk_of this
theorem m_gcd (a b : Nat) (S : ce_S) (ha : a ≤ 30) (hb : b ≤ 30) : F_X12_divisor [.inl (nI a), .inl (nI b)] S = some (nI (Nat.gcd a b), S) := by
  refine fI_by tl_X12_divisor (gd_n rfl rfl) (fun kk => sg_X12_divisor_0 (nI a) (nI b) S kk) ?_
  exact ce_kk_of (m_gcd4 (nI a) (nI b) S b a none ha hb)
theorem m_odds20 {w : sp_W} (y z : Int32) {s : Nat} (hs : s < w_n w) (N : Nat) (h0 : 0 < N) (h30 : N ≤ 30) : ∀ m, m ≤ N → ∀ (acc : Nat) (S : ce_S), MR w S → acc + m ≤ 30 → ∃ S1, MR w S1 ∧ mq S S1 ∧ ce_Ev tb_X12_odds 20 (0, 0) [some (.inr (.inl (20, 0))), some (.inl (nI s)), some (.inl y), some (.inl (nI N)), some (.inl z), some (.inl (nI acc)), some (.inl (nI (N - m)))] [] S (some (.inr (.inr (sp_oddr z (sp_odd (w_E w) (w_r w s) y N m acc) N))), S1) := by
  intro m
  induction m with
  | zero =>
    intro _ acc S hR ha
    refine ⟨S, hR, mq_refl S, ce_by tl_X12_odds (fun kk => sg_X12_odds_20 (nI s) y (nI N) z (nI acc) (nI (N - 0)) S kk) ?_⟩
    have h1 : nI N ≤ nI (N - 0) := Int32.le_refl _
    have hgp : 0 < Nat.gcd acc N := Nat.gcd_pos_of_pos_right _ h0
    have hgl : Nat.gcd acc N ≤ N := Nat.gcd_le_right _ h0
    have hne : ¬ nI (Nat.gcd acc N) = 0 := by rw [show (0 : Int32) = nI 0 from rfl, nJ_inj (by omega) (by omega)]; omega
    have d1 : nI acc / nI (Nat.gcd acc N) = nI (acc / Nat.gcd acc N) := div_31 ⟨acc, by omega⟩ ⟨Nat.gcd acc N, by omega⟩
    have d2 : nI N / nI (Nat.gcd acc N) = nI (N / Nat.gcd acc N) := div_31 ⟨N, by omega⟩ ⟨Nat.gcd acc N, by omega⟩
    rw [if_pos h1, m_gcd acc N S (by omega) h30]
    unfold sp_odd sp_oddr
    by_cases z0 : z = 0
    · simp only [if_pos z0, Option.bind_some, if_neg hne, q_div_eq, d1]
    · simp only [if_neg z0, Option.bind_some, if_neg hne, q_div_eq, d2]
  | succ m ih =>
    intro hm acc S hR ha
    have h1 : ¬ nI N ≤ nI (N - (m + 1)) := by rw [nJ_le (by omega) (by omega)]; omega
    have e1 : nI (N - (m + 1)) + 1 = nI (N - m) := by rw [nJ_succ, show N - (m + 1) + 1 = N - m by omega]
    obtain ⟨S1, g1, g2, g3⟩ := m_drawnBy hR hs (y + nI (N - (m + 1)))
    unfold sp_odd
    by_cases hd : sp_dr (w_E w) (w_r w s) (y + nI (N - (m + 1))) = 1
    · obtain ⟨S2, j1, jq, j2⟩ := ih (by omega) (acc + 1) S1 g2 (by omega)
      refine ⟨S2, j1, mq_trans g3 jq, ce_by tl_X12_odds (fun kk => sg_X12_odds_20 (nI s) y (nI N) z (nI acc) (nI (N - (m + 1))) S kk) ?_⟩
      simp only [if_neg h1, q_add_eq, g1, Option.bind_some, if_pos hd, e1, nJ_succ]
      exact ce_kk_of j2
    · obtain ⟨S2, j1, jq, j2⟩ := ih (by omega) acc S1 g2 (by omega)
      refine ⟨S2, j1, mq_trans g3 jq, ce_by tl_X12_odds (fun kk => sg_X12_odds_20 (nI s) y (nI N) z (nI acc) (nI (N - (m + 1))) S kk) ?_⟩
      simp only [if_neg h1, q_add_eq, g1, Option.bind_some, if_neg hd, e1, Int32.add_zero]
      exact ce_kk_of j2
theorem m_odds {w : sp_W} {S : ce_S} (hR : MR w S) (x y n z : Int32) : ∃ S', F_X12_odds [.inr (.inl (20, 0)), .inl x, .inl y, .inl n, .inl z] S = some (s_odds w x y n z, S') ∧ MR w S' ∧ cEq S S' := by
  obtain ⟨hM, hf⟩ := id hR
  unfold s_odds
  by_cases h1 : isS w x
  · by_cases h2 : 1 ≤ n ∧ n ≤ 30
    · by_cases h3 : 0 ≤ z ∧ z ≤ 1
      · obtain ⟨s, hs, h6, rfl, e2, hin, hsel⟩ := m_sel hM h1
        obtain ⟨N, n0, n30, rfl, en⟩ := many_nat h2
        obtain ⟨S1, j1, jq, j2⟩ := m_odds20 (w := w) y z hs N n0 n30 N (Nat.le_refl _) 0 S hR (by omega)
        rw [Nat.sub_self] at j2
        refine ⟨S1, fL_by tl_X12_odds (gd_r rfl rfl) (fun kk => sg_X12_odds_0 (nI s) y (nI N) z S kk) ?_, j1, cEq_mq jq⟩
        rw [if_pos (show isS w (nI s) ∧ (1 ≤ nI N ∧ nI N ≤ 30) ∧ 0 ≤ z ∧ z ≤ 1 from ⟨h1, h2, h3⟩), hsel, en]
        simp only [m_isS1 hM h1, f_isIn1 S h2, f_isIn1 S h3, Option.bind_some, i_10, if_false]
        exact ce_kk_of j2
      · refine ⟨S, fL_by tl_X12_odds (gd_r rfl rfl) (fun kk => sg_X12_odds_0 x y n z S kk) ?_, hR, cEq_refl S⟩
        rw [if_neg (show ¬ (isS w x ∧ (1 ≤ n ∧ n ≤ 30) ∧ 0 ≤ z ∧ z ≤ 1) from fun q => h3 q.2.2)]
        simp only [m_isS1 hM h1, f_isIn1 S h2, f_isIn0 S h3, Option.bind_some, i_10, if_false, if_true]
    · refine ⟨S, fL_by tl_X12_odds (gd_r rfl rfl) (fun kk => sg_X12_odds_0 x y n z S kk) ?_, hR, cEq_refl S⟩
      rw [if_neg (show ¬ (isS w x ∧ (1 ≤ n ∧ n ≤ 30) ∧ 0 ≤ z ∧ z ≤ 1) from fun q => h2 q.2.1)]
      simp only [m_isS1 hM h1, f_isIn0 S h2, Option.bind_some, i_10, if_false, if_true]
  · refine ⟨S, fL_by tl_X12_odds (gd_r rfl rfl) (fun kk => sg_X12_odds_0 x y n z S kk) ?_, hR, cEq_refl S⟩
    rw [if_neg (show ¬ (isS w x ∧ (1 ≤ n ∧ n ≤ 30) ∧ 0 ≤ z ∧ z ≤ 1) from fun q => h1 q.1)]
    simp only [m_isS0 hM h1, Option.bind_some, if_true]
