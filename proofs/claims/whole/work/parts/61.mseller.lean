/-! the reference's sellers -/
/-- seller s alone changes, and what is thought with -/
def mo (s : Nat) (S S' : ce_S) : Prop := mq S S' ∧ (∀ t i, i ≠ s → 21 ≤ t → t ≤ 27 → ce_A S' t 0 i = ce_A S t 0 i) ∧ (ce_A S' 21 = ce_A S 21 ∧ ce_A S' 22 = ce_A S 22 ∧ ce_A S' 23 = ce_A S 23) ∧ ce_A S' 33 = ce_A S 33 ∧ (∀ k, 35 ≤ k → ce_I S' 20 k 0 = ce_I S 20 k 0)
theorem mo_refl (s : Nat) (S : ce_S) : mo s S S := ⟨mq_refl S, fun _ _ _ _ _ => rfl, ⟨rfl, rfl, rfl⟩, rfl, fun _ _ => rfl⟩
theorem mo_trans {s : Nat} {S S' S'' : ce_S} (h : mo s S S') (g : mo s S' S'') : mo s S S'' := ⟨mq_trans h.1 g.1, fun t i q1 q2 q3 => (g.2.1 t i q1 q2 q3).trans (h.2.1 t i q1 q2 q3), ⟨g.2.2.1.1.trans h.2.2.1.1, g.2.2.1.2.1.trans h.2.2.1.2.1, g.2.2.1.2.2.trans h.2.2.1.2.2⟩, g.2.2.2.1.trans h.2.2.2.1, fun k q => (g.2.2.2.2 k q).trans (h.2.2.2.2 k q)⟩
theorem mo_sA (s : Nat) (S : ce_S) (t : Nat) (v : Int32) (h : 24 ≤ t ∧ t ≤ 27) : mo s S (ce_sA S t 0 s v) := by
  refine ⟨mq_sA S t 0 s v ⟨by omega, h.2⟩, fun t' i q _ _ => ?_, ⟨?_, ?_, ?_⟩, ?_, fun _ _ => rfl⟩
  · rw [r_A_sA]
    by_cases e : t' = t
    · rw [if_pos e, if_pos rfl, if_neg q]
    · rw [if_neg e]
  all_goals
    funext i e
    rw [r_A_sA, if_neg (by omega)]
theorem mo_tA (s : Nat) (S : ce_S) (f : Nat → Nat → Int32) : mo s S (ce_tA S 32 f) := ⟨mq_tA S f, fun t i _ q1 q2 => by rw [r_A_tA, if_neg (by omega)], ⟨rfl, rfl, rfl⟩, by rw [r_A_tA, if_neg (by decide)], fun _ _ => rfl⟩
theorem mo_sI (s : Nat) (S : ce_S) (v : Int32) : mo s S (ce_sI S 20 34 0 v) := by
  refine ⟨mq_sI S 34 v (by decide), fun _ _ _ _ _ => rfl, ⟨rfl, rfl, rfl⟩, rfl, fun k q => ?_⟩
  rw [r_I_sI, if_pos rfl, if_neg (by omega)]
theorem mo_mr {s : Nat} {S S' : ce_S} (h : mo s S S') {i : Nat} (hi : i ≠ s) (r : sp_R) : mr S' i r = mr S i r := by
  unfold mr
  rw [h.2.1 21 i hi (by decide) (by decide), h.2.1 22 i hi (by decide) (by decide), h.2.1 23 i hi (by decide) (by decide), h.2.1 24 i hi (by decide) (by decide), h.2.1 25 i hi (by decide) (by decide), h.2.1 26 i hi (by decide) (by decide), h.2.1 27 i hi (by decide) (by decide)]
theorem mr_tA {S : ce_S} {s : Nat} {r : sp_R} (h : mr S s r) (f : Nat → Nat → Int32) : mr (ce_tA S 32 f) s r := h
theorem mr_sI {S : ce_S} {s : Nat} {r : sp_R} (h : mr S s r) (t k i : Nat) (v : Int32) : mr (ce_sI S t k i v) s r := h
theorem mr_24 {S : ce_S} {s : Nat} {r : sp_R} (h : mr S s r) (v : Int32) : mr (ce_sA S 24 0 s v) s (sp_k r, sp_co r, sp_nu r, v, sp_cu r, sp_st r, sp_pr r) := by
  obtain ⟨h1, h2, h3, h4, h5, h6, h7⟩ := h
  refine ⟨?_, ?_, ?_, ?_, ?_, ?_, ?_⟩ <;> simp only [r_I_sR, r_I_sA, r_I_sF, r_I_sQ, r_R_sI, r_R_sA, r_R_sF, r_R_sQ, r_A_sI, r_A_sR, r_A_sQ, r_L_sI, r_L_sR, r_L_sA, r_L_sF, r_L_sQ, r_C_sI, r_C_sR, r_C_sA, r_C_sF, r_C_sQ, r_Q_sI, r_Q_sR, r_Q_sA, r_Q_sF, r_I_sI, r_R_sR, r_A_sA, r_A_sF, r_Q_sQ, r_I_tA, r_R_tA, r_L_tA, r_C_tA, r_Q_tA, r_A_tA, reduceIte, Nat.reduceEqDiff] <;> first | assumption | rfl
theorem mr_25 {S : ce_S} {s : Nat} {r : sp_R} (h : mr S s r) (v : Int32) : mr (ce_sA S 25 0 s v) s (sp_k r, sp_co r, sp_nu r, sp_sa r, v, sp_st r, sp_pr r) := by
  obtain ⟨h1, h2, h3, h4, h5, h6, h7⟩ := h
  refine ⟨?_, ?_, ?_, ?_, ?_, ?_, ?_⟩ <;> simp only [r_I_sR, r_I_sA, r_I_sF, r_I_sQ, r_R_sI, r_R_sA, r_R_sF, r_R_sQ, r_A_sI, r_A_sR, r_A_sQ, r_L_sI, r_L_sR, r_L_sA, r_L_sF, r_L_sQ, r_C_sI, r_C_sR, r_C_sA, r_C_sF, r_C_sQ, r_Q_sI, r_Q_sR, r_Q_sA, r_Q_sF, r_I_sI, r_R_sR, r_A_sA, r_A_sF, r_Q_sQ, r_I_tA, r_R_tA, r_L_tA, r_C_tA, r_Q_tA, r_A_tA, reduceIte, Nat.reduceEqDiff] <;> first | assumption | rfl
theorem mr_26 {S : ce_S} {s : Nat} {r : sp_R} (h : mr S s r) (v : Int32) : mr (ce_sA S 26 0 s v) s (sp_k r, sp_co r, sp_nu r, sp_sa r, sp_cu r, v, sp_pr r) := by
  obtain ⟨h1, h2, h3, h4, h5, h6, h7⟩ := h
  refine ⟨?_, ?_, ?_, ?_, ?_, ?_, ?_⟩ <;> simp only [r_I_sR, r_I_sA, r_I_sF, r_I_sQ, r_R_sI, r_R_sA, r_R_sF, r_R_sQ, r_A_sI, r_A_sR, r_A_sQ, r_L_sI, r_L_sR, r_L_sA, r_L_sF, r_L_sQ, r_C_sI, r_C_sR, r_C_sA, r_C_sF, r_C_sQ, r_Q_sI, r_Q_sR, r_Q_sA, r_Q_sF, r_I_sI, r_R_sR, r_A_sA, r_A_sF, r_Q_sQ, r_I_tA, r_R_tA, r_L_tA, r_C_tA, r_Q_tA, r_A_tA, reduceIte, Nat.reduceEqDiff] <;> first | assumption | rfl
theorem mr_27 {S : ce_S} {s : Nat} {r : sp_R} (h : mr S s r) (v : Int32) : mr (ce_sA S 27 0 s v) s (sp_k r, sp_co r, sp_nu r, sp_sa r, sp_cu r, sp_st r, v) := by
  obtain ⟨h1, h2, h3, h4, h5, h6, h7⟩ := h
  refine ⟨?_, ?_, ?_, ?_, ?_, ?_, ?_⟩ <;> simp only [r_I_sR, r_I_sA, r_I_sF, r_I_sQ, r_R_sI, r_R_sA, r_R_sF, r_R_sQ, r_A_sI, r_A_sR, r_A_sQ, r_L_sI, r_L_sR, r_L_sA, r_L_sF, r_L_sQ, r_C_sI, r_C_sR, r_C_sA, r_C_sF, r_C_sQ, r_Q_sI, r_Q_sR, r_Q_sA, r_Q_sF, r_I_sI, r_R_sR, r_A_sA, r_A_sF, r_Q_sQ, r_I_tA, r_R_tA, r_L_tA, r_C_tA, r_Q_tA, r_A_tA, reduceIte, Nat.reduceEqDiff] <;> first | assumption | rfl
theorem mr_22 {S : ce_S} {s : Nat} {r : sp_R} (h : mr S s r) (v : Int32) : mr (ce_sA S 22 0 s v) s (sp_wc r v) := by
  obtain ⟨h1, h2, h3, h4, h5, h6, h7⟩ := h
  refine ⟨?_, ?_, ?_, ?_, ?_, ?_, ?_⟩ <;> simp only [r_I_sR, r_I_sA, r_I_sF, r_I_sQ, r_R_sI, r_R_sA, r_R_sF, r_R_sQ, r_A_sI, r_A_sR, r_A_sQ, r_L_sI, r_L_sR, r_L_sA, r_L_sF, r_L_sQ, r_C_sI, r_C_sR, r_C_sA, r_C_sF, r_C_sQ, r_Q_sI, r_Q_sR, r_Q_sA, r_Q_sF, r_I_sI, r_R_sR, r_A_sA, r_A_sF, r_Q_sQ, r_I_tA, r_R_tA, r_L_tA, r_C_tA, r_Q_tA, r_A_tA, reduceIte, Nat.reduceEqDiff] <;> first | assumption | rfl
theorem mr_21 {S : ce_S} {s : Nat} {r : sp_R} (h : mr S s r) (k : Nat) : mr (ce_sA S 21 0 s (nI k)) s (sp_wk r k) := by
  obtain ⟨h1, h2, h3, h4, h5, h6, h7⟩ := h
  refine ⟨?_, ?_, ?_, ?_, ?_, ?_, ?_⟩ <;> simp only [r_I_sR, r_I_sA, r_I_sF, r_I_sQ, r_R_sI, r_R_sA, r_R_sF, r_R_sQ, r_A_sI, r_A_sR, r_A_sQ, r_L_sI, r_L_sR, r_L_sA, r_L_sF, r_L_sQ, r_C_sI, r_C_sR, r_C_sA, r_C_sF, r_C_sQ, r_Q_sI, r_Q_sR, r_Q_sA, r_Q_sF, r_I_sI, r_R_sR, r_A_sA, r_A_sF, r_Q_sQ, r_I_tA, r_R_tA, r_L_tA, r_C_tA, r_Q_tA, r_A_tA, reduceIte, Nat.reduceEqDiff] <;> first | assumption | rfl
theorem mr_ne {S : ce_S} {i s t : Nat} {r : sp_R} (h : mr S i r) (v : Int32) (hi : i ≠ s) : mr (ce_sA S t 0 s v) i r := by
  have e : ∀ t', ce_A (ce_sA S t 0 s v) t' 0 i = ce_A S t' 0 i := fun t' => by
    rw [r_A_sA]
    by_cases q : t' = t
    · rw [if_pos q, if_pos rfl, if_neg hi]
    · rw [if_neg q]
  unfold mr
  rw [e, e, e, e, e, e, e]
  exact h
/-! numbers -/
theorem nJ_div (a b : Nat) (ha : a < 2 ^ 31) (hb : b < 2 ^ 31) : nI a / nI b = nI (a / b) := by
  rw [i_eq, Int32.toInt_div, i_nI ha, i_nI hb]
  have h1 : a / b ≤ a := Nat.div_le_self a b
  rw [i_nI (by omega)]
  rw [show (a : Int).tdiv (b : Int) = ((a / b : Nat) : Int) from rfl]
  generalize a / b = c at h1 ⊢
  rw [Int.bmod_eq_of_le] <;> omega
theorem nJ_sub (a b : Nat) (h : b ≤ a) : nI a - nI b = nI (a - b) := by
  have e : nI a = nI (a - b) + nI b := by rw [nJ_add, Nat.sub_add_cancel h]
  rw [e, Int32.sub_eq_add_neg, Int32.add_assoc, show nI b + -nI b = 0 by rw [← Int32.sub_eq_add_neg, Int32.sub_self], Int32.add_zero]
/-- a number within bounds -/
theorem nat_bd {x : Int32} {n : Nat} (hn : n < 2 ^ 31) (h : 0 ≤ x ∧ x ≤ nI n) : ∃ k, k ≤ n ∧ x = nI k := by
  have e := nJ_of h.1
  have h3 : x.toInt < 2 ^ 31 := Int32.toInt_lt x
  have h4 : x.toNatClampNeg < 2 ^ 31 := by rw [show x.toNatClampNeg = x.toInt.toNat from rfl]; omega
  refine ⟨x.toNatClampNeg, ?_, e⟩
  have := h.2
  rw [e, nJ_le h4 hn] at this
  exact this
theorem bid_nat {x : Int32} (h : isB x) : ∃ k, k ≤ 1999 ∧ x = nI k := nat_bd (n := 1999) (by decide) h
theorem far_pos {sa bid : Int32} (h1 : isB sa) (h2 : isB bid) : ((0 : Int32) < sa - bid) = (bid < sa) := by
  obtain ⟨a, ha, rfl⟩ := bid_nat h1
  obtain ⟨b, hb, rfl⟩ := bid_nat h2
  by_cases h : b < a
  · rw [nJ_sub a b (by omega), show (0 : Int32) = nI 0 from rfl, nJ_lt (by omega) (by omega), nJ_lt (by omega) (by omega)]
    exact propext ⟨fun _ => h, fun _ => by omega⟩
  · have e : nI a - nI b = -(nI (b - a)) := by rw [← nJ_sub b a (by omega), Int32.neg_sub]
    rw [nJ_lt (by omega) (by omega)]
    refine propext ⟨fun q => ?_, fun q => absurd q h⟩
    rw [e, i_lt, Int32.toInt_neg, i_nI (by omega), Int.bmod_eq_of_le (by omega) (by omega)] at q
    have e0 : ((0 : Int32)).toInt = 0 := by decide
    rw [e0] at q; omega
theorem nb_bd {sa bid p L : Int32} (h1 : isB sa) (h2 : isB bid) (hp : 0 ≤ p ∧ p ≤ 10) (h : bid < sa) : 0 ≤ bid + p * (sa - bid) / 10 := by
  obtain ⟨a, ha, rfl⟩ := bid_nat h1
  obtain ⟨b, hb, rfl⟩ := bid_nat h2
  obtain ⟨q, hq, rfl⟩ := nat_bd (n := 10) (by decide) hp
  rw [nJ_lt (by omega) (by omega)] at h
  have hm : q * (a - b) ≤ 10 * 1999 := Nat.mul_le_mul hq (by omega)
  have hd : q * (a - b) / 10 ≤ q * (a - b) := Nat.div_le_self _ _
  rw [nJ_sub a b (by omega), nJ_mul, show (10 : Int32) = nI 10 from rfl, nJ_div _ _ (by omega) (by decide), nJ_add, show (0 : Int32) = nI 0 from rfl, nJ_le (by omega) (by omega)]
  omega
/-! steps, takes, stays -/
theorem m_steps {w : sp_W} {S : ce_S} (hM : MX w S) {s : Nat} (hs : s < 6) {r : sp_R} (h : mr S s r) (hr : rok r) {bid : Int32} (hb : isB bid) : F_X12_stepsOf [.inr (.inl (20, 0)), .inl (nI s), .inl bid] S = some (if bid < sp_sa r then sp_steps (sp_k r) (sp_sa r) bid (sp_cu r) (sp_nu r) (w_ho w) else 0, S) := by
  refine fI_by tl_X12_stepsOf (gd_r rfl rfl) (fun kk => sg_X12_stepsOf_0 (nI s) bid S kk) ?_
  have e2 : (nI s).toNatClampNeg = s := nI_clamp (by omega)
  have hin : ¬ (nI s < 0 ∨ 6 ≤ s) := nJ_in hs (by decide)
  obtain ⟨h1, h2, h3, h4, h5, h6, h7⟩ := h
  simp only [e2, if_neg hin, h1, h3, h4, h5, q_add_eq, q_sub_eq, q_mul_eq, q_and_eq, q_div_eq, q_rem_eq, q_ushr_eq, q_neg_eq, q_i2b_eq, q_i2s_eq, far_pos hr.2.1 hb, hM.2.1.2.1]
  by_cases c : bid < sp_sa r
  · simp only [if_pos c]
    have hk : sp_k r = 0 ∨ sp_k r = 1 ∨ sp_k r = 2 ∨ sp_k r = 3 ∨ sp_k r = 4 ∨ sp_k r = 5 := by have := hr.1; omega
    rcases hk with e | e | e | e | e | e <;> rw [e]
    · rw [if_pos (by decide)]; rfl
    · rw [if_neg (by decide), if_pos (by decide)]; rfl
    · rw [if_neg (by decide), if_neg (by decide), if_pos (by decide)]
      unfold sp_steps
      simp only
      by_cases d : sp_nu r + 1 ≤ (sp_sa r - bid) / 4
      · rw [if_pos d]
        by_cases d2 : sp_nu r + 1 < (sp_sa r - bid) / 4
        · rw [if_pos d2]
        · rw [if_neg d2]
          have : sp_nu r + 1 = (sp_sa r - bid) / 4 := by
            rw [i_le] at d; rw [i_lt] at d2; rw [i_eq]; omega
          rw [this]
      · rw [if_neg d, if_neg (fun q => d (by rw [i_lt] at q; rw [i_le]; omega))]
    · rw [if_neg (by decide), if_neg (by decide), if_neg (by decide), if_pos (by decide)]; rfl
    · rw [if_neg (by decide), if_neg (by decide), if_neg (by decide), if_neg (by decide), if_pos (by decide)]
      unfold sp_steps
      simp only
      by_cases d : sp_cu r = 3
      · rw [if_pos d, if_pos d]
      · rw [if_neg d, if_neg d]
    · rw [if_neg (by decide), if_neg (by decide), if_neg (by decide), if_neg (by decide), if_neg (by decide)]; rfl
  · simp only [if_neg c]
theorem d_le (a b : Int32) : (a < b ∧ decide (b ≤ a) = false) ∨ (¬ a < b ∧ decide (b ≤ a) = true) := by
  by_cases h : a < b
  · exact Or.inl ⟨h, decide_eq_false (i_lt_not h)⟩
  · exact Or.inr ⟨h, decide_eq_true (i_not_lt h)⟩
theorem d_lt (a b : Int32) : (a ≤ b ∧ decide (b < a) = false) ∨ (¬ a ≤ b ∧ decide (b < a) = true) := by
  by_cases h : a ≤ b
  · exact Or.inl ⟨h, decide_eq_false (i_le_not h)⟩
  · exact Or.inr ⟨h, decide_eq_true (i_not_le h)⟩
theorem m_takes {S : ce_S} {s : Nat} (hs : s < 6) {r : sp_R} (h : mr S s r) (hr : rok r) (bid l n : Int32) : F_X12_doesTake [.inr (.inl (20, 0)), .inl (nI s), .inl bid, .inl l, .inl n] S = some (sp_b (sp_takes (sp_k r) bid (sp_cu r) (sp_sa r) l n), S) := by
  refine fI_by tl_X12_doesTake (gd_r rfl rfl) (fun kk => sg_X12_doesTake_0 (nI s) bid l n S kk) ?_
  have e2 : (nI s).toNatClampNeg = s := nI_clamp (by omega)
  have hin : ¬ (nI s < 0 ∨ 6 ≤ s) := nJ_in hs (by decide)
  obtain ⟨h1, h2, h3, h4, h5, h6, h7⟩ := h
  have hk : sp_k r = 0 ∨ sp_k r = 1 ∨ sp_k r = 2 ∨ sp_k r = 3 ∨ sp_k r = 4 ∨ sp_k r = 5 := by have := hr.1; omega
  simp only [e2, if_neg hin, h1, h4, h5]
  rcases d_le bid l with ⟨a1, b1⟩ | ⟨a1, b1⟩ <;> rcases d_le bid n with ⟨a2, b2⟩ | ⟨a2, b2⟩ <;> rcases d_le bid (sp_sa r) with ⟨a3, b3⟩ | ⟨a3, b3⟩ <;> rcases d_lt (sp_cu r) 3 with ⟨a4, b4⟩ | ⟨a4, b4⟩ <;> simp only [a1, a2, a3, a4, if_true, if_false] <;> rcases hk with e | e | e | e | e | e <;> rw [e] <;> simp (decide := true) only [sp_takes, b1, b2, b3, b4, if_true, if_false, sp_b, Bool.and_true, Bool.and_false, Bool.or_true, Bool.or_false]
theorem m_stays {S : ce_S} {s : Nat} (hs : s < 6) {r : sp_R} (h : mr S s r) (hr : rok r) : F_X12_staysOf [.inr (.inl (20, 0)), .inl (nI s)] S = some (sp_stays (sp_k r) (sp_nu r), S) := by
  refine fI_by tl_X12_staysOf (gd_r rfl rfl) (fun kk => sg_X12_staysOf_0 (nI s) S kk) ?_
  have e2 : (nI s).toNatClampNeg = s := nI_clamp (by omega)
  have hin : ¬ (nI s < 0 ∨ 6 ≤ s) := nJ_in hs (by decide)
  obtain ⟨h1, h2, h3, h4, h5, h6, h7⟩ := h
  have hk : sp_k r = 0 ∨ sp_k r = 1 ∨ sp_k r = 2 ∨ sp_k r = 3 ∨ sp_k r = 4 ∨ sp_k r = 5 := by have := hr.1; omega
  simp only [e2, if_neg hin, h1, h3, q_add_eq, q_sub_eq, q_mul_eq, q_and_eq, q_div_eq, q_rem_eq, q_ushr_eq, q_neg_eq, q_i2b_eq, q_i2s_eq]
  rcases hk with e | e | e | e | e | e <;> rw [e] <;> simp (decide := true) only [sp_stays, if_true, if_false]
/-! he begins, hears, sells -/
theorem m_begins {w : sp_W} {S : ce_S} (hM : MX w S) {s : Nat} (hs : s < 6) {r : sp_R} (h : mr S s r) : ∃ S', F_X12_begins [.inr (.inl (20, 0)), .inl (nI s)] S = some S' ∧ mo s S S' ∧ mr S' s (sp_beg (w_E w) r) := by
  have e2 : (nI s).toNatClampNeg = s := nI_clamp (by omega)
  have hin : ¬ (nI s < 0 ∨ 6 ≤ s) := nJ_in hs (by decide)
  have h1 := mr_27 (mr_25 (mr_26 h 0) 0) (-1)
  have o1 : mo s S (ce_sA (ce_sA (ce_sA S 26 0 s 0) 25 0 s 0) 27 0 s (-1)) := mo_trans (mo_trans (mo_sA s S 26 0 (by decide)) (mo_sA s _ 25 0 (by decide))) (mo_sA s _ 27 (-1) (by decide))
  have M1 := MX_mq hM o1.1
  obtain ⟨f1, g1⟩ := m_says M1 hs h1.2.1 h1.2.2.2.2.1 1 (by decide) (MX_rows M1).2.1 0 0
  have o2 := mo_trans o1 (mo_tA s _ f1)
  have M2 := MX_mq hM o2.1
  have h2 := mr_tA h1 f1
  obtain ⟨f2, g2⟩ := m_least M2 hs h2.2.1 h2.2.2.2.2.1 0 0
  have o3 := mo_trans o2 (mo_tA s _ f2)
  have h3 := mr_24 (mr_tA h2 f2) (sp_fir (w_E w) (sp_k r, sp_co r, sp_nu r, 0, 0, 0, -1))
  refine ⟨_, fV_by tl_X12_begins (gd_r rfl rfl) (fun kk => sg_X12_begins_0 (nI s) S kk) ?_, mo_trans o3 (mo_sA s _ 24 (sp_fir (w_E w) (sp_k r, sp_co r, sp_nu r, 0, 0, 0, -1)) (by decide)), h3⟩
  simp only [e2, if_neg hin]
  rw [show (.inl 1 : ce_V) = .inl (nI 1) from rfl, g1]
  simp only [Option.bind_some, g2, f_bounded]
  rfl
theorem m_sp48 {S : ce_S} {s : Nat} (hs : s < 6) {r : sp_R} (h : mr S s r) (hr : rok r) (bid l n1 n : Int32) (hn : n = if sp_sa r < (if n1 < l then l else n1) then sp_sa r else (if n1 < l then l else n1)) : ∃ S', mo s S S' ∧ ce_I S' = ce_I S ∧ mr S' s (if sp_takes (sp_k r) bid (sp_cu r) (sp_sa r) l n = true then sp_sell r bid else if sp_stays (sp_k r) (sp_nu r) ≤ sp_cu r then (sp_k r, sp_co r, sp_nu r, sp_sa r, sp_cu r, 2, sp_pr r) else (sp_k r, sp_co r, sp_nu r, n, sp_cu r, sp_st r, sp_pr r)) ∧ ce_Ev tb_X12_speaks 48 (0, 0) [some (.inr (.inl (20, 0))), some (.inl (nI s)), some (.inl bid), some (.inl l), some (.inl n1)] [] S (some (.inl (sp_st (if sp_takes (sp_k r) bid (sp_cu r) (sp_sa r) l n = true then sp_sell r bid else if sp_stays (sp_k r) (sp_nu r) ≤ sp_cu r then (sp_k r, sp_co r, sp_nu r, sp_sa r, sp_cu r, 2, sp_pr r) else (sp_k r, sp_co r, sp_nu r, n, sp_cu r, sp_st r, sp_pr r)))), S') := by
  have e2 : (nI s).toNatClampNeg = s := nI_clamp (by omega)
  have hin : ¬ (nI s < 0 ∨ 6 ≤ s) := nJ_in hs (by decide)
  have q105 : ∀ (x4 : Int32) (S' : ce_S) (v : Int32), ce_A S' 26 0 s = v → ce_Ev tb_X12_speaks 105 (0, 0) [some (.inr (.inl (20, 0))), some (.inl (nI s)), some (.inl bid), some (.inl l), some (.inl x4)] [] S' (some (.inl v), S') := fun x4 S' v hv => ce_by tl_X12_speaks (fun kk => sg_X12_speaks_105 (nI s) bid l x4 S' kk) (by simp only [e2, if_neg hin, hv])
  have hcu : ce_A S 25 0 s = sp_cu r := h.2.2.2.2.1
  have hsa : ce_A S 24 0 s = sp_sa r := h.2.2.2.1
  have key : ∃ S' : ce_S, mo s S S' ∧ ce_I S' = ce_I S ∧ mr S' s (if sp_takes (sp_k r) bid (sp_cu r) (sp_sa r) l n = true then sp_sell r bid else if sp_stays (sp_k r) (sp_nu r) ≤ sp_cu r then (sp_k r, sp_co r, sp_nu r, sp_sa r, sp_cu r, 2, sp_pr r) else (sp_k r, sp_co r, sp_nu r, n, sp_cu r, sp_st r, sp_pr r)) ∧ ∀ (res : Option ce_V × ce_S), res = (some (.inl (sp_st (if sp_takes (sp_k r) bid (sp_cu r) (sp_sa r) l n = true then sp_sell r bid else if sp_stays (sp_k r) (sp_nu r) ≤ sp_cu r then (sp_k r, sp_co r, sp_nu r, sp_sa r, sp_cu r, 2, sp_pr r) else (sp_k r, sp_co r, sp_nu r, n, sp_cu r, sp_st r, sp_pr r)))), S') → ((F_X12_doesTake [.inr (.inl (20, 0)), .inl (nI s), .inl bid, .inl l, .inl n] S).bind fun q5 => (if q5.1 = 0 then (if (nI s) < 0 ∨ 6 ≤ s then none else ((F_X12_staysOf [.inr (.inl (20, 0)), .inl (nI s)] q5.2).bind fun q6 => (if (ce_A q5.2 25 0 s) < q6.1 then (if (nI s) < 0 ∨ 6 ≤ s then none else ce_kk tb_X12_speaks res 105 (0, 0) [some (.inr (.inl (20, 0))), some (.inl (nI s)), some (.inl bid), some (.inl l), some (.inl n)] [] (ce_sA q6.2 24 0 s n)) else (if (nI s) < 0 ∨ 6 ≤ s then none else ce_kk tb_X12_speaks res 105 (0, 0) [some (.inr (.inl (20, 0))), some (.inl (nI s)), some (.inl bid), some (.inl l), some (.inl n)] [] (ce_sA q6.2 26 0 s 2))))) else (if (nI s) < 0 ∨ 6 ≤ s then none else (if (nI s) < 0 ∨ 6 ≤ s then none else ce_kk tb_X12_speaks res 105 (0, 0) [some (.inr (.inl (20, 0))), some (.inl (nI s)), some (.inl bid), some (.inl l), some (.inl n)] [] (ce_sA (ce_sA q5.2 26 0 s 1) 27 0 s bid))))) = some res := by
    by_cases ht : sp_takes (sp_k r) bid (sp_cu r) (sp_sa r) l n = true
    · have hm := mr_27 (mr_26 h 1) bid
      refine ⟨ce_sA (ce_sA S 26 0 s 1) 27 0 s bid, mo_trans (mo_sA s _ 26 1 (by decide)) (mo_sA s _ 27 bid (by decide)), rfl, by rw [if_pos ht]; exact hm, fun res hres => ?_⟩
      rw [if_pos ht] at hres
      subst hres
      simp only [m_takes hs h hr, Option.bind_some, ht, if_neg hin, sp_b_0]
      rw [if_neg (by decide)]
      exact ce_kk_of (q105 n _ 1 hm.2.2.2.2.2.1)
    · have ht' : sp_takes (sp_k r) bid (sp_cu r) (sp_sa r) l n = false := by simpa using ht
      by_cases hst : sp_stays (sp_k r) (sp_nu r) ≤ sp_cu r
      · have hm := mr_26 h 2
        refine ⟨ce_sA S 26 0 s 2, mo_sA s _ 26 2 (by decide), rfl, by rw [if_neg ht, if_pos hst]; exact hm, fun res hres => ?_⟩
        rw [if_neg ht, if_pos hst] at hres
        subst hres
        simp only [m_takes hs h hr, Option.bind_some, ht', if_neg hin, sp_b_0, if_true, m_stays hs h hr, hcu, if_neg (i_le_not hst)]
        exact ce_kk_of (q105 n _ 2 hm.2.2.2.2.2.1)
      · have hm := mr_24 h n
        refine ⟨ce_sA S 24 0 s n, mo_sA s _ 24 n (by decide), rfl, by rw [if_neg ht, if_neg hst]; exact hm, fun res hres => ?_⟩
        rw [if_neg ht, if_neg hst] at hres
        subst hres
        simp only [m_takes hs h hr, Option.bind_some, ht', if_neg hin, sp_b_0, if_true, m_stays hs h hr, hcu, if_pos (i_not_le hst)]
        exact ce_kk_of (q105 n _ _ hm.2.2.2.2.2.1)
  obtain ⟨S', k1, kI, k2, k3⟩ := key
  refine ⟨S', k1, kI, k2, ce_by tl_X12_speaks (fun kk => sg_X12_speaks_48 (nI s) bid l n1 S kk) ?_⟩
  have k4 := k3 _ rfl
  simp only [e2, hsa, if_neg hin] at k4 ⊢
  by_cases c1 : n1 < l
  · simp only [if_pos c1] at hn
    simp only [if_neg (i_lt_not c1)]
    by_cases c2 : sp_sa r < l
    · rw [if_pos c2] at hn
      simp only [if_neg (i_lt_not c2)]
      subst hn; exact k4
    · rw [if_neg c2] at hn
      simp only [if_pos (i_not_lt c2)]
      subst hn; exact k4
  · simp only [if_neg c1] at hn
    simp only [if_pos (i_not_lt c1)]
    by_cases c2 : sp_sa r < n1
    · rw [if_pos c2] at hn
      simp only [if_neg (i_lt_not c2)]
      subst hn; exact k4
    · rw [if_neg c2] at hn
      simp only [if_pos (i_not_lt c2)]
      subst hn; exact k4
theorem m_speaks {w : sp_W} {S : ce_S} (hM : MX w S) {s : Nat} (hs : s < 6) {r : sp_R} (h : mr S s r) (hr : rok r) {bid : Int32} (hb : isB bid) : ∃ S', F_X12_speaks [.inr (.inl (20, 0)), .inl (nI s), .inl bid] S = some (sp_st (sp_hea (w_E w) r bid), S') ∧ mo s S S' ∧ ce_I S' = ce_I S ∧ mr S' s (sp_hea (w_E w) r bid) := by
  have e2 : (nI s).toNatClampNeg = s := nI_clamp (by omega)
  have hin : ¬ (nI s < 0 ∨ 6 ≤ s) := nJ_in hs (by decide)
  have hsa : ce_A S 24 0 s = sp_sa r := h.2.2.2.1
  have hcu : ce_A S 25 0 s = sp_cu r := h.2.2.2.2.1
  have h1 : mr (ce_sA S 25 0 s (sp_cu r + 1)) s (sp_cup r) := mr_25 h (sp_cu r + 1)
  have hr1 : rok (sp_cup r) := hr
  have o1 : mo s S (ce_sA S 25 0 s (sp_cu r + 1)) := mo_sA s S 25 _ (by decide)
  have M1 := MX_mq hM o1.1
  obtain ⟨f1, g1⟩ := m_least M1 hs h1.2.1 h1.2.2.2.2.1 bid (sp_sa r)
  have g1 : F_X12_leastOf [.inr (.inl (20, 0)), .inl (nI s), .inl bid, .inl (sp_sa r)] (ce_sA S 25 0 s (sp_cu r + 1)) = some (sp_lea (w_E w) (sp_cup r) bid, ce_tA (ce_sA S 25 0 s (sp_cu r + 1)) 32 f1) := g1
  have o2 := mo_trans o1 (mo_tA s _ f1)
  have M2 := MX_mq hM o2.1
  have h2 := mr_tA h1 f1
  have g2 := m_steps M2 hs h2 hr1 hb
  have h24 : ce_A (ce_tA (ce_sA S 25 0 s (sp_cu r + 1)) 32 f1) 24 0 s = sp_sa r := h2.2.2.2.1
  have h25 : ce_A (ce_tA (ce_sA S 25 0 s (sp_cu r + 1)) 32 f1) 25 0 s = sp_cu (sp_cup r) := h2.2.2.2.2.1
  have en0 : sp_sa r - (if bid < sp_sa (sp_cup r) then sp_steps (sp_k (sp_cup r)) (sp_sa (sp_cup r)) bid (sp_cu (sp_cup r)) (sp_nu (sp_cup r)) (w_ho w) else 0) = (if bid < sp_sa (sp_cup r) then sp_sa (sp_cup r) - sp_steps (sp_k (sp_cup r)) (sp_sa (sp_cup r)) bid (sp_cu (sp_cup r)) (sp_nu (sp_cup r)) (w_ho w) else sp_sa (sp_cup r)) := by
    by_cases c : bid < sp_sa (sp_cup r)
    · rw [if_pos c, if_pos c]; rfl
    · rw [if_neg c, if_neg c, Int32.sub_zero]; rfl
  have fin : ∀ (S2 : ce_S) (n1 : Int32), mo s S S2 → ce_I S2 = ce_I S → mr S2 s (sp_cup r) → n1 = (if sp_cu (sp_cup r) = 1 then (if bid < sp_sa (sp_cup r) then sp_sa (sp_cup r) - sp_steps (sp_k (sp_cup r)) (sp_sa (sp_cup r)) bid (sp_cu (sp_cup r)) (sp_nu (sp_cup r)) (w_ho w) else sp_sa (sp_cup r)) + sp_pul (w_E w) (sp_cup r) bid else (if bid < sp_sa (sp_cup r) then sp_sa (sp_cup r) - sp_steps (sp_k (sp_cup r)) (sp_sa (sp_cup r)) bid (sp_cu (sp_cup r)) (sp_nu (sp_cup r)) (w_ho w) else sp_sa (sp_cup r))) → ∃ S', mo s S S' ∧ ce_I S' = ce_I S ∧ mr S' s (sp_hea (w_E w) r bid) ∧ ce_Ev tb_X12_speaks 48 (0, 0) [some (.inr (.inl (20, 0))), some (.inl (nI s)), some (.inl bid), some (.inl (sp_lea (w_E w) (sp_cup r) bid)), some (.inl n1)] [] S2 (some (.inl (sp_st (sp_hea (w_E w) r bid))), S') := by
    intro S2 n1 o oI m hn1
    obtain ⟨S', k1, kI, k2, k3⟩ := m_sp48 hs m hr1 bid (sp_lea (w_E w) (sp_cup r) bid) n1 (sp_nxt (w_E w) (sp_cup r) bid) (by rw [hn1]; rfl)
    exact ⟨S', mo_trans o k1, kI.trans oI, k2, k3⟩
  by_cases hc : sp_cu (sp_cup r) = 1
  · obtain ⟨f2, g3⟩ := m_says M2 hs h2.2.1 h2.2.2.2.2.1 2 (by decide) (MX_rows M2).2.2 bid (sp_sa r)
    obtain ⟨S', k1, kI, k2, k3⟩ := fin (ce_tA (ce_tA (ce_sA S 25 0 s (sp_cu r + 1)) 32 f1) 32 f2) _ (mo_trans o2 (mo_tA s _ f2)) rfl (mr_tA h2 f2) rfl
    rw [if_pos hc] at k3
    refine ⟨S', fI_by tl_X12_speaks (gd_r rfl rfl) (fun kk => sg_X12_speaks_0 (nI s) bid S kk) ?_, k1, kI, k2⟩
    simp only [e2, if_neg hin, hsa, hcu, q_add_eq, q_sub_eq, q_mul_eq, q_and_eq, q_div_eq, q_rem_eq, q_ushr_eq, q_neg_eq, q_i2b_eq, q_i2s_eq, g1, Option.bind_some, g2, h24, h25, if_pos hc]
    rw [show (.inl 2 : ce_V) = .inl (nI 2) from rfl, g3]
    simp only [Option.bind_some, f_bounded, en0]
    exact ce_kk_of k3
  · obtain ⟨S', k1, kI, k2, k3⟩ := fin (ce_tA (ce_sA S 25 0 s (sp_cu r + 1)) 32 f1) _ o2 rfl h2 rfl
    rw [if_neg hc] at k3
    refine ⟨S', fI_by tl_X12_speaks (gd_r rfl rfl) (fun kk => sg_X12_speaks_0 (nI s) bid S kk) ?_, k1, kI, k2⟩
    simp only [e2, if_neg hin, hsa, hcu, q_add_eq, q_sub_eq, q_mul_eq, q_and_eq, q_div_eq, q_rem_eq, q_ushr_eq, q_neg_eq, q_i2b_eq, q_i2s_eq, g1, Option.bind_some, g2, h24, h25, if_neg hc, en0]
    exact ce_kk_of k3
theorem m_agrees {S : ce_S} {s : Nat} (hs : s < 6) {r : sp_R} (h : mr S s r) : ∃ S', F_X12_agrees [.inr (.inl (20, 0)), .inl (nI s)] S = some (sp_sa r, S') ∧ mo s S S' ∧ mr S' s (sp_sell r (sp_sa r)) := by
  have e2 : (nI s).toNatClampNeg = s := nI_clamp (by omega)
  have hin : ¬ (nI s < 0 ∨ 6 ≤ s) := nJ_in hs (by decide)
  have hm := mr_27 (mr_26 h 1) (sp_sa r)
  refine ⟨_, fI_by tl_X12_agrees (gd_r rfl rfl) (fun kk => sg_X12_agrees_0 (nI s) S kk) ?_, mo_trans (mo_sA s _ 26 1 (by decide)) (mo_sA s _ 27 (sp_sa r) (by decide)), hm⟩
  have e27 : ce_A (ce_sA (ce_sA S 26 0 s 1) 27 0 s (sp_sa r)) 27 0 s = sp_sa r := hm.2.2.2.2.2.2
  simp only [e2, if_neg hin, h.2.2.2.1, e27]
/-! bounds stay -/
theorem lea_bd (E : sp_E) (r : sp_R) (b : Int32) : 0 ≤ sp_lea E r b ∧ sp_lea E r b ≤ 1999 := sp_lea_bd E r b
theorem rok_beg {r : sp_R} (E : sp_E) (h : sp_k r < 6) : rok (sp_beg E r) := by
  refine ⟨h, ?_, fun q => absurd q (by show ¬ (0 : Int32) = 1; decide), fun _ => rfl⟩
  have h1 := lea_bd E (sp_k r, sp_co r, sp_nu r, 0, 0, 0, -1) 0
  have h2 := cl_bd (sp_lea E (sp_k r, sp_co r, sp_nu r, 0, 0, 0, -1) 0) 1999 (sp_ev (sp_name (sp_k r, sp_co r, sp_nu r, 0, 0, 0, -1) E.2.1 E.2.2.1 0) E.1.2.1) h1.2
  exact ⟨Int32.le_trans h1.1 h2.1, h2.2⟩
theorem rok_sell {r : sp_R} (h : rok r) {b : Int32} (hb : isB b) : rok (sp_sell r b) := ⟨h.1, h.2.1, fun _ => hb, fun q => absurd rfl q⟩
theorem nxt_bd {E : sp_E} {r : sp_R} (h : rok r) (b : Int32) : 0 ≤ sp_nxt E r b ∧ sp_nxt E r b ≤ 1999 := by
  obtain ⟨l1, l2⟩ := lea_bd E r b
  unfold sp_nxt
  simp only
  generalize (if sp_cu r = 1 then (if b < sp_sa r then sp_sa r - sp_steps (sp_k r) (sp_sa r) b (sp_cu r) (sp_nu r) E.2.2.1 else sp_sa r) + sp_pul E r b else if b < sp_sa r then sp_sa r - sp_steps (sp_k r) (sp_sa r) b (sp_cu r) (sp_nu r) E.2.2.1 else sp_sa r) = n1
  by_cases c : n1 < sp_lea E r b
  · rw [if_pos c]
    by_cases d : sp_sa r < sp_lea E r b
    · rw [if_pos d]; exact h.2.1
    · rw [if_neg d]; exact ⟨l1, l2⟩
  · rw [if_neg c]
    by_cases d : sp_sa r < n1
    · rw [if_pos d]; exact h.2.1
    · rw [if_neg d]
      exact ⟨Int32.le_trans l1 (i_not_lt c), Int32.le_trans (i_not_lt d) h.2.1.2⟩
theorem rok_hea {E : sp_E} {r : sp_R} (h : rok r) (h0 : ¬ sp_st r = 1) {b : Int32} (hb : isB b) : rok (sp_hea E r b) := by
  unfold sp_hea
  simp only
  split
  · exact ⟨h.1, h.2.1, fun _ => hb, fun q => absurd rfl q⟩
  · split
    · exact ⟨h.1, h.2.1, fun q => absurd q (by show ¬ (2 : Int32) = 1; decide), fun _ => h.2.2.2 h0⟩
    · exact ⟨h.1, nxt_bd (r := sp_cup r) h b, fun q => absurd q h0, fun _ => h.2.2.2 h0⟩
theorem k_hea (E : sp_E) (r : sp_R) (b : Int32) : sp_k (sp_hea E r b) = sp_k r ∧ sp_co (sp_hea E r b) = sp_co r ∧ sp_nu (sp_hea E r b) = sp_nu r := by
  unfold sp_hea
  simp only
  split
  · exact ⟨rfl, rfl, rfl⟩
  · split <;> exact ⟨rfl, rfl, rfl⟩
theorem nb_ok {E : sp_E} {p b : Int32} {r : sp_R} (hp : 0 ≤ p ∧ p ≤ 10) (hL : 0 ≤ E.2.2.2 ∧ E.2.2.2 ≤ 1999) (hb : isB b) (hbl : b ≤ E.2.2.2) (hr : rok r) : isB (sp_nb E p b r) ∧ sp_nb E p b r ≤ E.2.2.2 := by
  unfold sp_nb
  by_cases c : b < sp_sa r
  · rw [if_pos c]
    have h0 := nb_bd (L := 0) hr.2.1 hb hp c
    by_cases d : E.2.2.2 < b + p * (sp_sa r - b) / 10
    · rw [if_pos d]; exact ⟨hL, Int32.le_refl _⟩
    · rw [if_neg d]; exact ⟨⟨h0, Int32.le_trans (i_not_lt d) hL.2⟩, i_not_lt d⟩
  · rw [if_neg c]; exact ⟨hb, hbl⟩
theorem rok_gol {E : sp_E} {p : Int32} (hp : 0 ≤ p ∧ p ≤ 10) (hL : 0 ≤ E.2.2.2 ∧ E.2.2.2 ≤ 1999) : ∀ (n : Nat) (b : Int32) (r : sp_R), isB b → b ≤ E.2.2.2 → rok r → rok (sp_gol E p n b r) := by
  intro n
  induction n with
  | zero => intro b r _ _ h; exact h
  | succ n ih =>
    intro b r hb hbl h
    unfold sp_gol
    by_cases c : sp_st r = 0
    · rw [if_pos c]
      by_cases d : sp_sa r ≤ b
      · rw [if_pos d]; exact rok_sell h h.2.1
      · rw [if_neg d]
        have h1 := rok_hea (E := E) h (by rw [c]; decide) hb
        exact ih _ _ (nb_ok hp hL hb hbl h1).1 (nb_ok hp hL hb hbl h1).2 h1
    · rw [if_neg c]; exact h
theorem start_ok {a L : Int32} (ha : 0 ≤ a ∧ a ≤ 1999) (hL : 0 ≤ L ∧ L ≤ 1999) : isB (if L < a then L else a) ∧ (if L < a then L else a) ≤ L := by
  by_cases c : L < a
  · rw [if_pos c]; exact ⟨hL, Int32.le_refl _⟩
  · rw [if_neg c]; exact ⟨ha, i_not_lt c⟩
theorem rok_go {E : sp_E} {a p : Int32} {r : sp_R} (h : isR a p) (hL : 0 ≤ E.2.2.2 ∧ E.2.2.2 ≤ 1999) (hr : rok r) : rok (sp_go E r a p) := rok_gol h.2 hL 30 _ r (start_ok h.1 hL).1 (start_ok h.1 hL).2 hr
theorem k_gol (E : sp_E) (p : Int32) : ∀ (n : Nat) (b : Int32) (r : sp_R), sp_k (sp_gol E p n b r) = sp_k r ∧ sp_co (sp_gol E p n b r) = sp_co r ∧ sp_nu (sp_gol E p n b r) = sp_nu r := by
  intro n
  induction n with
  | zero => intro b r; exact ⟨rfl, rfl, rfl⟩
  | succ n ih =>
    intro b r
    unfold sp_gol
    split
    · split
      · exact ⟨rfl, rfl, rfl⟩
      · obtain ⟨a1, a2, a3⟩ := ih (sp_nb E p b (sp_hea E r b)) (sp_hea E r b)
        obtain ⟨b1, b2, b3⟩ := k_hea E r b
        exact ⟨a1.trans b1, a2.trans b2, a3.trans b3⟩
    · exact ⟨rfl, rfl, rfl⟩
/-! by rule -/
theorem m_bids10 {w : sp_W} {s : Nat} (hs : s < 6) (a p L : Int32) (hp : 0 ≤ p ∧ p ≤ 10) (hL : 0 ≤ L ∧ L ≤ 1999) : ∀ (n : Nat), n ≤ 30 → ∀ (b : Int32) (r : sp_R) (S : ce_S), MX w S → mr S s r → rok r → isB b → b ≤ L → ce_I S 20 34 0 = nI (30 - n) → ∃ S', mo s S S' ∧ mr S' s (sp_gol (sp_El (w_E w) L) p n b r) ∧ ce_Ev tb_X12_bids 10 (0, 0) [some (.inr (.inl (20, 0))), some (.inl (nI s)), some (.inl a), some (.inl p), some (.inl L), some (.inl b)] [] S (none, S') := by
  have e2 : (nI s).toNatClampNeg = s := nI_clamp (by omega)
  have hin : ¬ (nI s < 0 ∨ 6 ≤ s) := nJ_in hs (by decide)
  intro n
  induction n with
  | zero =>
    intro _ b r S hM h hr hb hbl hk
    refine ⟨S, mo_refl s S, h, ce_by tl_X12_bids (fun kk => sg_X12_bids_10 (nI s) a p L b S kk) ?_⟩
    have h30 : (30 : Int32) ≤ nI (30 - 0) := by decide
    simp only [e2, if_neg hin, hk, if_pos h30, ite_self]
  | succ n ih =>
    intro hn b r S hM h hr hb hbl hk
    have h30 : ¬ (30 : Int32) ≤ nI (30 - (n + 1)) := by rw [show (30 : Int32) = nI 30 from rfl, nJ_le (by omega) (by omega)]; omega
    have e1 : nI (30 - (n + 1)) + 1 = nI (30 - n) := by rw [nJ_succ, show 30 - (n + 1) + 1 = 30 - n by omega]
    have h24 : ce_A S 24 0 s = sp_sa r := h.2.2.2.1
    have h26 : ce_A S 26 0 s = sp_st r := h.2.2.2.2.2.1
    unfold sp_gol
    by_cases c : sp_st r = 0
    · by_cases d : sp_sa r ≤ b
      · obtain ⟨S1, g1, g2, g3⟩ := m_agrees hs h
        simp only [if_pos c, if_pos d]
        refine ⟨S1, g2, g3, ce_by tl_X12_bids (fun kk => sg_X12_bids_10 (nI s) a p L b S kk) ?_⟩
        simp only [e2, if_neg hin, h26, if_pos c, hk, if_neg h30, h24, if_neg (i_le_not d), g1, Option.bind_some]
      · obtain ⟨S1, g1, g2, gI, g3⟩ := m_speaks hM hs h hr hb
        have hr1 := rok_hea (E := w_E w) hr (by rw [c]; decide) hb
        have ho : mo s S (ce_sI S1 20 34 0 (nI (30 - n))) := mo_trans g2 (mo_sI s _ _)
        have hk1 : ce_I S1 20 34 0 = nI (30 - (n + 1)) ∨ True := Or.inr trivial
        obtain ⟨nb1, nb2⟩ := nb_ok (E := sp_El (w_E w) L) (p := p) (b := b) hp hL hb hbl hr1
        obtain ⟨S2, j1, j2, j3⟩ := ih (by omega) (sp_nb (sp_El (w_E w) L) p b (sp_hea (w_E w) r b)) (sp_hea (w_E w) r b) (ce_sI S1 20 34 0 (nI (30 - n))) (MX_mq hM ho.1) (mr_sI g3 _ _ _ _) hr1 nb1 nb2 (by rw [r_I_sI]; simp only [if_true])
        simp only [if_pos c, if_neg d]
        refine ⟨S2, mo_trans ho j1, j2, ce_by tl_X12_bids (fun kk => sg_X12_bids_10 (nI s) a p L b S kk) ?_⟩
        have h24' : ce_A S1 24 0 s = sp_sa (sp_hea (w_E w) r b) := g3.2.2.2.1
        have hs34 : ce_I S1 20 34 0 = ce_I S 20 34 0 := by rw [gI]
        rw [← hs34] at hk
        simp only [e2, if_neg hin, h26, if_pos c, ← hs34, hk, if_neg h30, h24, if_pos (i_not_le d), g1, Option.bind_some, h24', q_add_eq, q_sub_eq, q_mul_eq, q_and_eq, q_div_eq, q_rem_eq, q_ushr_eq, q_neg_eq, q_i2b_eq, q_i2s_eq, e1]
        unfold sp_nb at j3
        by_cases x : b < sp_sa (sp_hea (w_E w) r b)
        · rw [if_neg (i_lt_not x)]
          rw [if_pos x] at j3
          by_cases y : L < b + p * (sp_sa (sp_hea (w_E w) r b) - b) / 10
          · rw [if_pos (show L ≤ b + p * (sp_sa (sp_hea (w_E w) r b) - b) / 10 by rw [i_lt] at y; rw [i_le]; omega)]
            rw [if_pos (show (sp_El (w_E w) L).2.2.2 < b + p * (sp_sa (sp_hea (w_E w) r b) - b) / 10 from y)] at j3
            exact ce_kk_of j3
          · rw [if_neg (show ¬ (sp_El (w_E w) L).2.2.2 < b + p * (sp_sa (sp_hea (w_E w) r b) - b) / 10 from y)] at j3
            by_cases z : L ≤ b + p * (sp_sa (sp_hea (w_E w) r b) - b) / 10
            · rw [if_pos z]
              have : L = b + p * (sp_sa (sp_hea (w_E w) r b) - b) / 10 := by
                rw [i_le] at z; rw [i_lt] at y; rw [i_eq]; omega
              rw [← this] at j3
              exact ce_kk_of j3
            · rw [if_neg z]
              exact ce_kk_of j3
        · rw [if_pos (i_not_lt x)]
          rw [if_neg x] at j3
          by_cases z : L ≤ b
          · rw [if_pos z]
            have : L = b := by rw [i_le] at z hbl; rw [i_eq]; omega
            rw [← this] at j3
            exact ce_kk_of j3
          · rw [if_neg z]; exact ce_kk_of j3
    · simp only [if_neg c]
      refine ⟨S, mo_refl s S, h, ce_by tl_X12_bids (fun kk => sg_X12_bids_10 (nI s) a p L b S kk) ?_⟩
      simp only [e2, if_neg hin, h26, if_neg c]
theorem m_bids {w : sp_W} {S : ce_S} (hM : MX w S) {s : Nat} (hs : s < 6) {r : sp_R} (h : mr S s r) (hr : rok r) {a p L : Int32} (hp : isR a p) (hL : 0 ≤ L ∧ L ≤ 1999) : ∃ S', F_X12_bids [.inr (.inl (20, 0)), .inl (nI s), .inl a, .inl p, .inl L] S = some S' ∧ mo s S S' ∧ mr S' s (sp_go (sp_El (w_E w) L) r a p) := by
  have o1 := mo_sI s S 0
  have M1 := MX_mq hM o1.1
  have hst := start_ok hp.1 hL
  obtain ⟨S1, j1, j2, j3⟩ := m_bids10 (w := w) hs a p L hp.2 hL 30 (Nat.le_refl _) (if L < a then L else a) r (ce_sI S 20 34 0 0) M1 (mr_sI h _ _ _ _) hr hst.1 hst.2 (by rw [r_I_sI]; simp only [if_true]; rfl)
  refine ⟨S1, fV_by tl_X12_bids (gd_r rfl rfl) (fun kk => sg_X12_bids_0 (nI s) a p L S kk) ?_, mo_trans o1 j1, j2⟩
  by_cases c : L < a
  · rw [if_pos c] at j3
    rw [if_pos (show L ≤ a by rw [i_lt] at c; rw [i_le]; omega)]
    exact ce_kk_of j3
  · rw [if_neg c] at j3
    by_cases d : L ≤ a
    · have : L = a := by rw [i_lt] at c; rw [i_le] at d; rw [i_eq]; omega
      rw [if_pos d]
      rw [← this] at j3 ⊢
      exact ce_kk_of j3
    · rw [if_neg d]; exact ce_kk_of j3
