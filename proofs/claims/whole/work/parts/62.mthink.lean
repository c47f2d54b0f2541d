/-! the reference keeps and puts back -/
theorem mq_33 {S : ce_S} {F : Nat → Nat → Int32} (h : ∀ e, e < 60 → F 0 e = ce_A S 33 0 e) : mq S (ce_tA S 33 F) := ⟨fun _ _ _ _ => rfl, rfl, fun t _ _ q => by rw [r_A_tA, if_neg q], fun e q => by rw [r_A_tA, if_pos rfl]; exact h e q, rfl⟩
theorem m_kp2 (wh : Nat) (hw : wh ≤ 1) : ∀ m, m ≤ 6 → ∀ (S : ce_S) (z3 : Option ce_V), (∀ i, i < 6 - m → ce_A S 33 0 (60 * wh + 5 * i) = ce_A S 24 0 i ∧ ce_A S 33 0 (60 * wh + 5 * i + 1) = ce_A S 25 0 i ∧ ce_A S 33 0 (60 * wh + 5 * i + 2) = ce_A S 26 0 i ∧ ce_A S 33 0 (60 * wh + 5 * i + 3) = ce_A S 27 0 i) → ∃ F, (∀ e, ¬ (60 * wh ≤ e ∧ e < 60 * wh + 30) → F 0 e = ce_A S 33 0 e) ∧ (∀ i, i < 6 → F 0 (60 * wh + 5 * i) = ce_A S 24 0 i ∧ F 0 (60 * wh + 5 * i + 1) = ce_A S 25 0 i ∧ F 0 (60 * wh + 5 * i + 2) = ce_A S 26 0 i ∧ F 0 (60 * wh + 5 * i + 3) = ce_A S 27 0 i) ∧ ce_Ev tb_X12_keeps 2 (0, 0) [some (.inr (.inl (20, 0))), some (.inl (nI wh)), some (.inl (nI (6 - m))), z3] [] S (none, ce_tA S 33 F) := by
  intro m
  induction m with
  | zero =>
    intro _ S z3 h
    refine ⟨ce_A S 33, fun _ _ => rfl, fun i hi => h i (by omega), ce_by tl_X12_keeps (fun kk => sg_X12_keeps_2 (nI wh) (nI (6 - 0)) z3 S kk) ?_⟩
    have h1 : (6 : Int32) ≤ nI (6 - 0) := by decide
    rw [if_pos h1, tA_self]
  | succ m ih =>
    intro hm S z3 h
    have h1 : ¬ (6 : Int32) ≤ nI (6 - (m + 1)) := by rw [show (6 : Int32) = nI 6 from rfl, nJ_le (by omega) (by omega)]; omega
    have e2 : (nI (6 - (m + 1))).toNatClampNeg = 6 - (m + 1) := nI_clamp (by omega)
    have hin : ¬ (nI (6 - (m + 1)) < 0 ∨ 6 ≤ 6 - (m + 1)) := nJ_in (by omega) (by decide)
    have e1 : nI (6 - (m + 1)) + 1 = nI (6 - m) := by rw [nJ_succ, show 6 - (m + 1) + 1 = 6 - m by omega]
    have ek : 60 * nI wh + 5 * nI (6 - (m + 1)) = nI (60 * wh + 5 * (6 - (m + 1))) := by rw [show (60 : Int32) = nI 60 from rfl, show (5 : Int32) = nI 5 from rfl, nJ_mul, nJ_mul, nJ_add]
    have ek1 : nI (60 * wh + 5 * (6 - (m + 1))) + 1 = nI (60 * wh + 5 * (6 - (m + 1)) + 1) := nJ_succ _
    have ek2 : nI (60 * wh + 5 * (6 - (m + 1))) + 2 = nI (60 * wh + 5 * (6 - (m + 1)) + 2) := by rw [show (2 : Int32) = nI 2 from rfl, nJ_add]
    have ek3 : nI (60 * wh + 5 * (6 - (m + 1))) + 3 = nI (60 * wh + 5 * (6 - (m + 1)) + 3) := by rw [show (3 : Int32) = nI 3 from rfl, nJ_add]
    have hi6 : 6 - (m + 1) < 6 := by omega
    generalize hj : 6 - (m + 1) = j at *
    have c0 : (nI (60 * wh + 5 * j)).toNatClampNeg = 60 * wh + 5 * j := nI_clamp (by omega)
    have c1 : (nI (60 * wh + 5 * j + 1)).toNatClampNeg = 60 * wh + 5 * j + 1 := nI_clamp (by omega)
    have c2 : (nI (60 * wh + 5 * j + 2)).toNatClampNeg = 60 * wh + 5 * j + 2 := nI_clamp (by omega)
    have c3 : (nI (60 * wh + 5 * j + 3)).toNatClampNeg = 60 * wh + 5 * j + 3 := nI_clamp (by omega)
    have b0 : ¬ (nI (60 * wh + 5 * j) < 0 ∨ 180 ≤ 60 * wh + 5 * j) := nJ_in (by omega) (by decide)
    have b1 : ¬ (nI (60 * wh + 5 * j + 1) < 0 ∨ 180 ≤ 60 * wh + 5 * j + 1) := nJ_in (by omega) (by decide)
    have b2 : ¬ (nI (60 * wh + 5 * j + 2) < 0 ∨ 180 ≤ 60 * wh + 5 * j + 2) := nJ_in (by omega) (by decide)
    have b3 : ¬ (nI (60 * wh + 5 * j + 3) < 0 ∨ 180 ≤ 60 * wh + 5 * j + 3) := nJ_in (by omega) (by decide)
    obtain ⟨G, hG, eG⟩ : ∃ G : Nat → Nat → Int32, (∀ e, G 0 e = if e = 60 * wh + 5 * j + 3 then ce_A S 27 0 j else if e = 60 * wh + 5 * j + 2 then ce_A S 26 0 j else if e = 60 * wh + 5 * j + 1 then ce_A S 25 0 j else if e = 60 * wh + 5 * j then ce_A S 24 0 j else ce_A S 33 0 e) ∧ ce_sA (ce_sA (ce_sA (ce_sA S 33 0 (60 * wh + 5 * j) (ce_A S 24 0 j)) 33 0 (60 * wh + 5 * j + 1) (ce_A S 25 0 j)) 33 0 (60 * wh + 5 * j + 2) (ce_A S 26 0 j)) 33 0 (60 * wh + 5 * j + 3) (ce_A S 27 0 j) = ce_tA S 33 G := by
      refine ⟨_, ?_, by rw [sA_tA S 33, tA_sA, tA_sA, tA_sA]⟩
      intro e
      simp only [ce_put3, if_true]
    obtain ⟨F, f1, f2, f3⟩ := ih (by omega) (ce_tA S 33 G) (some (.inl (nI (60 * wh + 5 * j)))) (fun i hi => by
      have g : ce_A (ce_tA S 33 G) 33 0 = G 0 := rfl
      have g24 : ∀ t, t ≠ 33 → ce_A (ce_tA S 33 G) t = ce_A S t := fun t ht => by rw [r_A_tA, if_neg ht]
      rw [g, g24 24 (by decide), g24 25 (by decide), g24 26 (by decide), g24 27 (by decide), hG, hG, hG, hG]
      by_cases q : i = j
      · subst q
        rw [if_neg (by omega), if_neg (by omega), if_neg (by omega), if_pos rfl, if_neg (by omega), if_neg (by omega), if_pos rfl, if_neg (by omega), if_pos rfl, if_pos rfl]
        exact ⟨rfl, rfl, rfl, rfl⟩
      · have := h i (by omega)
        rw [if_neg (by omega), if_neg (by omega), if_neg (by omega), if_neg (by omega), if_neg (by omega), if_neg (by omega), if_neg (by omega), if_neg (by omega), if_neg (by omega), if_neg (by omega), if_neg (by omega), if_neg (by omega), if_neg (by omega), if_neg (by omega), if_neg (by omega), if_neg (by omega)]
        exact this)
    rw [tA_tA] at f3
    refine ⟨F, fun e he => ?_, f2, ce_by tl_X12_keeps (fun kk => sg_X12_keeps_2 (nI wh) (nI j) z3 S kk) ?_⟩
    · rw [f1 e he]
      show G 0 e = _
      rw [hG, if_neg (by omega), if_neg (by omega), if_neg (by omega), if_neg (by omega)]
    · simp only [if_neg h1, e2, if_neg hin, q_add_eq, q_sub_eq, q_mul_eq, q_and_eq, q_div_eq, q_rem_eq, q_ushr_eq, q_neg_eq, q_i2b_eq, q_i2s_eq, ek, ek1, ek2, ek3, c0, c1, c2, c3, if_neg b0, if_neg b1, if_neg b2, if_neg b3, eG, e1]
      exact ce_kk_of f3
theorem m_keeps (wh : Nat) (hw : wh ≤ 1) (S : ce_S) : ∃ F, F_X12_keeps [.inr (.inl (20, 0)), .inl (nI wh)] S = some (ce_tA S 33 F) ∧ (∀ e, ¬ (60 * wh ≤ e ∧ e < 60 * wh + 30) → F 0 e = ce_A S 33 0 e) ∧ ∀ i, i < 6 → F 0 (60 * wh + 5 * i) = ce_A S 24 0 i ∧ F 0 (60 * wh + 5 * i + 1) = ce_A S 25 0 i ∧ F 0 (60 * wh + 5 * i + 2) = ce_A S 26 0 i ∧ F 0 (60 * wh + 5 * i + 3) = ce_A S 27 0 i := by
  obtain ⟨F, f1, f2, f3⟩ := m_kp2 wh hw 6 (Nat.le_refl _) S none (fun i hi => absurd hi (by omega))
  exact ⟨F, fV_by tl_X12_keeps (gd_r rfl rfl) (fun kk => sg_X12_keeps_0 (nI wh) S kk) (ce_kk_of f3), f1, f2⟩
def bk4 (wh : Nat) (S S' : ce_S) (i : Nat) : Prop := ce_A S' 24 0 i = ce_A S 33 0 (60 * wh + 5 * i) ∧ ce_A S' 25 0 i = ce_A S 33 0 (60 * wh + 5 * i + 1) ∧ ce_A S' 26 0 i = ce_A S 33 0 (60 * wh + 5 * i + 2) ∧ ce_A S' 27 0 i = ce_A S 33 0 (60 * wh + 5 * i + 3)
/-- only the talk's rows change -/
def mt (S S' : ce_S) : Prop := (∀ t, ¬ (24 ≤ t ∧ t ≤ 27) → ce_A S' t = ce_A S t) ∧ S'.1 = S.1 ∧ S'.2.1 = S.2.1 ∧ S'.2.2.2 = S.2.2.2
theorem mt_refl (S : ce_S) : mt S S := ⟨fun _ _ => rfl, rfl, rfl, rfl⟩
theorem mt_trans {S S' S'' : ce_S} (h : mt S S') (g : mt S' S'') : mt S S'' := ⟨fun t q => (g.1 t q).trans (h.1 t q), g.2.1.trans h.2.1, g.2.2.1.trans h.2.2.1, g.2.2.2.trans h.2.2.2⟩
theorem mt_sA (S : ce_S) (t e : Nat) (v : Int32) (h : 24 ≤ t ∧ t ≤ 27) : mt S (ce_sA S t 0 e v) := ⟨fun t' q => by funext i' e'; rw [r_A_sA, if_neg (fun q2 => q (by rw [q2]; exact h))], rfl, rfl, rfl⟩
theorem mt_mq {S S' : ce_S} (h : mt S S') : mq S S' := ⟨fun t k i _ => by unfold ce_I; rw [h.2.1], by unfold ce_R; rw [h.2.2.1], fun t q _ _ => h.1 t (fun q2 => q (by omega)), fun e _ => by rw [h.1 33 (by decide)], h.2.2.2⟩
theorem mt_I {S S' : ce_S} (h : mt S S') : ce_I S' = ce_I S := by unfold ce_I; rw [h.2.1]
theorem m_pb2 (wh : Nat) (hw : wh ≤ 1) (M : Nat) (hM : M ≤ 6) : ∀ m, m ≤ M → ∀ (S : ce_S) (z4 : Option ce_V), ∃ S', mt S S' ∧ (∀ i, M - m ≤ i → i < M → bk4 wh S S' i) ∧ (∀ t i, i < M - m ∨ M ≤ i → ce_A S' t 0 i = ce_A S t 0 i) ∧ ce_Ev tb_X12_putsBack 2 (0, 0) [some (.inr (.inl (20, 0))), some (.inl (nI wh)), some (.inl (nI M)), some (.inl (nI (M - m))), z4] [] S (none, S') := by
  intro m
  induction m with
  | zero =>
    intro _ S z4
    refine ⟨S, mt_refl S, fun i h1 h2 => absurd h2 (by omega), fun _ _ _ => rfl, ce_by tl_X12_putsBack (fun kk => sg_X12_putsBack_2 (nI wh) (nI M) (nI (M - 0)) z4 S kk) ?_⟩
    have h1 : nI M ≤ nI (M - 0) := Int32.le_refl _
    rw [if_pos h1]
  | succ m ih =>
    intro hm S z4
    have h1 : ¬ nI M ≤ nI (M - (m + 1)) := by rw [nJ_le (by omega) (by omega)]; omega
    have e2 : (nI (M - (m + 1))).toNatClampNeg = M - (m + 1) := nI_clamp (by omega)
    have hin : ¬ (nI (M - (m + 1)) < 0 ∨ 6 ≤ M - (m + 1)) := nJ_in (by omega) (by decide)
    have e1 : nI (M - (m + 1)) + 1 = nI (M - m) := by rw [nJ_succ, show M - (m + 1) + 1 = M - m by omega]
    have ek : 60 * nI wh + 5 * nI (M - (m + 1)) = nI (60 * wh + 5 * (M - (m + 1))) := by rw [show (60 : Int32) = nI 60 from rfl, show (5 : Int32) = nI 5 from rfl, nJ_mul, nJ_mul, nJ_add]
    have ek1 : nI (60 * wh + 5 * (M - (m + 1))) + 1 = nI (60 * wh + 5 * (M - (m + 1)) + 1) := nJ_succ _
    have ek2 : nI (60 * wh + 5 * (M - (m + 1))) + 2 = nI (60 * wh + 5 * (M - (m + 1)) + 2) := by rw [show (2 : Int32) = nI 2 from rfl, nJ_add]
    have ek3 : nI (60 * wh + 5 * (M - (m + 1))) + 3 = nI (60 * wh + 5 * (M - (m + 1)) + 3) := by rw [show (3 : Int32) = nI 3 from rfl, nJ_add]
    have hi6 : M - (m + 1) < 6 := by omega
    have hjM : M - (m + 1) < M := by omega
    have hjm : M - m = M - (m + 1) + 1 := by omega
    generalize hj : M - (m + 1) = j at *
    have c0 : (nI (60 * wh + 5 * j)).toNatClampNeg = 60 * wh + 5 * j := nI_clamp (by omega)
    have c1 : (nI (60 * wh + 5 * j + 1)).toNatClampNeg = 60 * wh + 5 * j + 1 := nI_clamp (by omega)
    have c2 : (nI (60 * wh + 5 * j + 2)).toNatClampNeg = 60 * wh + 5 * j + 2 := nI_clamp (by omega)
    have c3 : (nI (60 * wh + 5 * j + 3)).toNatClampNeg = 60 * wh + 5 * j + 3 := nI_clamp (by omega)
    have b0 : ¬ (nI (60 * wh + 5 * j) < 0 ∨ 180 ≤ 60 * wh + 5 * j) := nJ_in (by omega) (by decide)
    have b1 : ¬ (nI (60 * wh + 5 * j + 1) < 0 ∨ 180 ≤ 60 * wh + 5 * j + 1) := nJ_in (by omega) (by decide)
    have b2 : ¬ (nI (60 * wh + 5 * j + 2) < 0 ∨ 180 ≤ 60 * wh + 5 * j + 2) := nJ_in (by omega) (by decide)
    have b3 : ¬ (nI (60 * wh + 5 * j + 3) < 0 ∨ 180 ≤ 60 * wh + 5 * j + 3) := nJ_in (by omega) (by decide)
    obtain ⟨S1, hS1⟩ : ∃ S1, S1 = ce_sA (ce_sA (ce_sA (ce_sA S 24 0 j (ce_A S 33 0 (60 * wh + 5 * j))) 25 0 j (ce_A S 33 0 (60 * wh + 5 * j + 1))) 26 0 j (ce_A S 33 0 (60 * wh + 5 * j + 2))) 27 0 j (ce_A S 33 0 (60 * wh + 5 * j + 3)) := ⟨_, rfl⟩
    have t1 : mt S S1 := by
      rw [hS1]
      exact mt_trans (mt_trans (mt_trans (mt_sA _ 24 _ _ (by decide)) (mt_sA _ 25 _ _ (by decide))) (mt_sA _ 26 _ _ (by decide))) (mt_sA _ 27 _ _ (by decide))
    have k1 : bk4 wh S S1 j := by
      rw [hS1]
      refine ⟨?_, ?_, ?_, ?_⟩ <;> simp only [r_I_sR, r_I_sA, r_I_sF, r_I_sQ, r_R_sI, r_R_sA, r_R_sF, r_R_sQ, r_A_sI, r_A_sR, r_A_sQ, r_L_sI, r_L_sR, r_L_sA, r_L_sF, r_L_sQ, r_C_sI, r_C_sR, r_C_sA, r_C_sF, r_C_sQ, r_Q_sI, r_Q_sR, r_Q_sA, r_Q_sF, r_I_sI, r_R_sR, r_A_sA, r_A_sF, r_Q_sQ, r_I_tA, r_R_tA, r_L_tA, r_C_tA, r_Q_tA, r_A_tA, reduceIte, Nat.reduceEqDiff]
    have n1 : ∀ t i, i ≠ j → ce_A S1 t 0 i = ce_A S t 0 i := by
      intro t i hi
      rw [hS1]
      simp only [r_I_sR, r_I_sA, r_I_sF, r_I_sQ, r_R_sI, r_R_sA, r_R_sF, r_R_sQ, r_A_sI, r_A_sR, r_A_sQ, r_L_sI, r_L_sR, r_L_sA, r_L_sF, r_L_sQ, r_C_sI, r_C_sR, r_C_sA, r_C_sF, r_C_sQ, r_Q_sI, r_Q_sR, r_Q_sA, r_Q_sF, r_I_sI, r_R_sR, r_A_sA, r_A_sF, r_Q_sQ, r_I_tA, r_R_tA, r_L_tA, r_C_tA, r_Q_tA, r_A_tA, if_neg hi, ite_self]
    obtain ⟨S2, t2, k2, n2, j2⟩ := ih (by omega) S1 (some (.inl (nI (60 * wh + 5 * j))))
    refine ⟨S2, mt_trans t1 t2, fun i g1 g2 => ?_, fun t i hi => ?_, ce_by tl_X12_putsBack (fun kk => sg_X12_putsBack_2 (nI wh) (nI M) (nI j) z4 S kk) ?_⟩
    · by_cases q : i = j
      · subst q
        unfold bk4 at k1 ⊢
        rw [n2 24 i (by omega), n2 25 i (by omega), n2 26 i (by omega), n2 27 i (by omega)]
        exact k1
      · have := k2 i (by omega) g2
        unfold bk4 at this ⊢
        rw [t1.1 33 (by decide)] at this
        exact this
    · rw [n2 t i (by omega), n1 t i (by omega)]
    · simp only [if_neg h1, e2, if_neg hin, q_add_eq, q_sub_eq, q_mul_eq, q_and_eq, q_div_eq, q_rem_eq, q_ushr_eq, q_neg_eq, q_i2b_eq, q_i2s_eq, ek, ek1, ek2, ek3, c0, c1, c2, c3, if_neg b0, if_neg b1, if_neg b2, if_neg b3, e1]
      rw [← hS1]
      exact ce_kk_of j2
theorem m_putsBack (wh : Nat) (hw : wh ≤ 1) (M : Nat) (hM : M ≤ 6) (S : ce_S) : ∃ S', F_X12_putsBack [.inr (.inl (20, 0)), .inl (nI wh), .inl (nI M)] S = some S' ∧ mt S S' ∧ (∀ i, i < M → bk4 wh S S' i) ∧ ∀ t i, M ≤ i → ce_A S' t 0 i = ce_A S t 0 i := by
  obtain ⟨S', h1, h2, h3, h4⟩ := m_pb2 wh hw M hM M (Nat.le_refl _) S none
  rw [Nat.sub_self] at h4
  exact ⟨S', fV_by tl_X12_putsBack (gd_r rfl rfl) (fun kk => sg_X12_putsBack_0 (nI wh) (nI M) S kk) (ce_kk_of h4), h1, fun i hi => h2 i (by omega) hi, fun t i hi => h3 t i (Or.inr hi)⟩
/-- thought of, and put back: what is kept from place 60 on -/
def KG (n : Nat) (f : Nat → sp_R) (S : ce_S) : Prop := ∀ i, i < n → kpt S (60 + 5 * i) (f i)
theorem KG_mo {n : Nat} {f : Nat → sp_R} {s : Nat} {S S' : ce_S} (h : KG n f S) (g : mo s S S') : KG n f S' := by
  intro i hi
  have := h i hi
  unfold kpt at this ⊢
  rw [g.2.2.2.1]; exact this
/-- kept: all is as it was, and kept -/
theorem m_keep1 {w : sp_W} {f : Nat → sp_R} {S : ce_S} (hM : MX w S) (hf : MSr (w_n w) f S) : ∃ S1, F_X12_keeps [.inr (.inl (20, 0)), .inl 1] S = some S1 ∧ mq S S1 ∧ MX w S1 ∧ MSr (w_n w) f S1 ∧ KG (w_n w) f S1 ∧ ce_I S1 = ce_I S ∧ ∀ t, t ≠ 33 → ce_A S1 t = ce_A S t := by
  obtain ⟨F, f1, f2, f3⟩ := m_keeps 1 (Nat.le_refl _) S
  have q : mq S (ce_tA S 33 F) := mq_33 (fun e he => f2 e (by omega))
  have hA : ∀ t, t ≠ 33 → ce_A (ce_tA S 33 F) t = ce_A S t := fun t ht => by rw [r_A_tA, if_neg ht]
  have hn6 := hM.1.2
  refine ⟨ce_tA S 33 F, f1, q, MX_mq hM q, fun i hi => ⟨(hf i hi).1, (hf i hi).2⟩, fun i hi => ?_, rfl, hA⟩
  obtain ⟨a1, a2, a3, a4⟩ := f3 i (by omega)
  obtain ⟨m1, m2, m3, m4, m5, m6, m7⟩ := (hf i hi).1
  refine ⟨?_, ?_, ?_, ?_⟩
  · show F 0 (60 + 5 * i) = _
    rw [← m4, ← a1]
  · show F 0 (60 + 5 * i + 1) = _
    rw [← m5, ← a2]
  · show F 0 (60 + 5 * i + 2) = _
    rw [← m6, ← a3]
  · show F 0 (60 + 5 * i + 3) = _
    rw [← m7, ← a4]
/-- put back: the talk is as it was kept -/
theorem m_back1 {w : sp_W} {f g : Nat → sp_R} {S : ce_S} (hM : MX w S) (hk : ∀ i, i < w_n w → ce_A S 21 0 i = nI (sp_k (f i)) ∧ ce_A S 22 0 i = sp_co (f i) ∧ ce_A S 23 0 i = sp_nu (f i)) (hg : KG (w_n w) f S) : ∃ S1, F_X12_putsBack [.inr (.inl (20, 0)), .inl 1, .inl (nI (w_n w))] S = some S1 ∧ mt S S1 ∧ MX w S1 ∧ ∀ i, i < w_n w → mr S1 i (f i) := by
  obtain ⟨S1, h1, h2, h3, h4⟩ := m_putsBack 1 (Nat.le_refl _) (w_n w) hM.1.2 S
  refine ⟨S1, h1, h2, MX_mq hM (mt_mq h2), fun i hi => ?_⟩
  obtain ⟨k1, k2, k3⟩ := hk i hi
  obtain ⟨b1, b2, b3, b4⟩ := h3 i hi
  obtain ⟨g1, g2, g3, g4⟩ := hg i hi
  refine ⟨?_, ?_, ?_, b1.trans g1, b2.trans g2, b3.trans g3, b4.trans g4⟩
  · rw [h2.1 21 (by decide)]; exact k1
  · rw [h2.1 22 (by decide)]; exact k2
  · rw [h2.1 23 (by decide)]; exact k3
theorem mo_k3 {s : Nat} {S S' : ce_S} (h : mo s S S') {n : Nat} {f : Nat → sp_R} (hk : ∀ i, i < n → ce_A S 21 0 i = nI (sp_k (f i)) ∧ ce_A S 22 0 i = sp_co (f i) ∧ ce_A S 23 0 i = sp_nu (f i)) : ∀ i, i < n → ce_A S' 21 0 i = nI (sp_k (f i)) ∧ ce_A S' 22 0 i = sp_co (f i) ∧ ce_A S' 23 0 i = sp_nu (f i) := fun i hi => by
  rw [h.2.2.1.1, h.2.2.1.2.1, h.2.2.1.2.2]; exact hk i hi
theorem MSr_k3 {n : Nat} {f : Nat → sp_R} {S : ce_S} (h : MSr n f S) : ∀ i, i < n → ce_A S 21 0 i = nI (sp_k (f i)) ∧ ce_A S 22 0 i = sp_co (f i) ∧ ce_A S 23 0 i = sp_nu (f i) := fun i hi => ⟨(h i hi).1.1, (h i hi).1.2.1, (h i hi).1.2.2.1⟩
theorem El_self (w : sp_W) : sp_El (w_E w) (w_li w) = w_E w := rfl
theorem MX_lim {w : sp_W} {S : ce_S} (hM : MX w S) : 0 ≤ w_li w ∧ w_li w ≤ 1999 := hM.2.1.2.2.2.2
theorem m_thinks {w : sp_W} {f : Nat → sp_R} {S : ce_S} (hM : MX w S) (hf : MSr (w_n w) f S) {s : Nat} (hs : s < w_n w) {a p : Int32} (hp : isR a p) (y : Int32) : ∃ S', F_X12_thinks [.inr (.inl (20, 0)), .inl (nI s), .inl a, .inl p, .inl y] S = some (sp_pr (sp_go (w_E w) (if y = 0 then f s else sp_beg (w_E w) (f s)) a p), S') ∧ mq S S' ∧ MSr (w_n w) f S' ∧ (ce_A S' 21 = ce_A S 21 ∧ ce_A S' 22 = ce_A S 22 ∧ ce_A S' 23 = ce_A S 23) ∧ ce_I S' 20 35 0 = sp_st (sp_go (w_E w) (if y = 0 then f s else sp_beg (w_E w) (f s)) a p) ∧ ce_I S' 20 36 0 = sp_pr (sp_go (w_E w) (if y = 0 then f s else sp_beg (w_E w) (f s)) a p) ∧ ce_I S' 20 37 0 = sp_cu (sp_go (w_E w) (if y = 0 then f s else sp_beg (w_E w) (f s)) a p) := by
  have h6 : s < 6 := Nat.lt_of_lt_of_le hs hM.1.2
  have e2 : (nI s).toNatClampNeg = s := nI_clamp (by omega)
  have hin : ¬ (nI s < 0 ∨ 6 ≤ s) := nJ_in h6 (by decide)
  obtain ⟨S1, k1, k2, k3, k4, k5, k6, k7⟩ := m_keep1 hM hf
  have fin : ∀ (S2 : ce_S) (r : sp_R), mo s S1 S2 → mr S2 s r → rok r → ∃ S', mq S S' ∧ MSr (w_n w) f S' ∧ (ce_A S' 21 = ce_A S 21 ∧ ce_A S' 22 = ce_A S 22 ∧ ce_A S' 23 = ce_A S 23) ∧ ce_I S' 20 35 0 = sp_st (sp_go (w_E w) r a p) ∧ ce_I S' 20 36 0 = sp_pr (sp_go (w_E w) r a p) ∧ ce_I S' 20 37 0 = sp_cu (sp_go (w_E w) r a p) ∧ ce_Ev tb_X12_thinks 8 (0, 0) [some (.inr (.inl (20, 0))), some (.inl (nI s)), some (.inl a), some (.inl p), some (.inl y)] [] S2 (some (.inl (sp_pr (sp_go (w_E w) r a p))), S') := by
    intro S2 r o m hr
    have M2 := MX_mq k3 o.1
    obtain ⟨S3, b1, b2, b3⟩ := m_bids M2 h6 m hr hp (MX_lim M2)
    rw [El_self] at b3
    have o3 := mo_trans o b2
    have M3 := MX_mq k3 o3.1
    obtain ⟨S4, hS4⟩ : ∃ S4, S4 = ce_sI (ce_sI (ce_sI S3 20 35 0 (sp_st (sp_go (w_E w) r a p))) 20 36 0 (sp_pr (sp_go (w_E w) r a p))) 20 37 0 (sp_cu (sp_go (w_E w) r a p)) := ⟨_, rfl⟩
    have q4 : mq S3 S4 := by
      rw [hS4]
      exact mq_trans (mq_trans (mq_sI _ 35 _ (by decide)) (mq_sI _ 36 _ (by decide))) (mq_sI _ 37 _ (by decide))
    have hA4 : ce_A S4 = ce_A S3 := by rw [hS4]; rfl
    have M4 := MX_mq M3 q4
    have kg3 := KG_mo k5 o3
    have kg4 : KG (w_n w) f S4 := fun i hi => by
      have := kg3 i hi
      unfold kpt at this ⊢
      rw [hA4]; exact this
    have kk4 : ∀ i, i < w_n w → ce_A S4 21 0 i = nI (sp_k (f i)) ∧ ce_A S4 22 0 i = sp_co (f i) ∧ ce_A S4 23 0 i = sp_nu (f i) := by
      rw [hA4]; exact mo_k3 o3 (MSr_k3 k4)
    obtain ⟨S5, p1, p2, p3, p4⟩ := m_back1 (g := f) M4 kk4 kg4
    have e34 : ∀ t, t ≠ 33 → 21 ≤ t ∧ t ≤ 23 → ce_A S5 t = ce_A S t := by
      intro t ht ht2
      rw [p2.1 t (by omega), hA4]
      rcases (show t = 21 ∨ t = 22 ∨ t = 23 by omega) with rfl | rfl | rfl
      · rw [o3.2.2.1.1, k7 21 ht]
      · rw [o3.2.2.1.2.1, k7 22 ht]
      · rw [o3.2.2.1.2.2, k7 23 ht]
    refine ⟨S5, mq_trans (mq_trans k2 o3.1) (mq_trans q4 (mt_mq p2)), fun i hi => ⟨p4 i hi, (hf i hi).2⟩, ⟨e34 21 (by decide) (by decide), e34 22 (by decide) (by decide), e34 23 (by decide) (by decide)⟩, ?_, ?_, ?_, ?_⟩
    · rw [mt_I p2, hS4]; simp only [r_I_sR, r_I_sA, r_I_sF, r_I_sQ, r_R_sI, r_R_sA, r_R_sF, r_R_sQ, r_A_sI, r_A_sR, r_A_sQ, r_L_sI, r_L_sR, r_L_sA, r_L_sF, r_L_sQ, r_C_sI, r_C_sR, r_C_sA, r_C_sF, r_C_sQ, r_Q_sI, r_Q_sR, r_Q_sA, r_Q_sF, r_I_sI, r_R_sR, r_A_sA, r_A_sF, r_Q_sQ, r_I_tA, r_R_tA, r_L_tA, r_C_tA, r_Q_tA, r_A_tA, reduceIte, Nat.reduceEqDiff]
    · rw [mt_I p2, hS4]; simp only [r_I_sR, r_I_sA, r_I_sF, r_I_sQ, r_R_sI, r_R_sA, r_R_sF, r_R_sQ, r_A_sI, r_A_sR, r_A_sQ, r_L_sI, r_L_sR, r_L_sA, r_L_sF, r_L_sQ, r_C_sI, r_C_sR, r_C_sA, r_C_sF, r_C_sQ, r_Q_sI, r_Q_sR, r_Q_sA, r_Q_sF, r_I_sI, r_R_sR, r_A_sA, r_A_sF, r_Q_sQ, r_I_tA, r_R_tA, r_L_tA, r_C_tA, r_Q_tA, r_A_tA, reduceIte, Nat.reduceEqDiff]
    · rw [mt_I p2, hS4]; simp only [r_I_sR, r_I_sA, r_I_sF, r_I_sQ, r_R_sI, r_R_sA, r_R_sF, r_R_sQ, r_A_sI, r_A_sR, r_A_sQ, r_L_sI, r_L_sR, r_L_sA, r_L_sF, r_L_sQ, r_C_sI, r_C_sR, r_C_sA, r_C_sF, r_C_sQ, r_Q_sI, r_Q_sR, r_Q_sA, r_Q_sF, r_I_sI, r_R_sR, r_A_sA, r_A_sF, r_Q_sQ, r_I_tA, r_R_tA, r_L_tA, r_C_tA, r_Q_tA, r_A_tA, reduceIte, Nat.reduceEqDiff]
    · refine ce_by tl_X12_thinks (fun kk => sg_X12_thinks_8 (nI s) a p y S2 kk) ?_
      have e10 : ce_I S2 20 10 0 = w_li w := M2.2.1.2.2.1
      have e7 : ce_I S3 20 7 0 = nI (w_n w) := M3.1.1
      have e36 : ce_I S5 20 36 0 = sp_pr (sp_go (w_E w) r a p) := by
        rw [mt_I p2, hS4]; simp only [r_I_sR, r_I_sA, r_I_sF, r_I_sQ, r_R_sI, r_R_sA, r_R_sF, r_R_sQ, r_A_sI, r_A_sR, r_A_sQ, r_L_sI, r_L_sR, r_L_sA, r_L_sF, r_L_sQ, r_C_sI, r_C_sR, r_C_sA, r_C_sF, r_C_sQ, r_Q_sI, r_Q_sR, r_Q_sA, r_Q_sF, r_I_sI, r_R_sR, r_A_sA, r_A_sF, r_Q_sQ, r_I_tA, r_R_tA, r_L_tA, r_C_tA, r_Q_tA, r_A_tA, reduceIte, Nat.reduceEqDiff]
      simp only [e10, b1, Option.bind_some, e2, if_neg hin, b3.2.2.2.2.2.1, b3.2.2.2.2.2.2, b3.2.2.2.2.1, e7]
      rw [← hS4, p1]
      simp only [Option.bind_some, e36]
  by_cases c : y = 0
  · simp only [if_pos c]
    obtain ⟨S', r1, r2, r3, r4, r5, r6, r7⟩ := fin S1 (f s) (mo_refl s S1) (k4 s hs).1 (k4 s hs).2
    refine ⟨S', fI_by tl_X12_thinks (gd_r rfl rfl) (fun kk => sg_X12_thinks_0 (nI s) a p y S kk) ?_, r1, r2, r3, r4, r5, r6⟩
    simp only [k1, Option.bind_some, if_pos c]
    exact ce_kk_of r7
  · simp only [if_neg c]
    obtain ⟨S2, b1, b2, b3⟩ := m_begins k3 h6 (k4 s hs).1
    obtain ⟨S', r1, r2, r3, r4, r5, r6, r7⟩ := fin S2 (sp_beg (w_E w) (f s)) b2 b3 (rok_beg _ (hf s hs).2.1)
    refine ⟨S', fI_by tl_X12_thinks (gd_r rfl rfl) (fun kk => sg_X12_thinks_0 (nI s) a p y S kk) ?_, r1, r2, r3, r4, r5, r6⟩
    simp only [k1, Option.bind_some, if_neg c, b1]
    exact ce_kk_of r7
/-! what is asked of a number -/
theorem f_isIn1 {v lo hi : Int32} (S : ce_S) (h : lo ≤ v ∧ v ≤ hi) : F_X12_isIn [.inl v, .inl lo, .inl hi] S = some (1, S) := by
  refine fI_by tl_X12_isIn (gd_n rfl rfl) (fun kk => sg_X12_isIn_0 v lo hi S kk) ?_
  rw [if_neg (i_le_not h.1), if_neg (i_le_not h.2)]
theorem f_isIn0 {v lo hi : Int32} (S : ce_S) (h : ¬ (lo ≤ v ∧ v ≤ hi)) : F_X12_isIn [.inl v, .inl lo, .inl hi] S = some (0, S) := by
  refine fI_by tl_X12_isIn (gd_n rfl rfl) (fun kk => sg_X12_isIn_0 v lo hi S kk) ?_
  by_cases h1 : v < lo
  · rw [if_pos h1]
  · have h2 : hi < v := by
      by_cases q : hi < v
      · exact q
      · exact absurd ⟨i_not_lt h1, i_not_lt q⟩ h
    rw [if_neg h1, if_pos h2]
theorem m_isS1 {w : sp_W} {S : ce_S} (hM : MX w S) {x : Int32} (h : isS w x) : F_X12_isSeller [.inr (.inl (20, 0)), .inl x] S = some (1, S) := by
  refine fI_by tl_X12_isSeller (gd_r rfl rfl) (fun kk => sg_X12_isSeller_0 x S kk) ?_
  simp only [hM.1.1, if_neg (i_le_not h.1), if_neg (i_lt_not h.2)]
theorem m_isS0 {w : sp_W} {S : ce_S} (hM : MX w S) {x : Int32} (h : ¬ isS w x) : F_X12_isSeller [.inr (.inl (20, 0)), .inl x] S = some (0, S) := by
  refine fI_by tl_X12_isSeller (gd_r rfl rfl) (fun kk => sg_X12_isSeller_0 x S kk) ?_
  simp only [hM.1.1]
  by_cases h1 : x < 0
  · simp only [if_pos h1]
  · have h2 : nI (w_n w) ≤ x := by
      by_cases q : nI (w_n w) ≤ x
      · exact q
      · exact absurd ⟨i_not_lt h1, i_not_le q⟩ h
    simp only [if_neg h1, if_pos h2]
theorem m_isR1 {a p : Int32} (S : ce_S) (h : isR a p) : F_X12_isRule [.inl a, .inl p] S = some (1, S) := by
  refine fI_by tl_X12_isRule (gd_n rfl rfl) (fun kk => sg_X12_isRule_0 a p S kk) ?_
  simp only [if_neg (i_le_not h.1.1), if_neg (i_le_not h.1.2), if_neg (i_le_not h.2.1), if_neg (i_le_not h.2.2)]
theorem m_isR0 {a p : Int32} (S : ce_S) (h : ¬ isR a p) : F_X12_isRule [.inl a, .inl p] S = some (0, S) := by
  refine fI_by tl_X12_isRule (gd_n rfl rfl) (fun kk => sg_X12_isRule_0 a p S kk) ?_
  by_cases h1 : a < 0
  · simp only [if_pos h1]
  by_cases h2 : (1999 : Int32) < a
  · simp only [if_neg h1, if_pos h2]
  by_cases h3 : p < 0
  · simp only [if_neg h1, if_neg h2, if_pos h3]
  by_cases h4 : (10 : Int32) < p
  · simp only [if_neg h1, if_neg h2, if_neg h3, if_pos h4]
  · exact absurd ⟨⟨i_not_lt h1, i_not_lt h2⟩, i_not_lt h3, i_not_lt h4⟩ h
theorem m_isB1 {x : Int32} (S : ce_S) (h : isB x) : F_X12_isBid [.inl x] S = some (1, S) := by
  refine fI_by tl_X12_isBid (gd_n rfl rfl) (fun kk => sg_X12_isBid_0 x S kk) ?_
  simp only [if_neg (i_le_not h.1), if_neg (i_le_not h.2)]
theorem m_isB0 {x : Int32} (S : ce_S) (h : ¬ isB x) : F_X12_isBid [.inl x] S = some (0, S) := by
  refine fI_by tl_X12_isBid (gd_n rfl rfl) (fun kk => sg_X12_isBid_0 x S kk) ?_
  by_cases h1 : x < 0
  · simp only [if_pos h1]
  by_cases h2 : (1999 : Int32) < x
  · simp only [if_neg h1, if_pos h2]
  · exact absurd ⟨i_not_lt h1, i_not_lt h2⟩ h
theorem m_is41 {x : Int32} (S : ce_S) (h : is4 x) : F_X12_isSheet [.inl x] S = some (1, S) := by
  refine fI_by tl_X12_isSheet (gd_n rfl rfl) (fun kk => sg_X12_isSheet_0 x S kk) ?_
  simp only [if_neg (i_le_not h.1), if_neg (i_lt_not h.2)]
theorem m_is40 {x : Int32} (S : ce_S) (h : ¬ is4 x) : F_X12_isSheet [.inl x] S = some (0, S) := by
  refine fI_by tl_X12_isSheet (gd_n rfl rfl) (fun kk => sg_X12_isSheet_0 x S kk) ?_
  by_cases h1 : x < 0
  · simp only [if_pos h1]
  by_cases h2 : (4 : Int32) ≤ x
  · simp only [if_neg h1, if_pos h2]
  · exact absurd ⟨i_not_lt h1, i_not_le h2⟩ h
theorem m_sel {w : sp_W} {S : ce_S} (hM : MX w S) {x : Int32} (h : isS w x) : ∃ s, s < w_n w ∧ s < 6 ∧ x = nI s ∧ x.toNatClampNeg = s ∧ ¬ (x < 0 ∨ 6 ≤ s) ∧ w_sel w x = w_r w s := by
  have hn : w_n w ≤ 6 := hM.1.2
  obtain ⟨s, hs, e, e2⟩ := i_nat (by omega) h
  refine ⟨s, hs, by omega, e, e2, ?_, by unfold w_sel; rw [e2]⟩
  rw [e]; exact nJ_in (by omega) (by decide)
theorem m_rule {w : sp_W} {S : ce_S} (hR : MR w S) (x a p y : Int32) : ∃ S', F_X12_rule [.inr (.inl (20, 0)), .inl x, .inl a, .inl p, .inl y] S = some (s_rule w x a p y, S') ∧ MR w S' ∧ cEq S S' := by
  obtain ⟨hM, hf⟩ := id hR
  unfold s_rule
  by_cases h1 : isS w x
  · by_cases h2 : isR a p
    · by_cases h3 : 0 ≤ y ∧ y ≤ 2
      · obtain ⟨s, hs, h6, rfl, e2, hin, hsel⟩ := m_sel hM h1
        obtain ⟨S', t1, t2, t3, t4, t5, t6, t7⟩ := m_thinks hM hf hs h2 0
        simp only [if_true] at t1 t5 t6 t7
        refine ⟨S', fI_by tl_X12_rule (gd_r rfl rfl) (fun kk => sg_X12_rule_0 (nI s) a p y S kk) ?_, ⟨MX_mq hM t2, t3⟩, cEq_mq t2⟩
        rw [if_pos (show isS w (nI s) ∧ isR a p ∧ 0 ≤ y ∧ y ≤ 2 from ⟨h1, h2, h3⟩), hsel]
        simp only [m_isS1 hM h1, m_isR1 S h2, f_isIn1 S h3, Option.bind_some, i_10, if_false, t1, t5, t6, t7]
        unfold sp_what
        by_cases y0 : y = 0
        · simp only [if_pos y0]
        by_cases y1 : y = 1
        · simp only [if_neg y0, if_pos y1]
        · simp only [if_neg y0, if_neg y1]
      · refine ⟨S, fI_by tl_X12_rule (gd_r rfl rfl) (fun kk => sg_X12_rule_0 x a p y S kk) ?_, hR, cEq_refl S⟩
        rw [if_neg (show ¬ (isS w x ∧ isR a p ∧ 0 ≤ y ∧ y ≤ 2) from fun q => h3 q.2.2)]
        simp only [m_isS1 hM h1, m_isR1 S h2, f_isIn0 S h3, Option.bind_some, i_10, if_false, if_true]
    · refine ⟨S, fI_by tl_X12_rule (gd_r rfl rfl) (fun kk => sg_X12_rule_0 x a p y S kk) ?_, hR, cEq_refl S⟩
      rw [if_neg (show ¬ (isS w x ∧ isR a p ∧ 0 ≤ y ∧ y ≤ 2) from fun q => h2 q.2.1)]
      simp only [m_isS1 hM h1, m_isR0 S h2, Option.bind_some, i_10, if_false, if_true]
  · refine ⟨S, fI_by tl_X12_rule (gd_r rfl rfl) (fun kk => sg_X12_rule_0 x a p y S kk) ?_, hR, cEq_refl S⟩
    rw [if_neg (show ¬ (isS w x ∧ isR a p ∧ 0 ≤ y ∧ y ≤ 2) from fun q => h1 q.1)]
    simp only [m_isS0 hM h1, Option.bind_some, if_true]
