/-! the reference: the image, and the host's methods -/
theorem MX_upd {w w' : sp_W} {S S' : ce_S} (hM : MX w S) (hn : MXn w' S') (hc : MXc w' S') (hnt : w'.2.2.1 = w.2.2.1) (hp : w'.2.2.2.1 = w.2.2.2.1) (hru : w_ru w' < w_nt w) (hh : MXh w' S') (hi : MXi w' S') (hI : ∀ k, k = 18 ∨ k = 19 → ce_I S' 20 k 0 = ce_I S 20 k 0) (hA : ∀ t, t = 28 ∨ t = 29 ∨ t = 30 ∨ t = 41 → ce_A S' t = ce_A S t) (hL : ce_L S' = ce_L S) : MX w' S' := by
  obtain ⟨_, _, ⟨t1, t2, t3, t4⟩, ⟨p1, p2, p3⟩, _, _, hw⟩ := hM
  have ent : w_nt w' = w_nt w := by unfold w_nt; rw [hnt]
  have etx : w_tx w' = w_tx w := by unfold w_tx; rw [hnt]
  have epp : w_p w' = w_p w := by unfold w_p; rw [hp]
  refine ⟨hn, hc, ⟨?_, ?_, ?_, fun k hk => ?_⟩, ⟨?_, ?_, fun e he => ?_⟩, hh, hi, fun k hk => ?_⟩
  · rw [hI 19 (Or.inr rfl), ent]; exact t1
  · rw [ent]; exact t2
  · rw [ent]; exact hru
  · rw [etx]
    rw [ent] at hk
    have := t4 k hk
    unfold m_row at this ⊢
    rw [hA 29 (by decide), hA 30 (by decide)]; exact this
  · rw [hI 18 (Or.inl rfl), epp]; exact p1
  · rw [epp]; exact p2
  · rw [epp] at he ⊢
    rw [hA 28 (by decide)]; exact p3 e he
  · rw [hL, hA 41 (by decide)]; exact hw k hk
theorem m_image {w : sp_W} {S : ce_S} (hR : MR w S) : ∃ S', F_X12_image [.inr (.inl (20, 0))] S = some ((s_image w).1, S') ∧ MR (s_image w).2 S' ∧ cEq S S' := by
  obtain ⟨hM, hf⟩ := id hR
  obtain ⟨F, k1, k2, k3⟩ := m_keeps 0 (by decide) (ce_sI S 20 33 0 1)
  obtain ⟨hn, ⟨c1, c2, c3, c4, c5, c6⟩, ⟨t1, t2, t3, t4⟩, hp, hh, hi, hw⟩ := id hM
  have hn6 := hn.2
  obtain ⟨S2, hS2⟩ : ∃ S2, S2 = ce_sI (ce_sI (ce_sI (ce_sI (ce_sI (ce_tA (ce_sI S 20 33 0 1) 33 F) 20 28 0 (nI (w_n w))) 20 29 0 (w_sh w)) 20 30 0 (w_ho w)) 20 31 0 (w_li w)) 20 32 0 (nI (w_ru w)) := ⟨_, rfl⟩
  have hI : ∀ k, ¬ (28 ≤ k ∧ k ≤ 33) → ce_I S2 20 k 0 = ce_I S 20 k 0 := fun k hk => by
    rw [hS2, r_I_sI, if_pos rfl, if_neg (by omega), r_I_sI, if_pos rfl, if_neg (by omega), r_I_sI, if_pos rfl, if_neg (by omega), r_I_sI, if_pos rfl, if_neg (by omega), r_I_sI, if_pos rfl, if_neg (by omega), r_I_tA, r_I_sI, if_pos rfl, if_neg (by omega)]
  have hA : ∀ t, t ≠ 33 → ce_A S2 t = ce_A S t := fun t ht => by
    rw [hS2]
    show ce_A (ce_tA (ce_sI S 20 33 0 1) 33 F) t = _
    rw [r_A_tA, if_neg ht]; rfl
  have hA33 : ce_A S2 33 = F := by
    rw [hS2]
    show ce_A (ce_tA (ce_sI S 20 33 0 1) 33 F) 33 = _
    rw [r_A_tA, if_pos rfl]
  have hi' : MXi (w_seti w (some (w_n w, w_r w, w_c w))) S2 := by
    refine ⟨fun e => (by cases e), fun m f c e => ?_⟩
    cases e
    refine ⟨?_, ?_, Nat.le_refl _, fun i hi => ?_, ?_, ?_, ?_, ?_, t3, c5, c6⟩
    · rw [hS2]; simp only [r_I_sR, r_I_sA, r_I_sF, r_I_sQ, r_R_sI, r_R_sA, r_R_sF, r_R_sQ, r_A_sI, r_A_sR, r_A_sQ, r_L_sI, r_L_sR, r_L_sA, r_L_sF, r_L_sQ, r_C_sI, r_C_sR, r_C_sA, r_C_sF, r_C_sQ, r_Q_sI, r_Q_sR, r_Q_sA, r_Q_sF, r_I_sI, r_R_sR, r_A_sA, r_A_sF, r_Q_sQ, r_I_tA, r_R_tA, r_L_tA, r_C_tA, r_Q_tA, r_A_tA, reduceIte, Nat.reduceEqDiff]
    · rw [hS2]; simp only [r_I_sR, r_I_sA, r_I_sF, r_I_sQ, r_R_sI, r_R_sA, r_R_sF, r_R_sQ, r_A_sI, r_A_sR, r_A_sQ, r_L_sI, r_L_sR, r_L_sA, r_L_sF, r_L_sQ, r_C_sI, r_C_sR, r_C_sA, r_C_sF, r_C_sQ, r_Q_sI, r_Q_sR, r_Q_sA, r_Q_sF, r_I_sI, r_R_sR, r_A_sA, r_A_sF, r_Q_sQ, r_I_tA, r_R_tA, r_L_tA, r_C_tA, r_Q_tA, r_A_tA, reduceIte, Nat.reduceEqDiff]
    · obtain ⟨a1, a2, a3, a4⟩ := k3 i (by omega)
      obtain ⟨m1, m2, m3, m4, m5, m6, m7⟩ := (hf i hi).1
      simp only [Nat.mul_zero, Nat.zero_add] at a1 a2 a3 a4
      refine ⟨⟨?_, ?_, ?_, ?_⟩, (hf i hi).2.2⟩
      · rw [hA33, a1]; exact m4
      · rw [hA33, a2]; exact m5
      · rw [hA33, a3]; exact m6
      · rw [hA33, a4]; exact m7
    · rw [hS2]; simp only [r_I_sR, r_I_sA, r_I_sF, r_I_sQ, r_R_sI, r_R_sA, r_R_sF, r_R_sQ, r_A_sI, r_A_sR, r_A_sQ, r_L_sI, r_L_sR, r_L_sA, r_L_sF, r_L_sQ, r_C_sI, r_C_sR, r_C_sA, r_C_sF, r_C_sQ, r_Q_sI, r_Q_sR, r_Q_sA, r_Q_sF, r_I_sI, r_R_sR, r_A_sA, r_A_sF, r_Q_sQ, r_I_tA, r_R_tA, r_L_tA, r_C_tA, r_Q_tA, r_A_tA, reduceIte, Nat.reduceEqDiff]; rfl
    · rw [hS2]; simp only [r_I_sR, r_I_sA, r_I_sF, r_I_sQ, r_R_sI, r_R_sA, r_R_sF, r_R_sQ, r_A_sI, r_A_sR, r_A_sQ, r_L_sI, r_L_sR, r_L_sA, r_L_sF, r_L_sQ, r_C_sI, r_C_sR, r_C_sA, r_C_sF, r_C_sQ, r_Q_sI, r_Q_sR, r_Q_sA, r_Q_sF, r_I_sI, r_R_sR, r_A_sA, r_A_sF, r_Q_sQ, r_I_tA, r_R_tA, r_L_tA, r_C_tA, r_Q_tA, r_A_tA, reduceIte, Nat.reduceEqDiff]; rfl
    · rw [hS2]; simp only [r_I_sR, r_I_sA, r_I_sF, r_I_sQ, r_R_sI, r_R_sA, r_R_sF, r_R_sQ, r_A_sI, r_A_sR, r_A_sQ, r_L_sI, r_L_sR, r_L_sA, r_L_sF, r_L_sQ, r_C_sI, r_C_sR, r_C_sA, r_C_sF, r_C_sQ, r_Q_sI, r_Q_sR, r_Q_sA, r_Q_sF, r_I_sI, r_R_sR, r_A_sA, r_A_sF, r_Q_sQ, r_I_tA, r_R_tA, r_L_tA, r_C_tA, r_Q_tA, r_A_tA, reduceIte, Nat.reduceEqDiff]; rfl
    · rw [hS2]; simp only [r_I_sR, r_I_sA, r_I_sF, r_I_sQ, r_R_sI, r_R_sA, r_R_sF, r_R_sQ, r_A_sI, r_A_sR, r_A_sQ, r_L_sI, r_L_sR, r_L_sA, r_L_sF, r_L_sQ, r_C_sI, r_C_sR, r_C_sA, r_C_sF, r_C_sQ, r_Q_sI, r_Q_sR, r_Q_sA, r_Q_sF, r_I_sI, r_R_sR, r_A_sA, r_A_sF, r_Q_sQ, r_I_tA, r_R_tA, r_L_tA, r_C_tA, r_Q_tA, r_A_tA, reduceIte, Nat.reduceEqDiff]; rfl
  have M2 : MX (w_seti w (some (w_n w, w_r w, w_c w))) S2 := MX_upd hM ⟨(hI 7 (by decide)).trans hn.1, hn.2⟩ ⟨(hI 8 (by decide)).trans c1, (hI 9 (by decide)).trans c2, (hI 10 (by decide)).trans c3, (hI 11 (by decide)).trans c4, c5, c6⟩ rfl rfl t3 (fun i hi => by
    rw [hA 34 (by decide), hA 35 (by decide), hA 36 (by decide)]; exact hh i hi) hi' (fun k hk => hI k (by omega)) (fun t ht => hA t (by omega)) (by rw [hS2]; rfl)
  have hf2 : MSr (w_n w) (w_r w) S2 := MSr_A hf (fun t h1 h2 => hA t (by omega))
  refine ⟨S2, fI_by tl_X12_image (gd_r rfl rfl) (fun kk => sg_X12_image_0 S kk) ?_, ⟨M2, hf2⟩, ?_⟩
  · rw [show (.inl 0 : ce_V) = .inl (nI 0) from rfl, k1]
    have d7 : ce_I (ce_tA (ce_sI S 20 33 0 1) 33 F) 20 7 0 = nI (w_n w) := by rw [r_I_tA, r_I_sI, if_pos rfl, if_neg (by decide)]; exact hn.1
    have d8 : ce_I (ce_tA (ce_sI S 20 33 0 1) 33 F) 20 8 0 = w_sh w := by rw [r_I_tA, r_I_sI, if_pos rfl, if_neg (by decide)]; exact c1
    have d9 : ce_I (ce_tA (ce_sI S 20 33 0 1) 33 F) 20 9 0 = w_ho w := by rw [r_I_tA, r_I_sI, if_pos rfl, if_neg (by decide)]; exact c2
    have d10 : ce_I (ce_tA (ce_sI S 20 33 0 1) 33 F) 20 10 0 = w_li w := by rw [r_I_tA, r_I_sI, if_pos rfl, if_neg (by decide)]; exact c3
    have d11 : ce_I (ce_tA (ce_sI S 20 33 0 1) 33 F) 20 11 0 = nI (w_ru w) := by rw [r_I_tA, r_I_sI, if_pos rfl, if_neg (by decide)]; exact c4
    have hms : F_X12_standing [.inr (.inl (20, 0)), .inl (nI 0)] S2 = some (s_many w 0, S2) := m_many' (w := w) M2.1.1 M2.1.2 (fun i hi => (hf2 i hi).1.2.2.2.2.2.1) 0
    simp only [Option.bind_some, d7, d8, d9, d10, d11]
    rw [← hS2, hms]
    rfl
  · rw [hS2]
    exact cEq_trans (cEq_trans (cEq_trans (cEq_trans (cEq_trans (cEq_trans (cEq_20 _ _ _ _) (cEq_tA _ 33 F (by decide))) (cEq_20 _ _ _ _)) (cEq_20 _ _ _ _)) (cEq_20 _ _ _ _)) (cEq_20 _ _ _ _)) (cEq_20 _ _ _ _)
theorem cEq_mt {S S' : ce_S} (h : mt S S') : cEq S S' := cEq_mq (mt_mq h)
theorem m_back {w : sp_W} {S : ce_S} (hR : MR w S) : ∃ S', F_X12_back [.inr (.inl (20, 0))] S = some ((s_back w).1, S') ∧ MR (s_back w).2 S' ∧ cEq S S' := by
  obtain ⟨hM, hf⟩ := id hR
  obtain ⟨hn, ⟨c1, c2, c3, c4, c5, c6⟩, ⟨t1, t2, t3, t4⟩, hp, hh, hi, hw⟩ := id hM
  unfold s_back
  cases he : w_i w with
  | none =>
    refine ⟨S, fI_by tl_X12_back (gd_r rfl rfl) (fun kk => sg_X12_back_0 S kk) ?_, hR, cEq_refl S⟩
    simp only [if_pos (hi.1 he)]
  | some v =>
    obtain ⟨M, f, c⟩ := v
    obtain ⟨a1, a2, a3, a4, a5, a6, a7, a8, a9, a10, a11⟩ := hi.2 M f c he
    have hn6 := hn.2
    obtain ⟨S1, p1, p2, p3, p4⟩ := m_putsBack 0 (by decide) M (by omega) S
    obtain ⟨S2, hS2⟩ : ∃ S2, S2 = ce_sI (ce_sI (ce_sI (ce_sI S1 20 8 0 c.2.1) 20 9 0 c.2.2.1) 20 10 0 c.2.2.2) 20 11 0 (nI c.1) := ⟨_, rfl⟩
    have hI1 : ce_I S1 = ce_I S := mt_I p2
    have hI : ∀ k, ¬ (8 ≤ k ∧ k ≤ 11) → ce_I S2 20 k 0 = ce_I S 20 k 0 := fun k hk => by
      rw [hS2, r_I_sI, if_pos rfl, if_neg (by omega), r_I_sI, if_pos rfl, if_neg (by omega), r_I_sI, if_pos rfl, if_neg (by omega), r_I_sI, if_pos rfl, if_neg (by omega), hI1]
    have hA : ∀ t, ¬ (24 ≤ t ∧ t ≤ 27) → ce_A S2 t = ce_A S t := fun t ht => by
      rw [hS2]
      show ce_A S1 t = _
      exact p2.1 t ht
    have hA2 : ∀ t, ce_A S2 t = ce_A S1 t := fun t => by rw [hS2]; rfl
    have hL : ce_L S2 = ce_L S := by
      rw [hS2]
      show ce_L S1 = _
      exact mq_L (mt_mq p2)
    obtain ⟨w', hw'⟩ : ∃ w' : sp_W, w' = ((w_n w, fun i => if i < M then sp_talk (w_r w i) (f i) else w_r w i), c, w.2.2) := ⟨_, rfl⟩
    have hi' : MXi w' S2 := by
      rw [hw']
      refine ⟨fun e => (hI 33 (by decide)).trans (hi.1 e), fun m' f' c' e => ?_⟩
      obtain ⟨b1, b2, b3, b4, b5, b6, b7, b8, b9⟩ := hi.2 m' f' c' e
      refine ⟨(hI 33 (by decide)).trans b1, (hI 28 (by decide)).trans b2, b3, fun i hi => ?_, (hI 29 (by decide)).trans b5, (hI 30 (by decide)).trans b6, (hI 31 (by decide)).trans b7, (hI 32 (by decide)).trans b8, b9⟩
      have := b4 i hi
      unfold kpt at this ⊢
      rw [hA 33 (by decide)]; exact this
    have M2 : MX w' S2 := MX_upd hM (by rw [hw']; exact ⟨(hI 7 (by decide)).trans hn.1, hn.2⟩) (by
      rw [hw']
      refine ⟨?_, ?_, ?_, ?_, a10, a11⟩ <;> rw [hS2] <;> simp only [r_I_sR, r_I_sA, r_I_sF, r_I_sQ, r_R_sI, r_R_sA, r_R_sF, r_R_sQ, r_A_sI, r_A_sR, r_A_sQ, r_L_sI, r_L_sR, r_L_sA, r_L_sF, r_L_sQ, r_C_sI, r_C_sR, r_C_sA, r_C_sF, r_C_sQ, r_Q_sI, r_Q_sR, r_Q_sA, r_Q_sF, r_I_sI, r_R_sR, r_A_sA, r_A_sF, r_Q_sQ, r_I_tA, r_R_tA, r_L_tA, r_C_tA, r_Q_tA, r_A_tA, reduceIte, Nat.reduceEqDiff] <;> rfl) (by rw [hw']) (by rw [hw']) (by rw [hw']; exact a9) (by
      rw [hw']
      intro i hi
      rw [hA 34 (by decide), hA 35 (by decide), hA 36 (by decide)]; exact hh i hi) hi' (fun k hk => hI k (by omega)) (fun t ht => hA t (by omega)) hL
    have hf2 : MSr (w_n w') (w_r w') S2 := by
      rw [hw']
      intro i hi
      have hi : i < w_n w := hi
      obtain ⟨q1, q2, q3, q4, q5, q6, q7⟩ := (hf i hi).1
      show mr S2 i (if i < M then sp_talk (w_r w i) (f i) else w_r w i) ∧ rok (if i < M then sp_talk (w_r w i) (f i) else w_r w i)
      by_cases q : i < M
      · rw [if_pos q]
        obtain ⟨b1, b2, b3, b4⟩ := p3 i q
        obtain ⟨⟨g1, g2, g3, g4⟩, g5⟩ := a4 i q
        simp only [Nat.mul_zero, Nat.zero_add] at b1 b2 b3 b4
        refine ⟨⟨?_, ?_, ?_, ?_, ?_, ?_, ?_⟩, (hf i hi).2.1, g5⟩
        · rw [hA 21 (by decide)]; exact q1
        · rw [hA 22 (by decide)]; exact q2
        · rw [hA 23 (by decide)]; exact q3
        · rw [hA2, b1]; exact g1
        · rw [hA2, b2]; exact g2
        · rw [hA2, b3]; exact g3
        · rw [hA2, b4]; exact g4
      · rw [if_neg q]
        refine ⟨⟨?_, ?_, ?_, ?_, ?_, ?_, ?_⟩, (hf i hi).2⟩
        · rw [hA 21 (by decide)]; exact q1
        · rw [hA 22 (by decide)]; exact q2
        · rw [hA 23 (by decide)]; exact q3
        · rw [hA2, p4 24 i (by omega)]; exact q4
        · rw [hA2, p4 25 i (by omega)]; exact q5
        · rw [hA2, p4 26 i (by omega)]; exact q6
        · rw [hA2, p4 27 i (by omega)]; exact q7
    have hR2 : MR w' S2 := ⟨M2, hf2⟩
    simp only
    rw [← hw']
    refine ⟨S2, fI_by tl_X12_back (gd_r rfl rfl) (fun kk => sg_X12_back_0 S kk) ?_, hR2, ?_⟩
    · have hne : ¬ ce_I S 20 33 0 = 0 := by rw [a1]; decide
      have hms := m_many hR2 0
      simp only [if_neg hne, a2]
      rw [show (.inl 0 : ce_V) = .inl (nI 0) from rfl, p1]
      simp only [Option.bind_some, hI1, a5, a6, a7, a8]
      rw [← hS2, show (.inl (nI 0) : ce_V) = .inl 0 from rfl, hms]
      rfl
    · rw [hS2]
      exact cEq_trans (cEq_trans (cEq_trans (cEq_trans (cEq_mt p2) (cEq_20 _ _ _ _)) (cEq_20 _ _ _ _)) (cEq_20 _ _ _ _)) (cEq_20 _ _ _ _)
/-- a sheet of the reference is put -/
theorem MR_hp {w : sp_W} {S S' : ce_S} (hR : MR w S) {j : Nat} (hj : j < 4) (H : sp_H) (hI : ce_I S' = ce_I S) (hA : ∀ t, ¬ (34 ≤ t ∧ t ≤ 37) → ce_A S' t = ce_A S t) (hL : ce_L S' = ce_L S)
    (ho : ∀ i, i < 4 → i ≠ j → ce_A S' 34 0 i = ce_A S 34 0 i ∧ ce_A S' 35 0 i = ce_A S 35 0 i ∧ ∀ e, e < 40 → ce_A S' 36 0 (40 * i + e) = ce_A S 36 0 (40 * i + e))
    (h1 : ce_A S' 34 0 j = H.1) (h2 : ce_A S' 35 0 j = nI H.2.1) (h3 : H.2.1 ≤ 40) (h4 : H.1 = -1 ∨ 0 ≤ H.1) (h5 : ∀ e, e < H.2.1 → ce_A S' 36 0 (40 * j + e) = H.2.2 e) : MR (w_hput w j H) S' := by
  obtain ⟨hM, hf⟩ := id hR
  obtain ⟨hn, hc, ⟨t1, t2, t3, t4⟩, hp, hh, hi, hw⟩ := id hM
  refine ⟨MX_upd hM (by unfold MXn; rw [hI]; exact hn) (by unfold MXc; rw [hI]; exact hc) rfl rfl t3 (fun i hi => ?_) ?_ (fun k _ => by rw [hI]) (fun t ht => hA t (by omega)) hL, MSr_A hf (fun t g1 g2 => hA t (by omega))⟩
  · show ce_A S' 34 0 i = (if i = j then H else w_h w i).1 ∧ ce_A S' 35 0 i = nI (if i = j then H else w_h w i).2.1 ∧ (if i = j then H else w_h w i).2.1 ≤ 40 ∧ ((if i = j then H else w_h w i).1 = -1 ∨ 0 ≤ (if i = j then H else w_h w i).1) ∧ ∀ e, e < (if i = j then H else w_h w i).2.1 → ce_A S' 36 0 (40 * i + e) = (if i = j then H else w_h w i).2.2 e
    by_cases q : i = j
    · subst q
      simp only [if_true]
      exact ⟨h1, h2, h3, h4, h5⟩
    · simp only [if_neg q]
      obtain ⟨o1, o2, o3⟩ := ho i hi q
      obtain ⟨b1, b2, b3, b4, b5⟩ := hh i hi
      exact ⟨o1.trans b1, o2.trans b2, b3, b4, fun e he => (o3 e (by omega)).trans (b5 e he)⟩
  · refine ⟨fun e => by rw [hI]; exact hi.1 e, fun m f c e => ?_⟩
    obtain ⟨b1, b2, b3, b4, b5, b6, b7, b8, b9⟩ := hi.2 m f c e
    rw [hI]
    refine ⟨b1, b2, b3, fun i hi => ?_, b5, b6, b7, b8, b9⟩
    have := b4 i hi
    unfold kpt at this ⊢
    rw [hA 33 (by decide)]; exact this
theorem m_sh39 (x2 x3 : Int32) (j n : Nat) (hj : j < 4) (h40 : n ≤ 40) : ∀ m, m ≤ n → ∀ (S : ce_S), ce_A S 35 0 j = nI n → (∀ e, e < n - m → ce_A S 36 0 (40 * j + e) = 0) → ∃ f, (∀ e, ¬ (40 * j ≤ e ∧ e < 40 * j + n) → f 0 e = ce_A S 36 0 e) ∧ (∀ e, e < n → f 0 (40 * j + e) = 0) ∧ ce_Ev tb_X12_sheet 39 (0, 0) [some (.inr (.inl (20, 0))), some (.inl (nI j)), some (.inl x2), some (.inl x3), some (.inl (nI (n - m)))] [] S (some (.inl 1), ce_tA S 36 f) := by
  have ej : (nI j).toNatClampNeg = j := nI_clamp (by omega)
  have hjn : ¬ (nI j < 0 ∨ 4 ≤ j) := nJ_in hj (by decide)
  intro m
  induction m with
  | zero =>
    intro _ S hn h
    refine ⟨ce_A S 36, fun _ _ => rfl, fun e he => h e (by omega), ce_by tl_X12_sheet (fun kk => sg_X12_sheet_39 (nI j) x2 x3 (nI (n - 0)) S kk) ?_⟩
    rw [tA_self]
    simp only [ej, if_neg hjn, hn, if_pos (show nI n ≤ nI (n - 0) from Int32.le_refl _)]
  | succ m ih =>
    intro hm S hn h
    have h1 : ¬ nI n ≤ nI (n - (m + 1)) := by rw [nJ_le (by omega) (by omega)]; omega
    have e1 : nI (n - (m + 1)) + 1 = nI (n - m) := by rw [nJ_succ, show n - (m + 1) + 1 = n - m by omega]
    obtain ⟨b1, b2⟩ := b160 hj (show n - (m + 1) < 40 by omega)
    obtain ⟨f, f1, f2, f3⟩ := ih (by omega) (ce_sA S 36 0 (40 * j + (n - (m + 1))) 0) (by rw [r_A_sA, if_neg (by decide)]; exact hn) (fun e he => by
      rw [r_A_sA, if_pos rfl, if_pos rfl]
      by_cases q : e = n - (m + 1)
      · rw [if_pos (by omega)]
      · rw [if_neg (by omega)]; exact h e (by omega))
    rw [sA_tA, tA_tA] at f3
    refine ⟨f, fun e he => ?_, f2, ce_by tl_X12_sheet (fun kk => sg_X12_sheet_39 (nI j) x2 x3 (nI (n - (m + 1))) S kk) ?_⟩
    · rw [f1 e he, r_A_sA, if_pos rfl, if_pos rfl, if_neg (by omega)]
    · simp only [ej, if_neg hjn, hn, if_neg h1, q_add_eq, q_sub_eq, q_mul_eq, q_and_eq, q_div_eq, q_rem_eq, q_ushr_eq, q_neg_eq, q_i2b_eq, q_i2s_eq, e40, b1, if_neg b2, e1]
      rw [sA_tA]
      exact ce_kk_of f3
theorem m_sheet {w : sp_W} {S : ce_S} (hR : MR w S) (x y n : Int32) : ∃ S', F_X12_sheet [.inr (.inl (20, 0)), .inl x, .inl y, .inl n] S = some ((s_sheet w x y n).1, S') ∧ MR (s_sheet w x y n).2 S' ∧ cEq S S' := by
  obtain ⟨hM, hf⟩ := id hR
  unfold s_sheet
  by_cases h1 : is4 x
  · by_cases h2 : -1 ≤ y ∧ y ≤ 2
    · rw [if_pos (show is4 x ∧ -1 ≤ y ∧ y ≤ 2 from ⟨h1, h2⟩)]
      obtain ⟨j, hj, rfl, f2, fin, fsh, f3, f4, f5, f6, f7⟩ := m_sh hM h1
      -- a row of k of a sort becomes
      have bec : ∀ (k : Nat) (s' x3 : Int32), k ≤ 40 → (s' = -1 ∨ 0 ≤ s') → ∃ S', MR (w_hput w j (s', k, fun _ => 0)) S' ∧ cEq S S' ∧ ce_Ev tb_X12_sheet 39 (0, 0) [some (.inr (.inl (20, 0))), some (.inl (nI j)), some (.inl s'), some (.inl x3), some (.inl 0)] [] (ce_sA (ce_sA S 34 0 j s') 35 0 j (nI k)) (some (.inl 1), S') := by
        intro k s' x3 hk hs'
        obtain ⟨f, g1, g2, g3⟩ := m_sh39 s' x3 j k hj hk k (Nat.le_refl _) (ce_sA (ce_sA S 34 0 j s') 35 0 j (nI k)) (by simp only [r_I_sR, r_I_sA, r_I_sF, r_I_sQ, r_R_sI, r_R_sA, r_R_sF, r_R_sQ, r_A_sI, r_A_sR, r_A_sQ, r_L_sI, r_L_sR, r_L_sA, r_L_sF, r_L_sQ, r_C_sI, r_C_sR, r_C_sA, r_C_sF, r_C_sQ, r_Q_sI, r_Q_sR, r_Q_sA, r_Q_sF, r_I_sI, r_R_sR, r_A_sA, r_A_sF, r_Q_sQ, r_I_tA, r_R_tA, r_L_tA, r_C_tA, r_Q_tA, r_A_tA, reduceIte, Nat.reduceEqDiff]) (fun e he => absurd he (by omega))
        rw [Nat.sub_self] at g3
        refine ⟨ce_tA (ce_sA (ce_sA S 34 0 j s') 35 0 j (nI k)) 36 f, ?_, cEq_trans (cEq_trans (cEq_sA _ _ _ _ _ (by decide)) (cEq_sA _ _ _ _ _ (by decide))) (cEq_tA _ 36 f (by decide)), g3⟩
        refine MR_hp hR hj (s', k, fun _ => 0) rfl (fun t ht => ?_) rfl (fun i hi q => ⟨?_, ?_, fun e he => ?_⟩) ?_ ?_ hk hs' (fun e he => ?_)
        · rw [r_A_tA, if_neg (by omega)]
          funext a b
          rw [r_A_sA, if_neg (by omega), r_A_sA, if_neg (by omega)]
        · rw [r_A_tA, if_neg (by decide), r_A_sA, if_neg (by decide), r_A_sA, if_pos rfl, if_pos rfl, if_neg q]
        · rw [r_A_tA, if_neg (by decide), r_A_sA, if_pos rfl, if_pos rfl, if_neg q, r_A_sA, if_neg (by decide)]
        · rw [r_A_tA, if_pos rfl, g1 _ (by omega), r_A_sA, if_neg (by decide), r_A_sA, if_neg (by decide)]
        · simp only [r_I_sR, r_I_sA, r_I_sF, r_I_sQ, r_R_sI, r_R_sA, r_R_sF, r_R_sQ, r_A_sI, r_A_sR, r_A_sQ, r_L_sI, r_L_sR, r_L_sA, r_L_sF, r_L_sQ, r_C_sI, r_C_sR, r_C_sA, r_C_sF, r_C_sQ, r_Q_sI, r_Q_sR, r_Q_sA, r_Q_sF, r_I_sI, r_R_sR, r_A_sA, r_A_sF, r_Q_sQ, r_I_tA, r_R_tA, r_L_tA, r_C_tA, r_Q_tA, r_A_tA, reduceIte, Nat.reduceEqDiff]
        · simp only [r_I_sR, r_I_sA, r_I_sF, r_I_sQ, r_R_sI, r_R_sA, r_R_sF, r_R_sQ, r_A_sI, r_A_sR, r_A_sQ, r_L_sI, r_L_sR, r_L_sA, r_L_sF, r_L_sQ, r_C_sI, r_C_sR, r_C_sA, r_C_sF, r_C_sQ, r_Q_sI, r_Q_sR, r_Q_sA, r_Q_sF, r_I_sI, r_R_sR, r_A_sA, r_A_sF, r_Q_sQ, r_I_tA, r_R_tA, r_L_tA, r_C_tA, r_Q_tA, r_A_tA, reduceIte, Nat.reduceEqDiff]
        · rw [r_A_tA, if_pos rfl]; exact g2 e he
      by_cases hy : y = -1
      · rw [if_pos hy, f2]
        subst hy
        obtain ⟨S1, g1, g2, g3⟩ := bec 0 (-1) n (by decide) (Or.inl rfl)
        refine ⟨S1, fI_by tl_X12_sheet (gd_r rfl rfl) (fun kk => sg_X12_sheet_0 (nI j) (-1) n S kk) ?_, g1, g2⟩
        simp only [m_is41 S h1, f_isIn1 S h2, Option.bind_some, i_10, if_false, if_pos (show (-1 : Int32) < 0 by decide)]
        refine ce_kk_of (ce_by tl_X12_sheet (fun kk => sg_X12_sheet_17 (nI j) (-1) n none S kk) ?_)
        simp only [if_pos (show (-1 : Int32) < 0 by decide)]
        refine ce_kk_of (ce_by tl_X12_sheet (fun kk => sg_X12_sheet_23 (nI j) (-1) n none S kk) ?_)
        simp only [f2, if_neg fin, if_neg (show ¬ (0 : Int32) ≤ -1 by decide)]
        exact ce_kk_of g3
      · rw [if_neg hy]
        have hy0 : 0 ≤ y := by
          have := h2.1
          rw [i_le] at this ⊢; rw [i_eq] at hy
          have e0 : ((0 : Int32)).toInt = 0 := by decide
          have e1 : ((-1 : Int32)).toInt = -1 := by decide
          omega
        by_cases h4 : (40 : Int32) < n
        · rw [if_pos h4]
          refine ⟨S, fI_by tl_X12_sheet (gd_r rfl rfl) (fun kk => sg_X12_sheet_0 (nI j) y n S kk) ?_, hR, cEq_refl S⟩
          simp only [m_is41 S h1, f_isIn1 S h2, Option.bind_some, i_10, if_false, if_neg (i_le_not hy0), if_neg (i_lt_not h4)]
        · rw [if_neg h4]
          by_cases h5 : n < 0
          · rw [if_pos h5]
            refine ⟨S, fI_by tl_X12_sheet (gd_r rfl rfl) (fun kk => sg_X12_sheet_0 (nI j) y n S kk) ?_, hR, cEq_refl S⟩
            simp only [m_is41 S h1, f_isIn1 S h2, Option.bind_some, i_10, if_false, if_neg (i_le_not hy0), if_pos (i_not_lt h4)]
            refine ce_kk_of (ce_by tl_X12_sheet (fun kk => sg_X12_sheet_17 (nI j) y n none S kk) ?_)
            simp only [if_neg (i_le_not hy0), if_neg (i_lt_not h5)]
          · rw [if_neg h5]
            obtain ⟨k, hk, rfl⟩ := nat_bd (x := n) (n := 40) (by decide) ⟨i_not_lt h5, i_not_lt h4⟩
            rw [f2, nI_clamp (by omega)]
            obtain ⟨S1, g1, g2, g3⟩ := bec k y (nI k) hk (Or.inr hy0)
            refine ⟨S1, fI_by tl_X12_sheet (gd_r rfl rfl) (fun kk => sg_X12_sheet_0 (nI j) y (nI k) S kk) ?_, g1, g2⟩
            simp only [m_is41 S h1, f_isIn1 S h2, Option.bind_some, i_10, if_false, if_neg (i_le_not hy0), if_pos (i_not_lt h4)]
            refine ce_kk_of (ce_by tl_X12_sheet (fun kk => sg_X12_sheet_17 (nI j) y (nI k) none S kk) ?_)
            simp only [if_neg (i_le_not hy0), if_pos (i_not_lt h5)]
            refine ce_kk_of (ce_by tl_X12_sheet (fun kk => sg_X12_sheet_23 (nI j) y (nI k) none S kk) ?_)
            simp only [f2, if_neg fin, if_pos hy0]
            exact ce_kk_of g3
    · rw [if_neg (show ¬ (is4 x ∧ -1 ≤ y ∧ y ≤ 2) from fun q => h2 q.2)]
      refine ⟨S, fI_by tl_X12_sheet (gd_r rfl rfl) (fun kk => sg_X12_sheet_0 x y n S kk) ?_, hR, cEq_refl S⟩
      simp only [m_is41 S h1, f_isIn0 S h2, Option.bind_some, i_10, if_false, if_true]
      exact ce_kk_of (ce_by tl_X12_sheet (fun kk => sg_X12_sheet_8 x y n none S kk) rfl)
  · rw [if_neg (show ¬ (is4 x ∧ -1 ≤ y ∧ y ≤ 2) from fun q => h1 q.1)]
    refine ⟨S, fI_by tl_X12_sheet (gd_r rfl rfl) (fun kk => sg_X12_sheet_0 x y n S kk) ?_, hR, cEq_refl S⟩
    simp only [m_is40 S h1, Option.bind_some, if_true]
    exact ce_kk_of (ce_by tl_X12_sheet (fun kk => sg_X12_sheet_8 x y n none S kk) rfl)
theorem m_cell {w : sp_W} {S : ce_S} (hR : MR w S) (x y v : Int32) : ∃ S', F_X12_cell [.inr (.inl (20, 0)), .inl x, .inl y, .inl v] S = some ((s_cell w x y v).1, S') ∧ MR (s_cell w x y v).2 S' ∧ cEq S S' := by
  obtain ⟨hM, hf⟩ := id hR
  unfold s_cell
  by_cases h1 : is4 x
  · obtain ⟨j, hj, rfl, f2, fin, fsh, f3, f4, f5, f6, f7⟩ := m_sh hM h1
    rw [if_pos h1, fsh]
    rcases miss_nn f6 with ⟨hm, hm'⟩ | ⟨hm, hm'⟩
    · rw [if_neg hm]
      by_cases h2 : 0 ≤ y ∧ y < nI (w_h w j).2.1
      · rw [if_pos h2]
        obtain ⟨e, he, rfl, ee⟩ := i_nat (by omega) h2
        have h3 : 0 ≤ nI e ∧ nI e ≤ nI (w_h w j).2.1 - 1 := ⟨h2.1, by
          rw [show (w_h w j).2.1 = ((w_h w j).2.1 - 1) + 1 by omega, nI_pm, nJ_le (by omega) (by omega)]; omega⟩
        obtain ⟨b1, b2⟩ := b160 hj (show e < 40 by omega)
        have hfit : MR (w_hput w j ((w_h w j).1, (w_h w j).2.1, fun e' => if e' = e then sp_fit (w_h w j).1 v else (w_h w j).2.2 e')) (ce_sA S 36 0 (40 * j + e) (sp_fit (w_h w j).1 v)) := by
          refine MR_hp hR hj _ rfl (fun t ht => ?_) rfl (fun i hi q => ⟨?_, ?_, fun e' he' => ?_⟩) ?_ ?_ f5 f6 (fun e' he' => ?_)
          · funext a b; rw [r_A_sA, if_neg (by omega)]
          · rw [r_A_sA, if_neg (by decide)]
          · rw [r_A_sA, if_neg (by decide)]
          · rw [r_A_sA, if_pos rfl, if_pos rfl, if_neg (by omega)]
          · rw [r_A_sA, if_neg (by decide)]; exact f3
          · rw [r_A_sA, if_neg (by decide)]; exact f4
          · have he' : e' < (w_h w j).2.1 := he'
            rw [r_A_sA, if_pos rfl, if_pos rfl]
            show _ = (if e' = e then sp_fit (w_h w j).1 v else (w_h w j).2.2 e')
            by_cases q : e' = e
            · rw [if_pos (by omega), if_pos q]
            · rw [if_neg (by omega), if_neg q]; exact f7 e' he'
        rw [f2, ee]
        refine ⟨_, fI_by tl_X12_cell (gd_r rfl rfl) (fun kk => sg_X12_cell_0 (nI j) (nI e) v S kk) ?_, hfit, cEq_sA _ _ _ _ _ (by decide)⟩
        simp only [m_is41 S h1, Option.bind_some, i_10, if_false, f2, if_neg fin, f3, if_pos hm', f4, q_add_eq, q_sub_eq, q_mul_eq, q_and_eq, q_div_eq, q_rem_eq, q_ushr_eq, q_neg_eq, q_i2b_eq, q_i2s_eq, f_isIn1 S h3, e40, b1, if_neg b2]
        unfold sp_fit
        by_cases s0 : (w_h w j).1 = 0
        · simp only [if_pos s0]
        by_cases s1 : (w_h w j).1 = 1
        · simp only [if_neg s0, if_pos s1]
        · simp only [if_neg s0, if_neg s1]
      · rw [if_neg h2]
        have h3 : ¬ (0 ≤ y ∧ y ≤ nI (w_h w j).2.1 - 1) := fun q => h2 ⟨q.1, by
          by_cases n0 : (w_h w j).2.1 = 0
          · have := q.2
            rw [n0] at this
            have q1 := q.1
            rw [i_le] at q1 this
            have e1 : (nI 0 - 1 : Int32).toInt = -1 := by decide
            have e0 : ((0 : Int32)).toInt = 0 := by decide
            omega
          · have := q.2
            rw [show (w_h w j).2.1 = ((w_h w j).2.1 - 1) + 1 by omega, nI_pm, i_le, i_nI (by omega)] at this
            rw [i_lt, i_nI (by omega)]; omega⟩
        refine ⟨S, fI_by tl_X12_cell (gd_r rfl rfl) (fun kk => sg_X12_cell_0 (nI j) y v S kk) ?_, hR, cEq_refl S⟩
        simp only [m_is41 S h1, Option.bind_some, i_10, if_false, f2, if_neg fin, f3, if_pos hm', f4, q_add_eq, q_sub_eq, q_mul_eq, q_and_eq, q_div_eq, q_rem_eq, q_ushr_eq, q_neg_eq, q_i2b_eq, q_i2s_eq, f_isIn0 S h3, if_true]
    · rw [if_pos hm]
      refine ⟨S, fI_by tl_X12_cell (gd_r rfl rfl) (fun kk => sg_X12_cell_0 (nI j) y v S kk) ?_, hR, cEq_refl S⟩
      simp only [m_is41 S h1, Option.bind_some, i_10, if_false, f2, if_neg fin, f3, if_neg hm']
  · rw [if_neg h1]
    refine ⟨S, fI_by tl_X12_cell (gd_r rfl rfl) (fun kk => sg_X12_cell_0 x y v S kk) ?_, hR, cEq_refl S⟩
    simp only [m_is40 S h1, Option.bind_some, if_true]
theorem m_run1 {S : ce_S} {j n : Nat} (hj : j < 4) (hn : ce_A S 35 0 j = nI n) (h40 : n ≤ 40) {x y : Int32} (h : 0 ≤ y ∧ 0 ≤ x ∧ x.toNatClampNeg + y.toNatClampNeg ≤ n) : F_X12_hasCells [.inr (.inl (20, 0)), .inl (nI j), .inl x, .inl y] S = some (1, S) := by
  refine fI_by tl_X12_hasCells (gd_r rfl rfl) (fun kk => sg_X12_hasCells_0 (nI j) x y S kk) ?_
  have ej : (nI j).toNatClampNeg = j := nI_clamp (by omega)
  have hjn : ¬ (nI j < 0 ∨ 4 ≤ j) := nJ_in hj (by decide)
  obtain ⟨h1, h2, h3⟩ := h
  have ex := nJ_of h2
  have ey := nJ_of h1
  have e1 : ¬ nI n < x := by
    rw [ex, nJ_lt (by omega) (by omega)]; omega
  have e2 : ¬ nI n - x < y := by
    rw [ex, ey, nJ_sub _ _ (by omega), nJ_lt (by omega) (by omega)]; omega
  simp only [if_neg (i_le_not h2), ej, if_neg hjn, hn, if_neg e1, q_sub_eq, if_neg e2]
theorem m_run0 {S : ce_S} {j n : Nat} (hj : j < 4) (hn : ce_A S 35 0 j = nI n) (h40 : n ≤ 40) {x y : Int32} (hy : 0 ≤ y) (h : ¬ (0 ≤ y ∧ 0 ≤ x ∧ x.toNatClampNeg + y.toNatClampNeg ≤ n)) : F_X12_hasCells [.inr (.inl (20, 0)), .inl (nI j), .inl x, .inl y] S = some (0, S) := by
  refine fI_by tl_X12_hasCells (gd_r rfl rfl) (fun kk => sg_X12_hasCells_0 (nI j) x y S kk) ?_
  have ej : (nI j).toNatClampNeg = j := nI_clamp (by omega)
  have hjn : ¬ (nI j < 0 ∨ 4 ≤ j) := nJ_in hj (by decide)
  by_cases h2 : x < 0
  · simp only [if_pos h2]
  by_cases e1 : nI n < x
  · simp only [if_neg h2, ej, if_neg hjn, hn, if_pos e1]
  have ex := nJ_of (i_not_lt h2)
  have ey := nJ_of hy
  have hxl : x.toNatClampNeg < 2 ^ 31 := by
    have h3 : x.toInt < 2 ^ 31 := Int32.toInt_lt x
    rw [show x.toNatClampNeg = x.toInt.toNat from rfl]; omega
  have hyl : y.toNatClampNeg < 2 ^ 31 := by
    have h3 : y.toInt < 2 ^ 31 := Int32.toInt_lt y
    rw [show y.toNatClampNeg = y.toInt.toNat from rfl]; omega
  have hxn : x.toNatClampNeg ≤ n := by
    have := e1
    rw [ex, nJ_lt (by omega) hxl] at this; omega
  have e2 : nI n - x < y := by
    have h3 : ¬ x.toNatClampNeg + y.toNatClampNeg ≤ n := fun q => h ⟨hy, i_not_lt h2, q⟩
    rw [ex, ey, nJ_sub _ _ hxn, nJ_lt (by omega) hyl]; omega
  simp only [if_neg h2, ej, if_neg hjn, hn, if_neg e1, q_sub_eq, if_pos e2]
theorem e40a (j a e : Nat) : 40 * nI j + nI a + nI e = nI (40 * j + a + e) := by rw [e40, nJ_add]
theorem m_cp49 (x3 x4 : Int32) (j a N n : Nat) (hj : j < 4) (h40 : n ≤ 40) (ha : a + N ≤ n) : ∀ m, m ≤ N → ∀ (S : ce_S), (∀ e, e < N - m → ce_A S 37 0 e = ce_A S 36 0 (40 * j + a + e)) → ∃ F, (∀ e, e < N → F 0 e = ce_A S 36 0 (40 * j + a + e)) ∧ ∀ res, ce_Ev tb_X12_copy 70 (0, 0) [some (.inr (.inl (20, 0))), some (.inl (nI j)), some (.inl (nI a)), some (.inl x3), some (.inl x4), some (.inl (nI N)), some (.inl 0)] [] (ce_tA S 37 F) res → ce_Ev tb_X12_copy 49 (0, 0) [some (.inr (.inl (20, 0))), some (.inl (nI j)), some (.inl (nI a)), some (.inl x3), some (.inl x4), some (.inl (nI N)), some (.inl (nI (N - m)))] [] S res := by
  intro m
  induction m with
  | zero =>
    intro _ S h
    refine ⟨ce_A S 37, fun e he => h e (by omega), fun res hr => ce_by tl_X12_copy (fun kk => sg_X12_copy_49 (nI j) (nI a) x3 x4 (nI N) (nI (N - 0)) S kk) ?_⟩
    rw [tA_self] at hr
    rw [if_pos (show nI N ≤ nI (N - 0) from Int32.le_refl _)]
    exact ce_kk_of hr
  | succ m ih =>
    intro hm S h
    have h1 : ¬ nI N ≤ nI (N - (m + 1)) := by rw [nJ_le (by omega) (by omega)]; omega
    have e1 : nI (N - (m + 1)) + 1 = nI (N - m) := by rw [nJ_succ, show N - (m + 1) + 1 = N - m by omega]
    have b1 : (nI (40 * j + a + (N - (m + 1)))).toNatClampNeg = 40 * j + a + (N - (m + 1)) := nI_clamp (by omega)
    have b2 : ¬ (nI (40 * j + a + (N - (m + 1))) < 0 ∨ 160 ≤ 40 * j + a + (N - (m + 1))) := nJ_in (by omega) (by decide)
    have b3 : (nI (N - (m + 1))).toNatClampNeg = N - (m + 1) := nI_clamp (by omega)
    have b4 : ¬ (nI (N - (m + 1)) < 0 ∨ 40 ≤ N - (m + 1)) := nJ_in (by omega) (by decide)
    obtain ⟨F, f1, f2⟩ := ih (by omega) (ce_sA S 37 0 (N - (m + 1)) (ce_A S 36 0 (40 * j + a + (N - (m + 1))))) (fun e he => by
      have hx : ∀ b v, ce_A (ce_sA S 37 0 (N - (m + 1)) v) 36 0 b = ce_A S 36 0 b := fun b v => by rw [r_A_sA, if_neg (by decide)]
      rw [hx, r_A_sA, if_pos rfl, if_pos rfl]
      by_cases q : e = N - (m + 1)
      · rw [if_pos q, q]
      · rw [if_neg q]; exact h e (by omega))
    rw [sA_tA, tA_tA] at f2
    refine ⟨F, fun e he => ?_, fun res hr => ce_by tl_X12_copy (fun kk => sg_X12_copy_49 (nI j) (nI a) x3 x4 (nI N) (nI (N - (m + 1))) S kk) ?_⟩
    · rw [f1 e he, r_A_sA, if_neg (by decide)]
    · simp only [if_neg h1, q_add_eq, q_sub_eq, q_mul_eq, q_and_eq, q_div_eq, q_rem_eq, q_ushr_eq, q_neg_eq, q_i2b_eq, q_i2s_eq, e40a, b1, if_neg b2, b3, if_neg b4, e1]
      rw [sA_tA]
      exact ce_kk_of (f2 res hr)
theorem m_cp70 (x1 x2 : Int32) (k b N n : Nat) (hk : k < 4) (h40 : n ≤ 40) (hb : b + N ≤ n) : ∀ m, m ≤ N → ∀ (S : ce_S), (∀ e, e < N - m → ce_A S 36 0 (40 * k + b + e) = ce_A S 37 0 e) → ∃ G, (∀ e, e < N → G 0 (40 * k + b + e) = ce_A S 37 0 e) ∧ (∀ e, ¬ (40 * k + b ≤ e ∧ e < 40 * k + b + N) → G 0 e = ce_A S 36 0 e) ∧ ce_Ev tb_X12_copy 70 (0, 0) [some (.inr (.inl (20, 0))), some (.inl x1), some (.inl x2), some (.inl (nI k)), some (.inl (nI b)), some (.inl (nI N)), some (.inl (nI (N - m)))] [] S (some (.inl (nI N)), ce_tA S 36 G) := by
  intro m
  induction m with
  | zero =>
    intro _ S h
    refine ⟨ce_A S 36, fun e he => h e (by omega), fun _ _ => rfl, ce_by tl_X12_copy (fun kk => sg_X12_copy_70 x1 x2 (nI k) (nI b) (nI N) (nI (N - 0)) S kk) ?_⟩
    rw [tA_self, if_pos (show nI N ≤ nI (N - 0) from Int32.le_refl _)]
  | succ m ih =>
    intro hm S h
    have h1 : ¬ nI N ≤ nI (N - (m + 1)) := by rw [nJ_le (by omega) (by omega)]; omega
    have e1 : nI (N - (m + 1)) + 1 = nI (N - m) := by rw [nJ_succ, show N - (m + 1) + 1 = N - m by omega]
    have b1 : (nI (40 * k + b + (N - (m + 1)))).toNatClampNeg = 40 * k + b + (N - (m + 1)) := nI_clamp (by omega)
    have b2 : ¬ (nI (40 * k + b + (N - (m + 1))) < 0 ∨ 160 ≤ 40 * k + b + (N - (m + 1))) := nJ_in (by omega) (by decide)
    have b3 : (nI (N - (m + 1))).toNatClampNeg = N - (m + 1) := nI_clamp (by omega)
    have b4 : ¬ (nI (N - (m + 1)) < 0 ∨ 40 ≤ N - (m + 1)) := nJ_in (by omega) (by decide)
    obtain ⟨G, g1, g2, g3⟩ := ih (by omega) (ce_sA S 36 0 (40 * k + b + (N - (m + 1))) (ce_A S 37 0 (N - (m + 1)))) (fun e he => by
      have hx : ∀ d v, ce_A (ce_sA S 36 0 (40 * k + b + (N - (m + 1))) v) 37 0 d = ce_A S 37 0 d := fun d v => by rw [r_A_sA, if_neg (by decide)]
      rw [hx, r_A_sA, if_pos rfl, if_pos rfl]
      by_cases q : e = N - (m + 1)
      · rw [if_pos (by omega), q]
      · rw [if_neg (by omega)]; exact h e (by omega))
    rw [sA_tA, tA_tA] at g3
    refine ⟨G, fun e he => ?_, fun e he => ?_, ce_by tl_X12_copy (fun kk => sg_X12_copy_70 x1 x2 (nI k) (nI b) (nI N) (nI (N - (m + 1))) S kk) ?_⟩
    · rw [g1 e he, r_A_sA, if_neg (by decide)]
    · rw [g2 e he, r_A_sA, if_pos rfl, if_pos rfl, if_neg (by omega)]
    · simp only [if_neg h1, q_add_eq, q_sub_eq, q_mul_eq, q_and_eq, q_div_eq, q_rem_eq, q_ushr_eq, q_neg_eq, q_i2b_eq, q_i2s_eq, e40a, b1, if_neg b2, b3, if_neg b4, e1]
      rw [sA_tA]
      exact ce_kk_of g3
theorem m_copy {w : sp_W} {S : ce_S} (hR : MR w S) (x a y b n : Int32) : ∃ S', F_X12_copy [.inr (.inl (20, 0)), .inl x, .inl a, .inl y, .inl b, .inl n] S = some ((s_copy w x a y b n).1, S') ∧ MR (s_copy w x a y b n).2 S' ∧ cEq S S' := by
  obtain ⟨hM, hf⟩ := id hR
  unfold s_copy
  by_cases h1 : is4 x
  · by_cases h2 : is4 y
    · obtain ⟨j, hj, rfl, f2, fin, fsh, f3, f4, f5, f6, f7⟩ := m_sh hM h1
      obtain ⟨k, hk, rfl, g2, gin, gsh, g3, g4, g5, g6, g7⟩ := m_sh hM h2
      rw [if_pos (show is4 (nI j) ∧ is4 (nI k) from ⟨h1, h2⟩), fsh, gsh]
      rcases miss_nn f6 with ⟨hm, hm'⟩ | ⟨hm, hm'⟩
      · rcases miss_nn g6 with ⟨hm2, hm2'⟩ | ⟨hm2, hm2'⟩
        · rw [if_neg (show ¬ ((w_h w j).1 = -1 ∨ (w_h w k).1 = -1) from fun q => by rcases q with q | q; exact hm q; exact hm2 q)]
          by_cases hs : (w_h w j).1 = (w_h w k).1
          · rw [if_neg (show ¬ (w_h w j).1 ≠ (w_h w k).1 from fun q => q hs)]
            have hmk : ¬ (w_h w k).1 < 0 := i_le_not hm2'
            by_cases hn0 : n < 0
            · rw [if_neg (show ¬ ((0 ≤ n ∧ 0 ≤ a ∧ 0 ≤ b) ∧ a.toNatClampNeg + n.toNatClampNeg ≤ (w_h w j).2.1 ∧ b.toNatClampNeg + n.toNatClampNeg ≤ (w_h w k).2.1) from fun q => i_lt_not hn0 q.1.1)]
              refine ⟨S, fI_by tl_X12_copy (gd_r rfl rfl) (fun kk => sg_X12_copy_0 (nI j) a (nI k) b n S kk) ?_, hR, cEq_refl S⟩
              simp only [m_is41 S h1, m_is41 S h2, Option.bind_some, i_10, if_false, f2, if_neg fin, f3, if_neg (i_le_not hm'), g2, if_neg gin, g3, if_pos hm2', hs, if_neg hmk, if_true, if_pos hn0]
            · by_cases q1 : 0 ≤ n ∧ 0 ≤ a ∧ a.toNatClampNeg + n.toNatClampNeg ≤ (w_h w j).2.1
              · by_cases q2 : 0 ≤ n ∧ 0 ≤ b ∧ b.toNatClampNeg + n.toNatClampNeg ≤ (w_h w k).2.1
                · rw [if_pos (show (0 ≤ n ∧ 0 ≤ a ∧ 0 ≤ b) ∧ a.toNatClampNeg + n.toNatClampNeg ≤ (w_h w j).2.1 ∧ b.toNatClampNeg + n.toNatClampNeg ≤ (w_h w k).2.1 from ⟨⟨q1.1, q1.2.1, q2.2.1⟩, q1.2.2, q2.2.2⟩), g2]
                  have r1 := m_run1 hj f4 f5 q1
                  have r2 := m_run1 hk g4 g5 q2
                  have ea := nJ_of q1.2.1
                  have eb := nJ_of q2.2.1
                  have en := nJ_of q1.1
                  have la := q1.2.2
                  have lb := q2.2.2
                  generalize a.toNatClampNeg = A at *
                  generalize b.toNatClampNeg = B at *
                  generalize n.toNatClampNeg = N at *
                  subst ea eb en
                  obtain ⟨F, F1, F2⟩ := m_cp49 (nI k) (nI B) j A N (w_h w j).2.1 hj f5 la N (Nat.le_refl _) S (fun e he => absurd he (by omega))
                  obtain ⟨G, G1, G2, G3⟩ := m_cp70 (nI j) (nI A) k B N (w_h w k).2.1 hk g5 lb N (Nat.le_refl _) (ce_tA S 37 F) (fun e he => absurd he (by omega))
                  rw [Nat.sub_self] at F2 G3
                  have h36 : ce_A (ce_tA S 37 F) 36 = ce_A S 36 := by rw [r_A_tA, if_neg (by decide)]
                  refine ⟨ce_tA (ce_tA S 37 F) 36 G, fI_by tl_X12_copy (gd_r rfl rfl) (fun kk => sg_X12_copy_0 (nI j) (nI A) (nI k) (nI B) (nI N) S kk) ?_, ?_, cEq_trans (cEq_tA _ 37 F (by decide)) (cEq_tA _ 36 G (by decide))⟩
                  · simp only [m_is41 S h1, m_is41 S h2, Option.bind_some, i_10, if_false, f2, if_neg fin, f3, if_neg (i_le_not hm'), g2, if_neg gin, g3, if_pos hm2', hs, if_neg hmk, if_true, if_neg hn0, r1, r2]
                    exact ce_kk_of (F2 _ G3)
                  · refine MR_hp hR hk _ rfl (fun t ht => ?_) rfl (fun i hi q => ⟨?_, ?_, fun e he => ?_⟩) ?_ ?_ g5 g6 (fun e he => ?_)
                    · rw [r_A_tA, if_neg (by omega), r_A_tA, if_neg (by omega)]
                    · rw [r_A_tA, if_neg (by decide), r_A_tA, if_neg (by decide)]
                    · rw [r_A_tA, if_neg (by decide), r_A_tA, if_neg (by decide)]
                    · rw [r_A_tA, if_pos rfl, G2 _ (by omega), h36]
                    · rw [r_A_tA, if_neg (by decide), r_A_tA, if_neg (by decide)]; exact g3
                    · rw [r_A_tA, if_neg (by decide), r_A_tA, if_neg (by decide)]; exact g4
                    · have he : e < (w_h w k).2.1 := he
                      rw [r_A_tA, if_pos rfl]
                      show G 0 (40 * k + e) = (if B ≤ e ∧ e < B + N then (w_h w j).2.2 (A + (e - B)) else (w_h w k).2.2 e)
                      by_cases q : B ≤ e ∧ e < B + N
                      · rw [if_pos q, show 40 * k + e = 40 * k + B + (e - B) by omega, G1 (e - B) (by omega), r_A_tA, if_pos rfl, F1 (e - B) (by omega), show 40 * j + A + (e - B) = 40 * j + (A + (e - B)) by omega]
                        exact f7 _ (by omega)
                      · rw [if_neg q, G2 _ (by omega), h36]; exact g7 e he
                · rw [if_neg (show ¬ ((0 ≤ n ∧ 0 ≤ a ∧ 0 ≤ b) ∧ a.toNatClampNeg + n.toNatClampNeg ≤ (w_h w j).2.1 ∧ b.toNatClampNeg + n.toNatClampNeg ≤ (w_h w k).2.1) from fun q => q2 ⟨q.1.1, q.1.2.2, q.2.2⟩)]
                  refine ⟨S, fI_by tl_X12_copy (gd_r rfl rfl) (fun kk => sg_X12_copy_0 (nI j) a (nI k) b n S kk) ?_, hR, cEq_refl S⟩
                  simp only [m_is41 S h1, m_is41 S h2, Option.bind_some, i_10, if_false, f2, if_neg fin, f3, if_neg (i_le_not hm'), g2, if_neg gin, g3, if_pos hm2', hs, if_neg hmk, if_true, if_neg hn0, m_run1 hj f4 f5 q1, m_run0 hk g4 g5 (i_not_lt hn0) q2]
              · rw [if_neg (show ¬ ((0 ≤ n ∧ 0 ≤ a ∧ 0 ≤ b) ∧ a.toNatClampNeg + n.toNatClampNeg ≤ (w_h w j).2.1 ∧ b.toNatClampNeg + n.toNatClampNeg ≤ (w_h w k).2.1) from fun q => q1 ⟨q.1.1, q.1.2.1, q.2.1⟩)]
                refine ⟨S, fI_by tl_X12_copy (gd_r rfl rfl) (fun kk => sg_X12_copy_0 (nI j) a (nI k) b n S kk) ?_, hR, cEq_refl S⟩
                simp only [m_is41 S h1, m_is41 S h2, Option.bind_some, i_10, if_false, f2, if_neg fin, f3, if_neg (i_le_not hm'), g2, if_neg gin, g3, if_pos hm2', hs, if_neg hmk, if_true, if_neg hn0, m_run0 hj f4 f5 (i_not_lt hn0) q1]
          · rw [if_pos hs]
            refine ⟨S, fI_by tl_X12_copy (gd_r rfl rfl) (fun kk => sg_X12_copy_0 (nI j) a (nI k) b n S kk) ?_, hR, cEq_refl S⟩
            simp only [m_is41 S h1, m_is41 S h2, Option.bind_some, i_10, if_false, f2, if_neg fin, f3, if_neg (i_le_not hm'), g2, if_neg gin, g3, if_pos hm2', if_neg hs]
        · rw [if_pos (Or.inr hm2)]
          refine ⟨S, fI_by tl_X12_copy (gd_r rfl rfl) (fun kk => sg_X12_copy_0 (nI j) a (nI k) b n S kk) ?_, hR, cEq_refl S⟩
          simp only [m_is41 S h1, m_is41 S h2, Option.bind_some, i_10, if_false, f2, if_neg fin, f3, if_neg (i_le_not hm'), g2, if_neg gin, g3, if_neg hm2']
      · rw [if_pos (Or.inl hm)]
        refine ⟨S, fI_by tl_X12_copy (gd_r rfl rfl) (fun kk => sg_X12_copy_0 (nI j) a (nI k) b n S kk) ?_, hR, cEq_refl S⟩
        simp only [m_is41 S h1, m_is41 S h2, Option.bind_some, i_10, if_false, f2, if_neg fin, f3, if_pos (i_not_le hm')]
    · rw [if_neg (show ¬ (is4 x ∧ is4 y) from fun q => h2 q.2)]
      refine ⟨S, fI_by tl_X12_copy (gd_r rfl rfl) (fun kk => sg_X12_copy_0 x a y b n S kk) ?_, hR, cEq_refl S⟩
      simp only [m_is41 S h1, m_is40 S h2, Option.bind_some, i_10, if_false, if_true]
  · rw [if_neg (show ¬ (is4 x ∧ is4 y) from fun q => h1 q.1)]
    refine ⟨S, fI_by tl_X12_copy (gd_r rfl rfl) (fun kk => sg_X12_copy_0 x a y b n S kk) ?_, hR, cEq_refl S⟩
    simp only [m_is40 S h1, Option.bind_some, if_true]
theorem m_sel34 (x2 fr : Int32) (j N : Nat) (hN : N ≤ 6) (H : sp_H) (h40 : H.2.1 ≤ 40) (hj : j < 4) : ∀ m, m ≤ N → ∀ (acc : Int32) (w : sp_W) (S : ce_S) (z7 : Option ce_V), MR w S → w_h w j = H → ∃ S1, MR (sp_sel H fr N m acc w).2 S1 ∧ cEq S S1 ∧ ce_Ev tb_X12_sellers 34 (0, 0) [some (.inr (.inl (20, 0))), some (.inl (nI j)), some (.inl x2), some (.inl fr), some (.inl (nI N)), some (.inl acc), some (.inl (nI (N - m))), z7] [] S (some (.inl (sp_sel H fr N m acc w).1), S1) := by
  have ej : (nI j).toNatClampNeg = j := nI_clamp (by omega)
  have hjn : ¬ (nI j < 0 ∨ 4 ≤ j) := nJ_in hj (by decide)
  intro m
  induction m with
  | zero =>
    intro _ acc w S z7 hR hH
    refine ⟨S, hR, cEq_refl S, ce_by tl_X12_sellers (fun kk => sg_X12_sellers_34 (nI j) x2 fr (nI N) acc (nI (N - 0)) z7 S kk) ?_⟩
    rw [if_pos (show nI N ≤ nI (N - 0) from Int32.le_refl _)]; rfl
  | succ m ih =>
    intro hm acc w S z7 hR hH
    have h1 : ¬ nI N ≤ nI (N - (m + 1)) := by rw [nJ_le (by omega) (by omega)]; omega
    have e1 : nI (N - (m + 1)) + 1 = nI (N - m) := by rw [nJ_succ, show N - (m + 1) + 1 = N - m by omega]
    have e2k : 2 * nI (N - (m + 1)) = nI (2 * (N - (m + 1))) := by rw [show (2 : Int32) = nI 2 from rfl, nJ_mul]
    obtain ⟨a1, a2, a3, a4, a5⟩ := hR.1.2.2.2.2.1 j hj
    rw [hH] at a1 a2 a3 a4 a5
    unfold sp_sel
    by_cases h0 : fr < 0
    · rw [if_neg (show ¬ (0 ≤ fr ∧ fr.toNatClampNeg + 2 * (N - (m + 1)) + 1 < H.2.1) from fun q => i_lt_not h0 q.1)]
      refine ⟨S, hR, cEq_refl S, ce_by tl_X12_sellers (fun kk => sg_X12_sellers_34 (nI j) x2 fr (nI N) acc (nI (N - (m + 1))) z7 S kk) ?_⟩
      simp only [if_neg h1, if_pos h0]
    · have h0' := i_not_lt h0
      have ef := nJ_of h0'
      have hfl : fr.toNatClampNeg < 2 ^ 31 := by
        have h3 : fr.toInt < 2 ^ 31 := Int32.toInt_lt fr
        rw [show fr.toNatClampNeg = fr.toInt.toNat from rfl]; omega
      generalize fr.toNatClampNeg = FR at *
      subst ef
      -- the bound as a number
      have hbd : (nI FR < nI H.2.1 - 1 - nI (2 * (N - (m + 1)))) ↔ FR + 2 * (N - (m + 1)) + 1 < H.2.1 := by
        by_cases q : 2 * (N - (m + 1)) + 1 ≤ H.2.1
        · rw [show H.2.1 = (H.2.1 - 1) + 1 by omega, nI_pm, nJ_sub _ _ (by omega), nJ_lt hfl (by omega)]; omega
        · have e : nI H.2.1 - 1 - nI (2 * (N - (m + 1))) = -(nI (2 * (N - (m + 1)) + 1 - H.2.1)) := by
            rw [← nJ_sub _ _ (by omega), Int32.neg_sub, ← nJ_succ, Int32.sub_sub, Int32.add_comm (nI (2 * (N - (m + 1)))) 1]
          rw [e, i_lt, Int32.toInt_neg, i_nI hfl, i_nI (by omega), Int.bmod_eq_of_le (by omega) (by omega)]
          omega
      by_cases hc : FR + 2 * (N - (m + 1)) + 1 < H.2.1
      · have hc' := hbd.mpr hc
        rw [if_pos (show 0 ≤ nI FR ∧ FR + 2 * (N - (m + 1)) + 1 < H.2.1 from ⟨h0', hc⟩)]
        have eat : nI FR + nI (2 * (N - (m + 1))) = nI (FR + 2 * (N - (m + 1))) := nJ_add _ _
        obtain ⟨b1, b2⟩ := b160 hj (show FR + 2 * (N - (m + 1)) < 40 by omega)
        obtain ⟨b3, b4⟩ := b160 hj (show FR + 2 * (N - (m + 1)) + 1 < 40 by omega)
        obtain ⟨S1, t1, t2, t3⟩ := m_comes hR (H.2.2 (FR + 2 * (N - (m + 1)))) (H.2.2 (FR + 2 * (N - (m + 1)) + 1))
        have g1 := a5 (FR + 2 * (N - (m + 1))) (by omega)
        have g2 := a5 (FR + 2 * (N - (m + 1)) + 1) hc
        by_cases hp : 0 ≤ (s_comes w (H.2.2 (FR + 2 * (N - (m + 1)))) (H.2.2 (FR + 2 * (N - (m + 1)) + 1))).1
        · obtain ⟨S2, j0, j1, j2⟩ := ih (by omega) (acc + 1) _ S1 (some (.inl (nI (FR + 2 * (N - (m + 1)))))) t2 (by rw [comes_h]; exact hH)
          rw [if_pos hp]
          refine ⟨S2, j0, cEq_trans t3 j1, ce_by tl_X12_sellers (fun kk => sg_X12_sellers_34 (nI j) x2 (nI FR) (nI N) acc (nI (N - (m + 1))) z7 S kk) ?_⟩
          simp only [if_neg h1, if_neg h0, ej, if_neg hjn, a2, q_add_eq, q_sub_eq, q_mul_eq, q_and_eq, q_div_eq, q_rem_eq, q_ushr_eq, q_neg_eq, q_i2b_eq, q_i2s_eq, e2k, if_pos hc', eat, e40, b1, if_neg b2, nJ_succ]
          rw [show 40 * j + (FR + 2 * (N - (m + 1))) + 1 = 40 * j + (FR + 2 * (N - (m + 1)) + 1) by omega]
          simp only [b3, if_neg b4, g1, g2, t1, Option.bind_some, if_neg (i_le_not hp)]
          rw [show N - (m + 1) + 1 = N - m by omega]
          exact ce_kk_of j2
        · obtain ⟨S2, j0, j1, j2⟩ := ih (by omega) acc _ S1 (some (.inl (nI (FR + 2 * (N - (m + 1)))))) t2 (by rw [comes_h]; exact hH)
          rw [if_neg hp]
          refine ⟨S2, j0, cEq_trans t3 j1, ce_by tl_X12_sellers (fun kk => sg_X12_sellers_34 (nI j) x2 (nI FR) (nI N) acc (nI (N - (m + 1))) z7 S kk) ?_⟩
          simp only [if_neg h1, if_neg h0, ej, if_neg hjn, a2, q_add_eq, q_sub_eq, q_mul_eq, q_and_eq, q_div_eq, q_rem_eq, q_ushr_eq, q_neg_eq, q_i2b_eq, q_i2s_eq, e2k, if_pos hc', eat, e40, b1, if_neg b2, nJ_succ]
          rw [show 40 * j + (FR + 2 * (N - (m + 1))) + 1 = 40 * j + (FR + 2 * (N - (m + 1)) + 1) by omega]
          simp only [b3, if_neg b4, g1, g2, t1, Option.bind_some, if_pos (i_not_le hp)]
          rw [show N - (m + 1) + 1 = N - m by omega]
          exact ce_kk_of j2
      · have hc' : ¬ nI FR < nI H.2.1 - 1 - nI (2 * (N - (m + 1))) := fun q => hc (hbd.mp q)
        rw [if_neg (show ¬ (0 ≤ nI FR ∧ FR + 2 * (N - (m + 1)) + 1 < H.2.1) from fun q => hc q.2)]
        refine ⟨S, hR, cEq_refl S, ce_by tl_X12_sellers (fun kk => sg_X12_sellers_34 (nI j) x2 (nI FR) (nI N) acc (nI (N - (m + 1))) z7 S kk) ?_⟩
        simp only [if_neg h1, if_neg h0, ej, if_neg hjn, a2, q_add_eq, q_sub_eq, q_mul_eq, q_and_eq, q_div_eq, q_rem_eq, q_ushr_eq, q_neg_eq, q_i2b_eq, q_i2s_eq, e2k, if_neg hc']
theorem m_sellers {w : sp_W} {S : ce_S} (hR : MR w S) (x y fr n : Int32) : ∃ S', F_X12_sellers [.inr (.inl (20, 0)), .inl x, .inl y, .inl fr, .inl n] S = some ((s_sellers w x y fr n).1, S') ∧ MR (s_sellers w x y fr n).2 S' ∧ cEq S S' := by
  obtain ⟨hM, hf⟩ := id hR
  unfold s_sellers
  by_cases h1 : is4 x
  · by_cases h2 : 0 ≤ y ∧ y ≤ 2
    · by_cases h3 : 0 ≤ n ∧ n ≤ 6
      · rw [if_pos (show is4 x ∧ (0 ≤ y ∧ y ≤ 2) ∧ 0 ≤ n ∧ n ≤ 6 from ⟨h1, h2, h3⟩)]
        obtain ⟨j, hj, rfl, f2, fin, fsh, f3, f4, f5, f6, f7⟩ := m_sh hM h1
        rw [fsh]
        rcases miss_nn f6 with ⟨hm, hm'⟩ | ⟨hm, hm'⟩
        · rw [if_neg hm]
          by_cases hs : (w_h w j).1 = y
          · rw [if_neg (show ¬ (w_h w j).1 ≠ y from fun q => q hs)]
            obtain ⟨N, hN, rfl⟩ := nat_bd (x := n) (n := 6) (by decide) h3
            rw [nI_clamp (by omega)]
            obtain ⟨S1, j0, j1, j2⟩ := m_sel34 y fr j N hN (w_h w j) f5 hj N (Nat.le_refl _) 0 w S none hR rfl
            rw [Nat.sub_self] at j2
            refine ⟨S1, fI_by tl_X12_sellers (gd_r rfl rfl) (fun kk => sg_X12_sellers_0 (nI j) y fr (nI N) S kk) ?_, j0, j1⟩
            simp only [m_is41 S h1, f_isIn1 S h2, f_isIn1 S h3, Option.bind_some, i_10, if_false, f2, if_neg fin, f3, if_pos hm', if_pos hs]
            exact ce_kk_of j2
          · rw [if_pos hs]
            refine ⟨S, fI_by tl_X12_sellers (gd_r rfl rfl) (fun kk => sg_X12_sellers_0 (nI j) y fr n S kk) ?_, hR, cEq_refl S⟩
            simp only [m_is41 S h1, f_isIn1 S h2, f_isIn1 S h3, Option.bind_some, i_10, if_false, f2, if_neg fin, f3, if_pos hm', if_neg hs]
        · rw [if_pos hm]
          refine ⟨S, fI_by tl_X12_sellers (gd_r rfl rfl) (fun kk => sg_X12_sellers_0 (nI j) y fr n S kk) ?_, hR, cEq_refl S⟩
          simp only [m_is41 S h1, f_isIn1 S h2, f_isIn1 S h3, Option.bind_some, i_10, if_false, f2, if_neg fin, f3, if_neg hm']
      · rw [if_neg (show ¬ (is4 x ∧ (0 ≤ y ∧ y ≤ 2) ∧ 0 ≤ n ∧ n ≤ 6) from fun q => h3 q.2.2)]
        refine ⟨S, fI_by tl_X12_sellers (gd_r rfl rfl) (fun kk => sg_X12_sellers_0 x y fr n S kk) ?_, hR, cEq_refl S⟩
        simp only [m_is41 S h1, f_isIn1 S h2, f_isIn0 S h3, Option.bind_some, i_10, if_false, if_true]
    · rw [if_neg (show ¬ (is4 x ∧ (0 ≤ y ∧ y ≤ 2) ∧ 0 ≤ n ∧ n ≤ 6) from fun q => h2 q.2.1)]
      refine ⟨S, fI_by tl_X12_sellers (gd_r rfl rfl) (fun kk => sg_X12_sellers_0 x y fr n S kk) ?_, hR, cEq_refl S⟩
      simp only [m_is41 S h1, f_isIn0 S h2, Option.bind_some, i_10, if_false, if_true]
  · rw [if_neg (show ¬ (is4 x ∧ (0 ≤ y ∧ y ≤ 2) ∧ 0 ≤ n ∧ n ≤ 6) from fun q => h1 q.1)]
    refine ⟨S, fI_by tl_X12_sellers (gd_r rfl rfl) (fun kk => sg_X12_sellers_0 x y fr n S kk) ?_, hR, cEq_refl S⟩
    simp only [m_is40 S h1, Option.bind_some, if_true]
