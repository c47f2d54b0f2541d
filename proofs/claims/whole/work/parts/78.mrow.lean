/-! the reference's reader of a row: what may stand ahead, what behind -/
theorem tc_ah : ∀ x ∈ tcs, (mS x = 100 ↔ x = 1) ∧ ((mS x = 101 ∧ ¬ (6 : Int32) ≤ mV x) ↔ i_nam x = true) ∧ ((mS x = 101 ∧ mV x = 11) ↔ x = -7) ∧ ((mS x = 102 ∧ mV x = 45) ↔ x = -14) ∧ ((mS x = 102 ∧ mV x = 40) ↔ x = 5) ∧ (mS x = 101 ∨ mS x = 102 → x ≠ 0 ∧ x ≠ 1 ∧ x ≠ 8) ∧ (i_nam x = true → 20000 + mV x = enc x) := by decide
theorem tc_be : ∀ x ∈ tcs, ((mS x = 101 ∧ mV x = 9) ↔ x = -9) ∧ ((mS x = 101 ∧ mV x = 10) ↔ x = -10) ∧ ((mS x = 102 ∧ mV x = 59) ↔ x = 7) ∧ ((mS x = 102 ∧ mV x = 41) ↔ x = 6) ∧ (mS x = 102 → (ot x ≤ 5 ∧ (ot x = 4 ∨ ot x = 5 ↔ i_cmp x = true) ∧ (ot x = 0 ↔ x = 5 ∨ x = 6 ∨ x = 7) ∧ (if mV x = 43 then 1 else if mV x = 45 then 2 else if mV x = 42 then 3 else if mV x = 60 then 4 else if mV x = 61 then 5 else (0 : Int32)) = nI (ot x))) ∧ (¬ mS x = 102 → (ot x = 0 ∨ x = -9 ∨ x = -10) ∧ i_cmp x = false ∧ x ≠ 6 ∧ x ≠ 7) ∧ (x = -9 → mS x = 101 ∧ mV x = 9 ∧ ot x = 7) ∧ (x = -10 → mS x = 101 ∧ mV x = 10 ∧ ot x = 6) := by decide
theorem MG_head {p : List Int32} {S0 S : ce_S} {r : Nat} {u : tk} {T : List tk} {K : List Nat} {o : Nat} {out : List Int32} (h : MG p S0 r (u :: T) K o out S) : u.1 ∈ tcs ∧ ce_I S 20 21 0 = mS u.1 ∧ (u.1 = 1 → ce_I S 20 23 0 = u.2.1) ∧ (mS u.1 = 101 ∨ mS u.1 = 102 → ce_I S 20 23 0 = mV u.1) ∧ tkok u := by
  obtain ⟨a1, ⟨v, r', q, b1, b2, b3, b4, b5, b6, b7, b8, b9, b10⟩, a3, a4⟩ := h
  cases b2
  have ht := a3.2 u List.mem_cons_self
  refine ⟨ht, b4, b5, fun hq => ?_, a3.1 u List.mem_cons_self⟩
  obtain ⟨_, _, _, _, _, h6, _⟩ := tc_ah u.1 ht
  obtain ⟨z1, z2, z3⟩ := h6 hq
  exact b6 z1 z2 z3
theorem m_may {p : List Int32} {S0 S : ce_S} {r : Nat} {T : List tk} {K : List Nat} {o : Nat} {out : List Int32} (h : MG p S0 r T K o out S) (hk : K.length ≤ 200) : F_X12_mayNot [m20] S = some (if mayN K = true then 1 else 0, S) := by
  refine fI_by tl_X12_mayNot (gd_r rfl rfl) (fun kk => sg_X12_mayNot_0 S kk) ?_
  rw [m_top h hk]
  simp only [Option.bind_some]
  rw [h.2.2.2.2.2.1.1]
  cases K with
  | nil => rw [if_pos (show nI ([] : List Nat).length = 0 from rfl)]; rfl
  | cons k K =>
    rw [List.length_cons] at hk ⊢
    rw [if_neg (by rw [show (0 : Int32) = nI 0 from rfl, nJ_inj (by omega) (by omega)]; omega), show (k :: K).headD 0 = k from rfl]
    have hk10 := h.2.2.2.1.1 k List.mem_cons_self
    have : k = 1 ∨ k = 2 ∨ k = 3 ∨ k = 4 ∨ k = 5 ∨ k = 6 ∨ k = 7 ∨ k = 8 ∨ k = 9 ∨ k = 10 := by omega
    rcases this with q | q | q | q | q | q | q | q | q | q <;> subst q <;> rfl
theorem m_ahead {p : List Int32} {S0 S : ce_S} {r : Nat} {u : tk} {T : List tk} {K : List Nat} {o : Nat} {out : List Int32} (hc : mctx p S0 r) (h : MG p S0 r (u :: T) K o out S) (hb : K.length + out.length ≤ 161) :
    (u.1 = 1 → ∃ S', F_X12_ahead [m20] S = some (1, S') ∧ MG p S0 r (u :: T) K o (out ++ [u.2.1]) S') ∧
    (i_nam u.1 = true → ∃ S', F_X12_ahead [m20] S = some (1, S') ∧ MG p S0 r (u :: T) K o (out ++ [u.1]) S') ∧
    (¬ u.1 = 1 → ¬ i_nam u.1 = true → (o_dd u.1 K = 0 ∨ o = 5) → F_X12_ahead [m20] S = some (-1, S)) ∧
    (¬ u.1 = 1 → ¬ i_nam u.1 = true → ¬ (o_dd u.1 K = 0 ∨ o = 5) → ∃ S', F_X12_ahead [m20] S = some (0, S') ∧ MG p S0 r (u :: T) (o_dd u.1 K :: K) (o + 1) out S') := by
  obtain ⟨g1, g2, g3, g4, g5⟩ := MG_head h
  obtain ⟨t1, t2, t3, t4, t5, t6, t7⟩ := tc_ah u.1 g1
  have he := h.2.2.2.2.1
  have ho : o ≤ 161 := by
    have hkc : ∀ K : List Nat, kc K ≤ K.length := fun K => by
      induction K with
      | nil => exact Nat.le_refl _
      | cons k K ih => unfold kc; rw [List.length_cons]; split <;> omega
    have := hkc K
    have := h.2.2.2.1.2
    omega
  have o5 : (nI o = 5) = (o = 5) := by rw [show (5 : Int32) = nI 5 from rfl, nJ_inj (by omega) (by omega)]
  have r68 : ∀ x, ce_Ev tb_X12_ahead 68 (0, 0) [some m20, some (.inl x)] [] S (some (.inl (-1)), S) := fun x => ce_by tl_X12_ahead (fun kk => sg_X12_ahead_68 x S kk) rfl
  have r12 : ∀ res, ce_Ev tb_X12_ahead 12 (0, 0) [some m20, none] [] S res → (u.1 = 1 ∨ i_nam u.1 = true) → ce_Ev tb_X12_ahead 0 (0, 0) [some m20, none] [] S res := fun res hr hu => by
    refine ce_by tl_X12_ahead (fun kk => sg_X12_ahead_0 S kk) ?_
    rw [g2]
    rcases hu with q | q
    · rw [if_pos (t1.mpr q)]; exact ce_kk_of hr
    · obtain ⟨q1, q2⟩ := t2.mpr q
      rw [if_neg (by rw [q1]; decide), if_pos q1, g4 (Or.inl q1), if_neg q2]; exact ce_kk_of hr
  have r27 : ∀ res, ce_Ev tb_X12_ahead 27 (0, 0) [some m20, none] [] S res → ¬ u.1 = 1 → ¬ i_nam u.1 = true → ce_Ev tb_X12_ahead 0 (0, 0) [some m20, none] [] S res := fun res hr n1 n2 => by
    refine ce_by tl_X12_ahead (fun kk => sg_X12_ahead_0 S kk) ?_
    rw [g2, if_neg (fun q => n1 (t1.mp q))]
    by_cases q1 : mS u.1 = 101
    · rw [if_pos q1, g4 (Or.inl q1)]
      by_cases q2 : (6 : Int32) ≤ mV u.1
      · rw [if_pos q2]; exact ce_kk_of hr
      · exact absurd (t2.mp ⟨q1, q2⟩) n2
    · rw [if_neg q1]; exact ce_kk_of hr
  -- the three deeds
  have r40 : ∀ res, ce_Ev tb_X12_ahead 40 (0, 0) [some m20, none] [] S res → ¬ (u.1 = -7 ∧ mayN K = true) → ce_Ev tb_X12_ahead 27 (0, 0) [some m20, none] [] S res := fun res hr n => by
    refine ce_by tl_X12_ahead (fun kk => sg_X12_ahead_27 none S kk) ?_
    rw [g2]
    by_cases q1 : mS u.1 = 101
    · rw [if_pos q1, g4 (Or.inl q1)]
      by_cases q2 : mV u.1 = 11
      · rw [if_pos q2, m_may h (by omega)]
        simp only [Option.bind_some]
        have q3 : ¬ mayN K = true := fun z => n ⟨t3.mp ⟨q1, q2⟩, z⟩
        rw [if_neg q3, if_pos rfl]
        exact ce_kk_of hr
      · rw [if_neg q2]; exact ce_kk_of hr
    · rw [if_neg q1]; exact ce_kk_of hr
  have r50 : ∀ res, ce_Ev tb_X12_ahead 50 (0, 0) [some m20, none] [] S res → ¬ u.1 = -14 → ce_Ev tb_X12_ahead 40 (0, 0) [some m20, none] [] S res := fun res hr n => by
    refine ce_by tl_X12_ahead (fun kk => sg_X12_ahead_40 none S kk) ?_
    rw [g2]
    by_cases q1 : mS u.1 = 102
    · rw [if_pos q1, g4 (Or.inr q1), if_neg (fun q2 => n (t4.mp ⟨q1, q2⟩))]; exact ce_kk_of hr
    · rw [if_neg q1]; exact ce_kk_of hr
  have r60 : ¬ u.1 = 5 → ce_Ev tb_X12_ahead 50 (0, 0) [some m20, none] [] S (some (.inl (-1)), S) := fun n => by
    have hr : ce_Ev tb_X12_ahead 60 (0, 0) [some m20, none] [] S (some (.inl (-1)), S) := ce_by tl_X12_ahead (fun kk => sg_X12_ahead_60 none S kk) (ce_kk_of (r68 0))
    refine ce_by tl_X12_ahead (fun kk => sg_X12_ahead_50 none S kk) ?_
    rw [g2]
    by_cases q1 : mS u.1 = 102
    · rw [if_pos q1, g4 (Or.inr q1), if_neg (fun q2 => n (t5.mp ⟨q1, q2⟩))]; exact ce_kk_of hr
    · rw [if_neg q1]; exact ce_kk_of hr
  refine ⟨fun hu => ?_, fun hu => ?_, fun n1 n2 n3 => ?_, fun n1 n2 n3 => ?_⟩
  · have hn := g5 hu
    obtain ⟨S', a1, a2⟩ := m_writes hc h (by omega) (show u.2.1 = enc u.2.1 from (enc_num hn.1 hn.2).1.symm)
    refine ⟨S', ce_fI_eq tl_X12_ahead (gd_r rfl rfl) (r12 _ (ce_by tl_X12_ahead (fun kk => sg_X12_ahead_12 none S kk) ?_) (Or.inl hu)), a2⟩
    rw [g2, if_pos (t1.mpr hu), g3 hu, a1]; rfl
  · obtain ⟨S', a1, a2⟩ := m_writes hc h (by omega) (t7 hu)
    obtain ⟨q1, q2⟩ := t2.mpr hu
    refine ⟨S', ce_fI_eq tl_X12_ahead (gd_r rfl rfl) (r12 _ (ce_by tl_X12_ahead (fun kk => sg_X12_ahead_12 none S kk) ?_) (Or.inr hu)), a2⟩
    rw [g2, if_neg (by rw [q1]; decide), g4 (Or.inl q1), q_add_eq, a1]; rfl
  · refine ce_fI_eq tl_X12_ahead (gd_r rfl rfl) (r27 _ ?_ n1 n2)
    unfold o_dd at n3
    by_cases k1 : u.1 = -7 ∧ mayN K = true
    · rw [if_pos k1] at n3
      have n4 : o = 5 := n3.resolve_left (by decide)
      obtain ⟨q1, q2⟩ := t3.mpr k1.1
      refine ce_by tl_X12_ahead (fun kk => sg_X12_ahead_27 none S kk) ?_
      rw [g2, if_pos q1, g4 (Or.inl q1), if_pos q2, m_may h (by omega), if_pos k1.2]
      simp only [Option.bind_some]
      rw [if_neg (by decide), he, if_pos (by rw [n4]; rfl)]
      exact ce_kk_of (r68 8)
    rw [if_neg k1] at n3
    refine r40 _ ?_ k1
    by_cases k2 : u.1 = -14
    · rw [if_pos k2] at n3
      have n4 : o = 5 := n3.resolve_left (by decide)
      obtain ⟨q1, q2⟩ := t4.mpr k2
      refine ce_by tl_X12_ahead (fun kk => sg_X12_ahead_40 none S kk) ?_
      rw [g2, if_pos q1, g4 (Or.inr q1), if_pos q2, he, if_pos (by rw [n4]; rfl)]
      exact ce_kk_of (r68 9)
    rw [if_neg k2] at n3
    refine r50 _ ?_ k2
    by_cases k3 : u.1 = 5
    · rw [if_pos k3] at n3
      have n4 : o = 5 := n3.resolve_left (by decide)
      obtain ⟨q1, q2⟩ := t5.mpr k3
      refine ce_by tl_X12_ahead (fun kk => sg_X12_ahead_50 none S kk) ?_
      rw [g2, if_pos q1, g4 (Or.inr q1), if_pos q2, he, if_pos (by rw [n4]; rfl)]
      exact ce_kk_of (r68 10)
    exact r60 k3
  · unfold o_dd at n3 ⊢
    by_cases k1 : u.1 = -7 ∧ mayN K = true
    · rw [if_pos k1] at n3 ⊢
      have n4 : ¬ nI o = 5 := by rw [o5]; exact fun z => n3 (Or.inr z)
      obtain ⟨q1, q2⟩ := t3.mpr k1.1
      obtain ⟨S', a1, a2⟩ := m_holds h (by omega) (k := 8) (by decide) (o + 1) (by rw [if_pos (by decide)]; omega) (ce_sI S 20 24 0 (nI (o + 1))) (by rw [if_pos (by decide)])
      refine ⟨S', ce_fI_eq tl_X12_ahead (gd_r rfl rfl) (r27 _ (ce_by tl_X12_ahead (fun kk => sg_X12_ahead_27 none S kk) ?_) n1 n2), a2⟩
      rw [g2, if_pos q1, g4 (Or.inl q1), if_pos q2, m_may h (by omega), if_pos k1.2]
      simp only [Option.bind_some]
      rw [if_neg (by decide), he, if_neg n4, q_add_eq, nJ_succ, show (8 : Int32) = nI 8 from rfl, a1]
      rfl
    rw [if_neg k1] at n3 ⊢
    by_cases k2 : u.1 = -14
    · rw [if_pos k2] at n3 ⊢
      have n4 : ¬ nI o = 5 := by rw [o5]; exact fun z => n3 (Or.inr z)
      obtain ⟨q1, q2⟩ := t4.mpr k2
      obtain ⟨S', a1, a2⟩ := m_holds h (by omega) (k := 9) (by decide) (o + 1) (by rw [if_pos (by decide)]; omega) (ce_sI S 20 24 0 (nI (o + 1))) (by rw [if_pos (by decide)])
      refine ⟨S', ce_fI_eq tl_X12_ahead (gd_r rfl rfl) (r27 _ (r40 _ (ce_by tl_X12_ahead (fun kk => sg_X12_ahead_40 none S kk) ?_) k1) n1 n2), a2⟩
      rw [g2, if_pos q1, g4 (Or.inr q1), if_pos q2, he, if_neg n4, q_add_eq, nJ_succ, show (9 : Int32) = nI 9 from rfl, a1]
      rfl
    rw [if_neg k2] at n3 ⊢
    by_cases k3 : u.1 = 5
    · rw [if_pos k3] at n3 ⊢
      have n4 : ¬ nI o = 5 := by rw [o5]; exact fun z => n3 (Or.inr z)
      obtain ⟨q1, q2⟩ := t5.mpr k3
      obtain ⟨S', a1, a2⟩ := m_holds h (by omega) (k := 10) (by decide) (o + 1) (by rw [if_pos (by decide)]; omega) (ce_sI S 20 24 0 (nI (o + 1))) (by rw [if_pos (by decide)])
      refine ⟨S', ce_fI_eq tl_X12_ahead (gd_r rfl rfl) (r27 _ (r40 _ (r50 _ (ce_by tl_X12_ahead (fun kk => sg_X12_ahead_50 none S kk) ?_) k2) k1) n1 n2), a2⟩
      rw [g2, if_pos q1, g4 (Or.inr q1), if_pos q2, he, if_neg n4, q_add_eq, nJ_succ, show (10 : Int32) = nI 10 from rfl, a1]
      rfl
    rw [if_neg k3] at n3
    exact absurd (Or.inl rfl) n3
theorem f_deed (c : Int32) (S : ce_S) : F_X12_deedOf [.inl c] S = some (if c = 43 then 1 else if c = 45 then 2 else if c = 42 then 3 else if c = 60 then 4 else if c = 61 then 5 else 0, S) := by
  refine fI_by tl_X12_deedOf (gd_n rfl rfl) (fun kk => sg_X12_deedOf_0 c S kk) ?_
  repeat' split
  all_goals rfl
/-- a state in which a reading is given up -/
def MGx (p : List Int32) (S0 : ce_S) (r : Nat) (T : List tk) (S : ce_S) : Prop := ∃ K o out, MG p S0 r T K o out S
theorem m_behind {p : List Int32} {S0 S : ce_S} {r : Nat} {u : tk} {T : List tk} {K : List Nat} {o : Nat} {out : List Int32} (hc : mctx p S0 r) (h : MG p S0 r (u :: T) K o out S) (hb : K.length + out.length ≤ 161) :
    ∃ b S', F_X12_behind [m20] S = some (b, S') ∧
    (if ot u.1 = 0 then (if u.1 = 7 then (match (lets 1 K o out).1 with
            | [] => b = 2 ∧ MG p S0 r (u :: T) [] (lets 1 K o out).2.1 (lets 1 K o out).2.2 S'
            | _ :: _ => b = -1 ∧ MGx p S0 r (u :: T) S')
          else if u.1 = 6 then (match (lets 1 K o out).1 with
            | [] => b = -1 ∧ MGx p S0 r (u :: T) S'
            | _ :: K2 => b = 0 ∧ MG p S0 r (u :: T) K2 ((lets 1 K o out).2.1 - 1) (lets 1 K o out).2.2 S')
          else b = -1 ∧ MGx p S0 r (u :: T) S')
      else if i_cmp u.1 = true then (if tcmp (lets 5 K o out).1 = true then b = -1 ∧ MGx p S0 r (u :: T) S' else b = 1 ∧ MG p S0 r (u :: T) (ot u.1 :: (lets 5 K o out).1) (lets 5 K o out).2.1 (lets 5 K o out).2.2 S')
      else b = 1 ∧ MG p S0 r (u :: T) (ot u.1 :: (lets (ht (ot u.1)) K o out).1) (lets (ht (ot u.1)) K o out).2.1 (lets (ht (ot u.1)) K o out).2.2 S') := by
  obtain ⟨S1, a1, a2⟩ := m_letsF hc (h := 7) (by decide) K o out S h hb
  have hl7 := lets_len 7 K o out
  obtain ⟨g1, g2, g3, g4, g5⟩ := MG_head a2
  obtain ⟨t1, t2, t3, t4, t5, t6, t7, t8⟩ := tc_be u.1 g1
  have nxt : ∀ g, 1 ≤ g ∧ g ≤ 7 → ∃ S2, F_X12_letsFrom [m20, .inl (nI g)] S1 = some S2 ∧ MG p S0 r (u :: T) (lets g K o out).1 (lets g K o out).2.1 (lets g K o out).2.2 S2 := fun g hg => by
    obtain ⟨S2, b1, b2⟩ := m_letsF hc hg _ _ _ S1 a2 (by omega)
    rw [lets_lets hg.2] at b2
    exact ⟨S2, b1, b2⟩
  have r75 : ∀ x S', ce_Ev tb_X12_behind 75 (0, 0) [some m20, some (.inl x)] [] S' (some (.inl (-1)), S') := fun x S' => ce_by tl_X12_behind (fun kk => sg_X12_behind_75 x S' kk) rfl
  have r52 : ∀ x S', ce_Ev tb_X12_behind 52 (0, 0) [some m20, some (.inl x)] [] S' (some (.inl (-1)), S') := fun x S' => ce_by tl_X12_behind (fun kk => sg_X12_behind_52 x S' kk) rfl
  -- holding a deed
  have r58 : ∀ (k : Nat) S2 K' o' out', 1 ≤ k ∧ k ≤ 7 → MG p S0 r (u :: T) K' o' out' S2 → K'.length < 200 → ∃ S3, ce_Ev tb_X12_behind 58 (0, 0) [some m20, some (.inl (nI k))] [] S2 (some (.inl 1), S3) ∧ MG p S0 r (u :: T) (k :: K') o' out' S3 := fun k S2 K' o' out' hk hM hK => by
    obtain ⟨S3, b1, b2⟩ := m_holds hM hK (k := k) (by omega) o' (by rw [if_neg (by omega)]; omega) S2 (by rw [if_neg (by omega)])
    refine ⟨S3, ce_by tl_X12_behind (fun kk => sg_X12_behind_58 (nI k) S2 kk) ?_, b2⟩
    rw [b1]; rfl
  have fin : ∀ {b S'}, ce_Ev tb_X12_behind 0 (0, 0) [some m20, none] [] S (some (.inl b), S') → F_X12_behind [m20] S = some (b, S') := fun hh => ce_fI_eq tl_X12_behind (gd_r rfl rfl) hh
  -- the end and the bracket
  have r77 : ∀ x, (u.1 = 7 ∨ u.1 = 6) → mS u.1 = 102 → ∃ b S', ce_Ev tb_X12_behind 77 (0, 0) [some m20, some (.inl x)] [] S1 (some (.inl b), S') ∧ (if u.1 = 7 then (match (lets 1 K o out).1 with
            | [] => b = 2 ∧ MG p S0 r (u :: T) [] (lets 1 K o out).2.1 (lets 1 K o out).2.2 S'
            | _ :: _ => b = -1 ∧ MGx p S0 r (u :: T) S')
          else (match (lets 1 K o out).1 with
            | [] => b = -1 ∧ MGx p S0 r (u :: T) S'
            | _ :: K2 => b = 0 ∧ MG p S0 r (u :: T) K2 ((lets 1 K o out).2.1 - 1) (lets 1 K o out).2.2 S')) := fun x hu hm => by
    obtain ⟨S2, b1, b2⟩ := nxt 1 (by decide)
    have hl1 := lets_len 1 K o out
    have hv : ce_I S2 20 23 0 = mV u.1 := (MG_head b2).2.2.2.1 (Or.inr hm)
    rw [show (nI 1) = (1 : Int32) from rfl] at b1
    generalize hL1 : lets 1 K o out = L at b2 hl1 ⊢
    obtain ⟨L1, L2, L3⟩ := L
    simp only at b2 hl1 ⊢
    have hcount := b2.2.2.2.2.2.1.1
    by_cases h7 : u.1 = 7
    · have hv59 : mV u.1 = 59 := (t3.mpr h7).2
      simp only [if_pos h7]
      cases L1 with
      | nil =>
        refine ⟨2, S2, ce_by tl_X12_behind (fun kk => sg_X12_behind_77 x S1 kk) ?_, rfl, b2⟩
        rw [b1]
        simp only [Option.bind_some]
        rw [hv, if_pos hv59, hcount, if_pos (show nI ([] : List Nat).length = 0 from rfl)]
      | cons k L1 =>
        refine ⟨-1, S2, ce_by tl_X12_behind (fun kk => sg_X12_behind_77 x S1 kk) ?_, rfl, _, _, _, b2⟩
        rw [b1]
        simp only [Option.bind_some]
        rw [List.length_cons] at hl1
        rw [hv, if_pos hv59, hcount, if_neg (by rw [List.length_cons, show (0 : Int32) = nI 0 from rfl, nJ_inj (by omega) (by omega)]; omega)]
    · have h6 : u.1 = 6 := hu.resolve_left h7
      have hv41 : ¬ mV u.1 = 59 := by rw [(t4.mpr h6).2]; decide
      simp only [if_neg h7]
      cases L1 with
      | nil =>
        refine ⟨-1, S2, ce_by tl_X12_behind (fun kk => sg_X12_behind_77 x S1 kk) ?_, rfl, _, _, _, b2⟩
        rw [b1]
        simp only [Option.bind_some]
        rw [hv, if_neg hv41, hcount, if_pos (show nI ([] : List Nat).length = 0 from rfl)]
      | cons k L1 =>
        -- what is left on top is a bracket
        have hk10 : k = 10 := by
          have hkr := b2.2.2.2.1.1 k List.mem_cons_self
          have hst : ∀ (K : List Nat) (o : Nat) (out : List Int32), htop (lets 1 K o out).1 < 1 := by
            intro K
            induction K with
            | nil => intro o out; exact Nat.zero_lt_one
            | cons j K ih =>
              intro o out
              by_cases hj : 1 ≤ ht j
              · rw [lets_pop K o out hj]; exact ih _ _
              · rw [lets_stop o out (show htop (j :: K) < 1 from Nat.lt_of_not_le hj)]; exact Nat.lt_of_not_le hj
          have := hst K o out
          rw [hL1] at this
          have hk0 : ht k < 1 := this
          have : ∀ j, j ≤ 9 → 1 ≤ j → 1 ≤ ht j := by decide
          rcases Nat.lt_or_ge k 10 with q | q
          · exact absurd (this k (by omega) hkr.1) (by omega)
          · omega
        obtain ⟨c1, c2, c3, c4, c5, c6, c7, c8⟩ := b2
        obtain ⟨u1, u2⟩ := (kok_tail c4).1 (by omega)
        rw [List.length_cons] at hl1
        refine ⟨0, ce_sI (ce_sI S2 20 25 0 (nI L1.length)) 20 24 0 (nI (L2 - 1)), ce_by tl_X12_behind (fun kk => sg_X12_behind_77 x S1 kk) ?_, rfl, mgq_trans c1 (mgq_trans (mgq_sI r _ 25 _ (by decide)) (mgq_sI r _ 24 _ (by decide))), MTK_of c2 (fun j j1 j2 => by rw [r_I_sI, if_pos rfl, if_neg (by omega), r_I_sI, if_pos rfl, if_neg (by omega)]), c3, u2, ?_, ⟨?_, fun i hi => ?_⟩, c7, c8⟩
        · rw [b1]
          simp only [Option.bind_some]
          rw [hv, if_neg hv41, hcount, if_neg (by rw [List.length_cons, show (0 : Int32) = nI 0 from rfl, nJ_inj (by omega) (by omega)]; omega), c5, q_sub_eq, q_sub_eq, show (1 : Int32) = nI 1 from rfl, nK_sub u1, nK_sub (by rw [List.length_cons]; omega), List.length_cons, Nat.add_sub_cancel]
        · rw [r_I_sI, if_pos rfl, if_pos rfl, if_pos rfl]
        · rw [r_I_sI, if_pos rfl, if_neg (by decide), r_I_sI, if_pos rfl, if_pos rfl, if_pos rfl]
        · rw [r_A_sI, r_A_sI, c6.2 i (by rw [List.length_cons]; omega), List.length_cons, show L1.length + 1 - 1 - i = (L1.length - 1 - i) + 1 by omega]; rfl
  by_cases hm : mS u.1 = 102
  · obtain ⟨s1, s2, s3, s4⟩ := t5 hm
    have hv : ce_I S1 20 23 0 = mV u.1 := g4 (Or.inr hm)
    by_cases h0 : ot u.1 = 0
    · -- no deed
      simp only [if_pos h0]
      by_cases h67 : u.1 = 7 ∨ u.1 = 6
      · obtain ⟨b, S', c1, c2⟩ := r77 0 h67 hm
        refine ⟨b, S', fin (ce_by tl_X12_behind (fun kk => sg_X12_behind_0 S kk) ?_), ?_⟩
        · rw [show (7 : Int32) = nI 7 from rfl, a1]
          simp only [Option.bind_some]
          rw [g2, if_pos hm, hv, f_deed, s4, h0]
          simp only [Option.bind_some]
          rw [if_pos (show nI 0 = 0 from rfl), if_pos (g2.trans hm), hv]
          by_cases h7 : u.1 = 7
          · rw [if_pos (t3.mpr h7).2]; exact ce_kk_of c1
          · rw [if_neg (fun z => h7 (t3.mp ⟨hm, z⟩)), if_pos (t4.mpr (h67.resolve_left h7)).2]; exact ce_kk_of c1
        · by_cases h7 : u.1 = 7
          · rw [if_pos h7] at c2 ⊢; exact c2
          · rw [if_neg h7] at c2 ⊢
            rw [if_pos (h67.resolve_left h7)]; exact c2
      · have n7 : ¬ u.1 = 7 := fun z => h67 (Or.inl z)
        have n6 : ¬ u.1 = 6 := fun z => h67 (Or.inr z)
        simp only [if_neg n7, if_neg n6]
        refine ⟨-1, S1, fin (ce_by tl_X12_behind (fun kk => sg_X12_behind_0 S kk) ?_), rfl, _, _, _, a2⟩
        rw [show (7 : Int32) = nI 7 from rfl, a1]
        simp only [Option.bind_some]
        rw [g2, if_pos hm, hv, f_deed, s4, h0]
        simp only [Option.bind_some]
        rw [if_pos (show nI 0 = 0 from rfl), if_pos (g2.trans hm), hv, if_neg (fun z => n7 (t3.mp ⟨hm, z⟩)), if_neg (fun z => n6 (t4.mp ⟨hm, z⟩))]
        exact ce_kk_of (r75 _ _)
    simp only [if_neg h0]
    have hne : ¬ nI (ot u.1) = 0 := by rw [show (0 : Int32) = nI 0 from rfl, nJ_inj (by omega) (by omega)]; exact h0
    by_cases hcm : i_cmp u.1 = true
    · simp only [if_pos hcm]
      obtain ⟨S2, b1, b2⟩ := nxt 5 (by decide)
      have hl5 := lets_len 5 K o out
      have hto := m_top b2 (by omega)
      have r41 : ∀ res, ce_Ev tb_X12_behind 41 (0, 0) [some m20, some (.inl (nI (ot u.1)))] [] S1 res → ce_Ev tb_X12_behind 0 (0, 0) [some m20, none] [] S res := fun res hr => by
        refine ce_by tl_X12_behind (fun kk => sg_X12_behind_0 S kk) ?_
        rw [show (7 : Int32) = nI 7 from rfl, a1]
        simp only [Option.bind_some]
        rw [g2, if_pos hm, hv, f_deed, s4]
        simp only [Option.bind_some]
        rw [if_neg hne]
        rcases s2.mpr hcm with q | q
        · rw [q, if_pos (show nI 4 = 4 from rfl), ← q]; exact ce_kk_of hr
        · rw [q, if_neg (show ¬ nI 5 = 4 by decide), if_pos (show nI 5 = 5 from rfl), ← q]; exact ce_kk_of hr
      have htc : tcmp (lets 5 K o out).1 = true ↔ (lets 5 K o out).1.headD 0 = 4 ∨ (lets 5 K o out).1.headD 0 = 5 := by
        cases (lets 5 K o out).1 with
        | nil => exact ⟨fun z => absurd z (by decide), fun z => absurd z (by decide)⟩
        | cons k L =>
          show (decide (k = 4) || decide (k = 5)) = true ↔ k = 4 ∨ k = 5
          rw [Bool.or_eq_true, decide_eq_true_eq, decide_eq_true_eq]
      have hhd : (lets 5 K o out).1.headD 0 ≤ 10 := by
        cases hq : (lets 5 K o out).1 with
        | nil => exact Nat.zero_le _
        | cons k L => exact (b2.2.2.2.1.1 k (by rw [hq]; exact List.mem_cons_self)).2
      by_cases htm : tcmp (lets 5 K o out).1 = true
      · simp only [if_pos htm]
        refine ⟨-1, S2, fin (r41 _ (ce_by tl_X12_behind (fun kk => sg_X12_behind_41 (nI (ot u.1)) S1 kk) ?_)), rfl, _, _, _, b2⟩
        rw [show (5 : Int32) = nI 5 from rfl, b1]
        simp only [Option.bind_some]
        rw [hto]
        simp only [Option.bind_some]
        by_cases q : (lets 5 K o out).1.headD 0 = 4
        · rw [q, if_pos (show nI 4 = 4 from rfl)]; exact ce_kk_of (r52 _ _)
        · rw [if_neg (show ¬ nI ((lets 5 K o out).1.headD 0) = 4 by rw [show (4 : Int32) = nI 4 from rfl, nJ_inj (by omega) (by omega)]; exact q), hto]
          simp only [Option.bind_some]
          rw [(htc.mp htm).resolve_left q, if_pos rfl]; exact ce_kk_of (r52 _ _)
      · simp only [if_neg htm]
        obtain ⟨S3, c1, c2⟩ := r58 (ot u.1) S2 _ _ _ (by omega) b2 (by omega)
        refine ⟨1, S3, fin (r41 _ (ce_by tl_X12_behind (fun kk => sg_X12_behind_41 (nI (ot u.1)) S1 kk) ?_)), rfl, c2⟩
        rw [show (5 : Int32) = nI 5 from rfl, b1]
        simp only [Option.bind_some]
        rw [hto]
        simp only [Option.bind_some]
        rw [if_neg (show ¬ nI ((lets 5 K o out).1.headD 0) = 4 by rw [show (4 : Int32) = nI 4 from rfl, nJ_inj (by omega) (by omega)]; exact fun z => htm (htc.mpr (Or.inl z))), hto]
        simp only [Option.bind_some]
        rw [if_neg (show ¬ nI ((lets 5 K o out).1.headD 0) = nI 5 by rw [nJ_inj (by omega) (by omega)]; exact fun z => htm (htc.mpr (Or.inr z)))]
        exact ce_kk_of c1
    · simp only [if_neg hcm]
      have h123 : ot u.1 = 1 ∨ ot u.1 = 2 ∨ ot u.1 = 3 := by
        have : ¬ (ot u.1 = 4 ∨ ot u.1 = 5) := fun z => hcm (s2.mp z)
        omega
      have hh : 1 ≤ ht (ot u.1) ∧ ht (ot u.1) ≤ 7 := by rcases h123 with q | q | q <;> rw [q] <;> decide
      obtain ⟨S2, b1, b2⟩ := nxt (ht (ot u.1)) hh
      have hlh := lets_len (ht (ot u.1)) K o out
      obtain ⟨S3, c1, c2⟩ := r58 (ot u.1) S2 _ _ _ (by omega) b2 (by omega)
      refine ⟨1, S3, fin (ce_by tl_X12_behind (fun kk => sg_X12_behind_0 S kk) ?_), rfl, c2⟩
      rw [show (7 : Int32) = nI 7 from rfl, a1]
      simp only [Option.bind_some]
      rw [g2, if_pos hm, hv, f_deed, s4]
      simp only [Option.bind_some]
      rw [if_neg hne, if_neg (by rw [show (4 : Int32) = nI 4 from rfl, nJ_inj (by omega) (by omega)]; omega), if_neg (by rw [show (5 : Int32) = nI 5 from rfl, nJ_inj (by omega) (by omega)]; omega), m_ht _ (by omega)]
      simp only [Option.bind_some]
      rw [b1]
      simp only [Option.bind_some]
      exact ce_kk_of c1
  · -- no sign
    obtain ⟨s1, s2, s3, s4⟩ := t6 hm
    have word : ∀ (x : Int32) (k h : Nat), (1 ≤ k ∧ k ≤ 7) → (1 ≤ h ∧ h ≤ 7) → ot u.1 = k → ht k = h → (∀ res S2, ce_Ev tb_X12_behind 58 (0, 0) [some m20, some (.inl (nI k))] [] S2 res → F_X12_letsFrom [m20, .inl (nI h)] S1 = some S2 → ce_Ev tb_X12_behind 0 (0, 0) [some m20, none] [] S res) → ∃ b S', F_X12_behind [m20] S = some (b, S') ∧ b = 1 ∧ MG p S0 r (u :: T) (ot u.1 :: (lets (ht (ot u.1)) K o out).1) (lets (ht (ot u.1)) K o out).2.1 (lets (ht (ot u.1)) K o out).2.2 S' := fun x k h hk hh e1 e2 hgo => by
      obtain ⟨S2, b1, b2⟩ := nxt h hh
      have hlh := lets_len h K o out
      obtain ⟨S3, c1, c2⟩ := r58 k S2 _ _ _ hk b2 (by omega)
      rw [e1, e2]
      exact ⟨1, S3, fin (hgo _ S2 c1 b1), rfl, c2⟩
    by_cases h9 : u.1 = -9
    · obtain ⟨w1, w2, w3⟩ := t7 h9
      simp only [if_neg (show ¬ ot u.1 = 0 by rw [w3]; decide), if_neg (show ¬ i_cmp u.1 = true by rw [s2]; decide)]
      refine word 0 7 1 (by decide) (by decide) w3 rfl (fun res S2 hr hS => ce_by tl_X12_behind (fun kk => sg_X12_behind_0 S kk) ?_)
      rw [show (7 : Int32) = nI 7 from rfl, a1]
      simp only [Option.bind_some]
      rw [g2, if_neg hm, if_pos w1, g4 (Or.inl w1), if_pos w2, m_ht 7 (by decide)]
      simp only [Option.bind_some]
      rw [show ht 7 = 1 from rfl, hS]
      simp only [Option.bind_some]
      exact ce_kk_of hr
    have to21 : ∀ res, ce_Ev tb_X12_behind 21 (0, 0) [some m20, none] [] S1 res → ce_Ev tb_X12_behind 0 (0, 0) [some m20, none] [] S res := fun res hr => by
      refine ce_by tl_X12_behind (fun kk => sg_X12_behind_0 S kk) ?_
      rw [show (7 : Int32) = nI 7 from rfl, a1]
      simp only [Option.bind_some]
      rw [g2, if_neg hm]
      by_cases q1 : mS u.1 = 101
      · rw [if_pos q1, g4 (Or.inl q1), if_neg (fun z => h9 (t1.mp ⟨q1, z⟩))]; exact ce_kk_of hr
      · rw [if_neg q1]; exact ce_kk_of hr
    by_cases h10 : u.1 = -10
    · obtain ⟨w1, w2, w3⟩ := t8 h10
      simp only [if_neg (show ¬ ot u.1 = 0 by rw [w3]; decide), if_neg (show ¬ i_cmp u.1 = true by rw [s2]; decide)]
      refine word 0 6 2 (by decide) (by decide) w3 rfl (fun res S2 hr hS => to21 _ (ce_by tl_X12_behind (fun kk => sg_X12_behind_21 none S1 kk) ?_))
      rw [g2, if_pos w1, g4 (Or.inl w1), if_pos w2, show (6 : Int32) = nI 6 from rfl, m_ht 6 (by decide)]
      simp only [Option.bind_some]
      rw [show ht 6 = 2 from rfl, hS]
      simp only [Option.bind_some]
      exact ce_kk_of hr
    have h0 : ot u.1 = 0 := s1.resolve_right (fun z => z.elim h9 h10)
    simp only [if_pos h0, if_neg s4, if_neg s3]
    refine ⟨-1, S1, fin (to21 _ (ce_by tl_X12_behind (fun kk => sg_X12_behind_21 none S1 kk) ?_)), rfl, _, _, _, a2⟩
    have r31 : ce_Ev tb_X12_behind 31 (0, 0) [some m20, none] [] S1 (some (.inl (-1)), S1) := by
      refine ce_by tl_X12_behind (fun kk => sg_X12_behind_31 none S1 kk) ?_
      rw [g2, if_neg hm]; exact ce_kk_of (r75 _ _)
    rw [g2]
    by_cases q1 : mS u.1 = 101
    · rw [if_pos q1, g4 (Or.inl q1), if_neg (fun z => h10 (t2.mp ⟨q1, z⟩))]; exact ce_kk_of r31
    · rw [if_neg q1]; exact ce_kk_of r31
