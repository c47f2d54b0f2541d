/-! the reference's tape: its letters, token by token -/
abbrev m20 : ce_V := .inr (.inl (20, 0))
def mS (x : Int32) : Int32 := if x = 1 then 100 else if x = 0 then 103 else if x = 8 then 104 else if x = 5 ∨ x = 6 ∨ x = 7 ∨ (-15 ≤ x ∧ x ≤ -11) then 102 else 101
def mV (x : Int32) : Int32 := if x = 5 then 40 else if x = 6 then 41 else if x = 7 then 59 else if x = -13 then 43 else if x = -14 then 45 else if x = -15 then 42 else if x = -11 then 60 else if x = -12 then 61
  else if x = 2 then 6 else if x = 3 then 7 else if x = 4 then 8 else if x = -9 then 9 else if x = -10 then 10 else if x = -7 then 11 else -1 - x
def m_wk (j : Nat) : Int32 := match j with
  | 0 => -1
  | 1 => -2
  | 2 => -3
  | 3 => -4
  | 4 => -5
  | 5 => -6
  | 6 => 2
  | 7 => 3
  | 8 => 4
  | 9 => -9
  | 10 => -10
  | _ => -7
def mTL (p : List Int32) (S : ce_S) : Prop := (ce_I S 20 18 0 = nI p.length ∧ p.length ≤ 160 ∧ ∀ e, e < p.length → ce_A S 28 0 e = p.getD e 0) ∧ MXw S
def mdq (S S' : ce_S) : Prop := (∀ t k i, ¬ (t = 20 ∧ 20 ≤ k ∧ k ≤ 23) → ce_I S' t k i = ce_I S t k i) ∧ S'.2 = S.2
theorem mdq_refl (S : ce_S) : mdq S S := ⟨fun _ _ _ _ => rfl, rfl⟩
theorem mdq_trans {S S' S'' : ce_S} (h : mdq S S') (g : mdq S' S'') : mdq S S'' := ⟨fun t k i q => (g.1 t k i q).trans (h.1 t k i q), g.2.trans h.2⟩
theorem mdq_sI (S : ce_S) (k : Nat) (v : Int32) (h : 20 ≤ k ∧ k ≤ 23) : mdq S (ce_sI S 20 k 0 v) := by
  refine ⟨fun t k' i q => ?_, rfl⟩
  rw [r_I_sI]
  by_cases h1 : t = 20
  · have h2 : ¬ k' = k := fun e => q ⟨h1, by omega⟩
    rw [if_pos h1, if_neg h2]
  · rw [if_neg h1]
theorem mTL_mdq {p : List Int32} {S S' : ce_S} (h : mTL p S) (g : mdq S S') : mTL p S' := by
  have eA : ce_A S' = ce_A S := by unfold ce_A; rw [g.2]
  have eL : ce_L S' = ce_L S := by unfold ce_L; rw [g.2]
  refine ⟨⟨(g.1 20 18 0 (by omega)).trans h.1.1, h.1.2.1, ?_⟩, ?_⟩
  · rw [eA]; exact h.1.2.2
  · have q := h.2
    unfold MXw at q ⊢
    rw [eA, eL]; exact q
theorem f_isInB (c lo hi : Int32) (S : ce_S) : F_X12_isIn [.inl c, .inl lo, .inl hi] S = some (if (decide (lo ≤ c) && decide (c ≤ hi)) = true then 1 else 0, S) := by
  refine fI_by tl_X12_isIn (gd_n rfl rfl) (fun kk => sg_X12_isIn_0 c lo hi S kk) ?_
  by_cases h1 : c < lo
  · rw [if_pos h1, if_neg]
    rw [Bool.and_eq_true, decide_eq_true_eq]
    exact fun q => i_lt_not h1 q.1
  · rw [if_neg h1]
    have h1' : lo ≤ c := by rw [i_lt] at h1; rw [i_le]; omega
    by_cases h2 : hi < c
    · rw [if_pos h2, if_neg]
      rw [Bool.and_eq_true, decide_eq_true_eq, decide_eq_true_eq]
      exact fun q => i_lt_not h2 q.2
    · rw [if_neg h2, if_pos]
      rw [Bool.and_eq_true, decide_eq_true_eq, decide_eq_true_eq]
      refine ⟨h1', ?_⟩
      rw [i_lt] at h2; rw [i_le]; omega
theorem m_isAt {p : List Int32} {S : ce_S} {q : Nat} (hL : mTL p S) (hq : ce_I S 20 20 0 = nI q) (hq2 : q < p.length) (lo hi : Int32) : F_X12_isAt [m20, .inl lo, .inl hi] S = some (if (decide (lo ≤ p.getD q 0) && decide (p.getD q 0 ≤ hi)) = true then 1 else 0, S) := by
  have hn := hL.1.2.1
  refine fI_by tl_X12_isAt (gd_r rfl rfl) (fun kk => sg_X12_isAt_0 lo hi S kk) ?_
  rw [hL.1.1, hq, if_neg (by rw [nJ_le (by omega) (by omega)]; omega), nI_clamp (by omega), if_neg (nJ_in (by omega) (by decide)), hL.1.2.2 q hq2, f_isInB]
  simp only [Option.bind_some]
  by_cases h : (decide (lo ≤ p.getD q 0) && decide (p.getD q 0 ≤ hi)) = true
  · rw [if_pos h, if_neg (by decide)]
  · rw [if_neg h, if_pos rfl]
theorem m_isAtE {p : List Int32} {S : ce_S} {q : Nat} (hL : mTL p S) (hq : ce_I S 20 20 0 = nI q) (hq2 : q = p.length) (lo hi : Int32) : F_X12_isAt [m20, .inl lo, .inl hi] S = some (0, S) := by
  have hn := hL.1.2.1
  refine fI_by tl_X12_isAt (gd_r rfl rfl) (fun kk => sg_X12_isAt_0 lo hi S kk) ?_
  rw [hL.1.1, hq, if_pos (by rw [nJ_le (by omega) (by omega)]; omega)]
theorem x_in1 (c a : Int32) : (decide (a ≤ c) && decide (c ≤ a)) = decide (c = a) := by
  by_cases h : c = a
  · subst h; rw [decide_eq_true rfl, decide_eq_true (by rw [i_le]; omega)]; rfl
  · rw [decide_eq_false h]
    rw [Bool.and_eq_false_iff, decide_eq_false_iff_not, decide_eq_false_iff_not]
    by_cases g : a ≤ c
    · right; intro g2; rw [i_le] at g g2; exact h (by rw [i_eq]; omega)
    · left; exact g
theorem m_isWord12 {p : List Int32} {q k j : Nat} (hj : j < 12) (hk : k = (m_wd.getD j []).length) (hqk : q + k ≤ p.length) {S : ce_S} (hL : mTL p S) (h5 : ce_I S 20 22 0 = nI q) : ∀ m e, e + m = k → (∀ i, i < e → p.getD (q + i) 0 = (m_wd.getD j []).getD i 0) → ce_Ev tb_X12_isWord 12 (0, 0) [some m20, some (.inr (.inl (41, j))), some (.inl (nI e))] [] S (some (.inl (if (p.drop q).take k = m_wd.getD j [] then 1 else 0)), S) := by
  have hn := hL.1.2.1
  have hW := hL.2 j hj
  have hlen : ((p.drop q).take k).length = k := by rw [List.length_take, List.length_drop]; omega
  intro m
  induction m with
  | zero =>
    intro e he hall
    refine ce_by tl_X12_isWord (fun kk => sg_X12_isWord_12 j (nI e) S kk) ?_
    rw [hW.1, if_pos (by rw [nJ_le (by omega) (by omega)]; omega), if_pos]
    refine x_ext (by rw [hlen, hk]) (fun i hi => ?_)
    rw [hlen] at hi
    rw [x_dt hi]; exact hall i (by omega)
  | succ m ih =>
    intro e he hall
    refine ce_by tl_X12_isWord (fun kk => sg_X12_isWord_12 j (nI e) S kk) ?_
    rw [hW.1, if_neg (by rw [nJ_le (by omega) (by omega)]; omega), h5, q_add_eq, nJ_add, nI_clamp (by omega), if_neg (nJ_in (by omega) (by decide)), nI_clamp (by omega), if_neg (nJ_in (by omega) (by omega)), hL.1.2.2 (q + e) (by omega), hW.2 e (by omega)]
    by_cases hc : p.getD (q + e) 0 = (m_wd.getD j []).getD e 0
    · rw [if_pos hc, q_add_eq, nJ_succ]
      refine ce_kk_of (ih (e + 1) (by omega) (fun i hi => ?_))
      by_cases e1 : i = e
      · rw [e1]; exact hc
      · exact hall i (by omega)
    · rw [if_neg hc, if_neg]
      intro q1
      rw [← x_dt (k := k) (show e < k by omega), q1] at hc
      exact hc rfl
theorem m_isWord {p : List Int32} {q k : Nat} {S : ce_S} (hL : mTL p S) (h3 : ce_I S 20 20 0 = nI (q + k)) (h5 : ce_I S 20 22 0 = nI q) (hqk : q + k ≤ p.length) {j : Nat} (hj : j < 12) : F_X12_isWord [m20, .inr (.inl (41, j))] S = some (if (p.drop q).take k = m_wd.getD j [] then 1 else 0, S) := by
  have hn := hL.1.2.1
  have hW := hL.2 j hj
  have hl5 : ∀ j, j < 12 → (m_wd.getD j []).length ≤ 5 := by decide
  have hl := hl5 j hj
  refine fI_by tl_X12_isWord (gd_r rfl rfl) (fun kk => sg_X12_isWord_0 j S kk) ?_
  rw [hW.1, h3, h5, q_sub_eq, nK_sub (by omega), Nat.add_sub_cancel_left]
  by_cases hk : k = (m_wd.getD j []).length
  · rw [if_pos (show nI k = nI (m_wd.getD j []).length by rw [hk])]
    exact ce_kk_of (m_isWord12 hj hk hqk hL h5 k 0 (by omega) (fun i hi => absurd hi (Nat.not_lt_zero _)))
  · rw [if_neg (show ¬ nI k = nI (m_wd.getD j []).length by rw [nJ_inj (by omega) (by omega)]; exact hk), if_neg]
    intro e
    have q1 : ((p.drop q).take k).length = k := by rw [List.length_take, List.length_drop]; omega
    rw [e] at q1
    exact hk q1.symm
/-- the words, one after the other -/
def m_wf (l : List Int32) : Nat → Nat → ce_S → ce_S
  | 0, _, S => S
  | m + 1, k, S => m_wf l m (k + 1) (if l = m_wd.getD k [] then ce_sI (ce_sI S 20 21 0 101) 20 23 0 (nI k) else S)
theorem m_wf_no (l : List Int32) : ∀ m k S, (∀ i, k ≤ i → i < k + m → ¬ l = m_wd.getD i []) → m_wf l m k S = S := by
  intro m
  induction m with
  | zero => intro k S _; rfl
  | succ m ih =>
    intro k S h
    unfold m_wf
    rw [if_neg (h k (Nat.le_refl _) (by omega))]
    exact ih (k + 1) S (fun i h1 h2 => h i (by omega) (by omega))
theorem m_wd_inj : ∀ j, j < 12 → ∀ k, k < 12 → m_wd.getD j [] = m_wd.getD k [] → j = k := by decide
theorem m_wf_yes {j : Nat} (hj : j < 12) : ∀ m k S, k ≤ j → j < k + m → k + m = 12 → m_wf (m_wd.getD j []) m k S = ce_sI (ce_sI S 20 21 0 101) 20 23 0 (nI j) := by
  intro m
  induction m with
  | zero => intro k S h1 h2; omega
  | succ m ih =>
    intro k S h1 h2 h3
    unfold m_wf
    by_cases e : k = j
    · subst e
      rw [if_pos rfl]
      refine m_wf_no _ m (k + 1) _ (fun i h1 h2 => ?_)
      intro q
      have := m_wd_inj k hj i (by omega) q
      omega
    · rw [if_neg (fun q => e (m_wd_inj j hj k (by omega) q).symm)]
      exact ih (k + 1) S (by omega) (by omega) (by omega)
theorem m_wf_mdq (l : List Int32) : ∀ m k S, mdq S (m_wf l m k S) := by
  intro m
  induction m with
  | zero => intro k S; exact mdq_refl S
  | succ m ih =>
    intro k S
    unfold m_wf
    by_cases e : l = m_wd.getD k []
    · rw [if_pos e]; exact mdq_trans (mdq_trans (mdq_sI _ 21 _ (by decide)) (mdq_sI _ 23 _ (by decide))) (ih _ _)
    · rw [if_neg e]; exact ih _ _
theorem m_w108 {p : List Int32} {q k : Nat} (hqk : q + k ≤ p.length) : ∀ m j S, j + m = 12 → mTL p S → ce_I S 20 20 0 = nI (q + k) → ce_I S 20 22 0 = nI q → ce_Ev tb_X12_reads 108 (0, 0) [some m20, some (.inl (nI j))] [] S (none, m_wf ((p.drop q).take k) m j S) := by
  intro m
  induction m with
  | zero =>
    intro j S hj hL h3 h5
    refine ce_by tl_X12_reads (fun kk => sg_X12_reads_108 (nI j) S kk) ?_
    rw [if_pos (by rw [nJ_le (by omega) (by omega)]; omega)]; rfl
  | succ m ih =>
    intro j S hj hL h3 h5
    refine ce_by tl_X12_reads (fun kk => sg_X12_reads_108 (nI j) S kk) ?_
    rw [if_neg (by rw [nJ_le (by omega) (by omega)]; omega), nI_clamp (by omega), if_neg (nJ_in (by omega) (by decide)), m_isWord hL h3 h5 hqk (by omega)]
    simp only [Option.bind_some]
    unfold m_wf
    by_cases e : (p.drop q).take k = m_wd.getD j []
    · rw [if_pos e, if_neg (by decide), if_pos e, q_add_eq, nJ_succ]
      refine ce_kk_of (ih (j + 1) _ (by omega) (mTL_mdq hL (mdq_trans (mdq_sI _ 21 _ (by decide)) (mdq_sI _ 23 _ (by decide)))) ?_ ?_)
      · rw [r_I_sI, if_pos rfl, if_neg (by decide), r_I_sI, if_pos rfl, if_neg (by decide)]; exact h3
      · rw [r_I_sI, if_pos rfl, if_neg (by decide), r_I_sI, if_pos rfl, if_neg (by decide)]; exact h5
    · rw [if_neg e, if_pos rfl, if_neg e, q_add_eq, nJ_succ]
      exact ce_kk_of (ih (j + 1) S (by omega) hL h3 h5)
theorem m_w94 {p : List Int32} : ∀ m q (S : ce_S) (z : Option ce_V) (res : Option ce_V × ce_S), mTL p S → ce_I S 20 20 0 = nI q → q + m = p.length → ce_Ev tb_X12_reads 108 (0, 0) [some m20, some (.inl 0)] [] (ce_sI S 20 20 0 (nI (q + x_run x_sm (p.drop q)))) res → ce_Ev tb_X12_reads 94 (0, 0) [some m20, z] [] S res := by
  intro m
  induction m with
  | zero =>
    intro q S z res hL hq hm h
    rw [x_run_e (by omega), Nat.add_zero, ← hq, sI_id] at h
    refine ce_by tl_X12_reads (fun kk => sg_X12_reads_94 z S kk) ?_
    rw [m_isAtE hL hq (by omega)]
    simp only [Option.bind_some]
    rw [if_pos trivial]
    exact ce_kk_of h
  | succ m ih =>
    intro q S z res hL hq hm h
    refine ce_by tl_X12_reads (fun kk => sg_X12_reads_94 z S kk) ?_
    rw [m_isAt hL hq (by omega)]
    simp only [Option.bind_some]
    rw [x_run_s (by omega)] at h
    by_cases hb : (decide (97 ≤ p.getD q 0) && decide (p.getD q 0 ≤ 122)) = true
    · have hb' : x_sm (p.getD q 0) = true := hb
      rw [if_pos hb'] at h
      rw [if_pos hb, if_neg (by decide)]
      refine ce_kk_of (ih (q + 1) _ z res (mTL_mdq hL (mdq_sI _ 20 _ (by decide))) ?_ (by omega) ?_)
      · rw [r_I_sI, if_pos rfl, if_pos rfl, if_pos rfl, q_add_eq, hq, nJ_succ]
      · rw [sI_sI, show q + 1 + x_run x_sm (p.drop (q + 1)) = q + (x_run x_sm (p.drop (q + 1)) + 1) by omega]
        exact h
    · have hb' : ¬ x_sm (p.getD q 0) = true := hb
      rw [if_neg hb', Nat.add_zero, ← hq, sI_id] at h
      rw [if_neg hb, if_pos rfl]
      exact ce_kk_of h
theorem m_num41 {p : List Int32} {q0 : Nat} : ∀ m q (S : ce_S) (z : Option ce_V), mTL p S → ce_I S 20 20 0 = nI q → ce_I S 20 22 0 = nI q0 → q + m = p.length → q0 ≤ q → ∃ S', mdq S S' ∧ ce_I S' 20 20 0 = nI (q + x_run x_dg (p.drop q)) ∧ ce_I S' 20 22 0 = nI q0 ∧ ce_I S' 20 21 0 = (if q + x_run x_dg (p.drop q) - q0 ≤ 4 then 100 else 104) ∧ (q + x_run x_dg (p.drop q) - q0 ≤ 4 → ce_I S' 20 23 0 = x_num (ce_I S 20 23 0) ((p.drop q).take (x_run x_dg (p.drop q)))) ∧ ce_Ev tb_X12_reads 41 (0, 0) [some m20, z] [] S (none, S') := by
  intro m
  have fin : ∀ q (S : ce_S) (z : Option ce_V), mTL p S → ce_I S 20 20 0 = nI q → ce_I S 20 22 0 = nI q0 → q0 ≤ q → q ≤ p.length → x_run x_dg (p.drop q) = 0 → F_X12_isAt [m20, .inl 48, .inl 57] S = some (0, S) → ∃ S', mdq S S' ∧ ce_I S' 20 20 0 = nI (q + x_run x_dg (p.drop q)) ∧ ce_I S' 20 22 0 = nI q0 ∧ ce_I S' 20 21 0 = (if q + x_run x_dg (p.drop q) - q0 ≤ 4 then 100 else 104) ∧ (q + x_run x_dg (p.drop q) - q0 ≤ 4 → ce_I S' 20 23 0 = x_num (ce_I S 20 23 0) ((p.drop q).take (x_run x_dg (p.drop q)))) ∧ ce_Ev tb_X12_reads 41 (0, 0) [some m20, z] [] S (none, S') := by
    intro q S z hL hq h5 hle hqn hr hf
    have hn := hL.1.2.1
    rw [hr, Nat.add_zero]
    refine ⟨ce_sI S 20 21 0 (if q - q0 ≤ 4 then 100 else 104), mdq_sI _ 21 _ (by decide), ?_, ?_, ?_, fun _ => ?_, ce_by tl_X12_reads (fun kk => sg_X12_reads_41 z S kk) ?_⟩
    · rw [r_I_sI, if_pos rfl, if_neg (by decide)]; exact hq
    · rw [r_I_sI, if_pos rfl, if_neg (by decide)]; exact h5
    · rw [r_I_sI, if_pos rfl, if_pos rfl, if_pos rfl]
    · rw [r_I_sI, if_pos rfl, if_neg (by decide)]; rfl
    · rw [hf]
      simp only [Option.bind_some]
      rw [if_pos trivial, hq, h5, q_sub_eq, nK_sub hle]
      by_cases h4 : q - q0 ≤ 4
      · rw [if_pos (by rw [show (4 : Int32) = nI 4 from rfl, nJ_le (by omega) (by omega)]; exact h4), if_pos h4]
      · rw [if_neg (by rw [show (4 : Int32) = nI 4 from rfl, nJ_le (by omega) (by omega)]; exact h4), if_neg h4]
  induction m with
  | zero =>
    intro q S z hL hq h5 hm hle
    exact fin q S z hL hq h5 hle (by omega) (x_run_e (by omega)) (m_isAtE hL hq (by omega) 48 57)
  | succ m ih =>
    intro q S z hL hq h5 hm hle
    have hn := hL.1.2.1
    by_cases hb : x_dg (p.getD q 0) = true
    · have hb2 : (decide (48 ≤ p.getD q 0) && decide (p.getD q 0 ≤ 57)) = true := hb
      obtain ⟨v, hv⟩ : ∃ v : Int32, v = if 4 ≤ q - q0 then 0 else 10 * ce_I S 20 23 0 + p.getD q 0 - 48 := ⟨_, rfl⟩
      obtain ⟨S', a1, a2, a3, a4, a5, a6⟩ := ih (q + 1) (ce_sI (ce_sI S 20 23 0 v) 20 20 0 (nI (q + 1))) z (mTL_mdq hL (mdq_trans (mdq_sI _ 23 _ (by decide)) (mdq_sI _ 20 _ (by decide)))) (by rw [r_I_sI, if_pos rfl, if_pos rfl, if_pos rfl]) (by rw [r_I_sI, if_pos rfl, if_neg (by decide), r_I_sI, if_pos rfl, if_neg (by decide)]; exact h5) (by omega) (by omega)
      rw [x_run_s (q := q) (by omega), if_pos hb]
      rw [show q + 1 + x_run x_dg (p.drop (q + 1)) = q + (x_run x_dg (p.drop (q + 1)) + 1) by omega] at a2 a4 a5
      refine ⟨S', mdq_trans (mdq_trans (mdq_sI _ 23 _ (by decide)) (mdq_sI _ 20 _ (by decide))) a1, a2, a3, a4, fun h4 => ?_, ce_by tl_X12_reads (fun kk => sg_X12_reads_41 z S kk) ?_⟩
      · rw [a5 h4, drop_cons (show q < p.length by omega), List.take_succ_cons]
        show x_num _ _ = x_num (10 * ce_I S 20 23 0 + p.getD q 0 - 48) _
        rw [r_I_sI, if_pos rfl, if_neg (by decide), r_I_sI, if_pos rfl, if_pos rfl, if_pos rfl, hv, if_neg (by omega)]
      · rw [m_isAt hL hq (by omega), if_pos hb2]
        simp only [Option.bind_some]
        rw [if_neg (show ¬ (1 : Int32) = 0 by decide), hq, h5, q_sub_eq, nK_sub hle]
        by_cases h4 : 4 ≤ q - q0
        · rw [if_pos (by rw [show (4 : Int32) = nI 4 from rfl, nJ_le (by omega) (by omega)]; exact h4), q_add_eq, nJ_succ]
          rw [hv, if_pos h4] at a6
          exact ce_kk_of a6
        · rw [if_neg (by rw [show (4 : Int32) = nI 4 from rfl, nJ_le (by omega) (by omega)]; exact h4), nI_clamp (by omega), if_neg (nJ_in (by omega) (by decide)), hL.1.2.2 q (by omega), q_add_eq, q_add_eq, q_sub_eq, q_mul_eq, nJ_succ]
          rw [hv, if_neg h4] at a6
          exact ce_kk_of a6
    · have hb2 : ¬ (decide (48 ≤ p.getD q 0) && decide (p.getD q 0 ≤ 57)) = true := hb
      have hr : x_run x_dg (p.drop q) = 0 := by rw [x_run_s (by omega), if_neg hb]
      have hf := m_isAt hL hq (by omega) 48 57
      rw [if_neg hb2] at hf
      exact fin q S z hL hq h5 hle (by omega) hr hf
/-- where the reference stands in its tokens -/
def MTK (p : List Int32) (T : List tk) (S : ce_S) : Prop := ∃ u r q, q ≤ p.length ∧ T = u :: r ∧ (u.1 ≠ 0 → u.1 ≠ 8 → r = x_toks (p.drop q)) ∧ ce_I S 20 21 0 = mS u.1 ∧ (u.1 = 1 → ce_I S 20 23 0 = u.2.1) ∧ (u.1 ≠ 0 → u.1 ≠ 1 → u.1 ≠ 8 → ce_I S 20 23 0 = mV u.1) ∧ u.2.2 ≤ p.length ∧ ce_I S 20 22 0 = nI (p.length - u.2.2) ∧ ce_I S 20 20 0 = nI q ∧ (u.1 = 0 ∨ 1 ≤ r.length)
theorem f_isSign (c : Int32) (S : ce_S) : F_X12_isSign [.inl c] S = some (if x_sign c = 8 then 0 else 1, S) ∧ (x_sign c ≠ 8 → mS (x_sign c) = 102 ∧ mV (x_sign c) = c) := by
  refine ⟨fI_by tl_X12_isSign (gd_n rfl rfl) (fun kk => sg_X12_isSign_0 c S kk) ?_, ?_⟩
  · unfold x_sign
    by_cases h0 : c = 40
    · subst h0; rfl
    by_cases h1 : c = 41
    · subst h1; rfl
    by_cases h2 : c = 59
    · subst h2; rfl
    by_cases h3 : c = 43
    · subst h3; rfl
    by_cases h4 : c = 45
    · subst h4; rfl
    by_cases h5 : c = 42
    · subst h5; rfl
    by_cases h6 : c = 60
    · subst h6; rfl
    by_cases h7 : c = 61
    · subst h7; rfl
    simp only [if_neg h0, if_neg h1, if_neg h2, if_neg h3, if_neg h4, if_neg h5, if_neg h6, if_neg h7, if_true]
  · intro h
    by_cases h0 : c = 40
    · subst h0; decide
    by_cases h1 : c = 41
    · subst h1; decide
    by_cases h2 : c = 59
    · subst h2; decide
    by_cases h3 : c = 43
    · subst h3; decide
    by_cases h4 : c = 45
    · subst h4; decide
    by_cases h5 : c = 42
    · subst h5; decide
    by_cases h6 : c = 60
    · subst h6; decide
    by_cases h7 : c = 61
    · subst h7; decide
    refine absurd ?_ h
    unfold x_sign
    simp only [if_neg h0, if_neg h1, if_neg h2, if_neg h3, if_neg h4, if_neg h5, if_neg h6, if_neg h7]
theorem m_wk_ok : ∀ j, j < 12 → x_word (m_wd.getD j []) = m_wk j ∧ mS (m_wk j) = 101 ∧ mV (m_wk j) = nI j ∧ m_wk j ≠ 0 ∧ m_wk j ≠ 1 ∧ m_wk j ≠ 8 := by decide
theorem x_at_no (l : List Int32) : ∀ m j, (∀ i, j ≤ i → i < j + m → ¬ l = ce_sB.getD i []) → x_at l m j = j + m := by
  intro m
  induction m with
  | zero => intro j _; rfl
  | succ m ih =>
    intro j h
    unfold x_at
    rw [if_neg (h j (Nat.le_refl _) (by omega)), ih (j + 1) (fun i h1 h2 => h i (by omega) (by omega))]
    omega
theorem sB_wd : ∀ i, i < 12 → ∃ j, j < 12 ∧ ce_sB.getD i [] = m_wd.getD j [] := by
  intro i hi
  have h : ∀ i, i < 12 → ce_sB.getD i [] = m_wd.getD ([6, 7, 8, 9, 10, 11, 0, 1, 2, 3, 4, 5].getD i 0) [] ∧ [6, 7, 8, 9, 10, 11, 0, 1, 2, 3, 4, 5].getD i 0 < 12 := by decide
  exact ⟨_, (h i hi).2, (h i hi).1⟩
theorem x_word_no {l : List Int32} (h : ∀ j, j < 12 → ¬ l = m_wd.getD j []) : x_word l = 8 := by
  unfold x_word
  rw [x_at_no l 12 0 (fun i _ hi => by
    obtain ⟨j, hj, e⟩ := sB_wd i (by omega)
    rw [e]; exact h j hj)]
  rfl
theorem x_skip_b {p : List Int32} {q : Nat} (hq : q < p.length) (h : x_bl (p.getD q 0) = true) : x_skip (p.drop q) = x_skip (p.drop (q + 1)) := by
  unfold x_skip
  rw [x_run_s hq, if_pos h, List.drop_drop, List.drop_drop]
  congr 1
  omega
theorem x_skip_n {p : List Int32} {q : Nat} (hq : q < p.length) (h : ¬ x_bl (p.getD q 0) = true) : x_skip (p.drop q) = p.drop q := by
  unfold x_skip
  rw [x_run_s hq, if_neg h, List.drop_zero]
/-- what stands behind the blanks -/
theorem m_cls {p : List Int32} {S : ce_S} {q : Nat} {z : Option ce_V} (hz : z = none) (hL : mTL p S) (hq : ce_I S 20 20 0 = nI q) (hq2 : q ≤ p.length) (hb : q < p.length → ¬ x_bl (p.getD q 0) = true) : ∃ S', ce_Ev tb_X12_reads 0 (0, 0) [some m20, z] [] S (none, S') ∧ mdq S S' ∧ MTK p (x_toks (p.drop q)) S' := by
  subst hz
  have hn := hL.1.2.1
  have hq3 : mdq S (ce_sI (ce_sI (ce_sI S 20 22 0 (nI q)) 20 21 0 104) 20 23 0 0) := mdq_trans (mdq_trans (mdq_sI _ 22 _ (by decide)) (mdq_sI _ 21 _ (by decide))) (mdq_sI _ 23 _ (by decide))
  have hL3 := mTL_mdq hL hq3
  have h20 : ce_I (ce_sI (ce_sI (ce_sI S 20 22 0 (nI q)) 20 21 0 104) 20 23 0 0) 20 20 0 = nI q := by
    rw [r_I_sI, if_pos rfl, if_neg (by decide), r_I_sI, if_pos rfl, if_neg (by decide), r_I_sI, if_pos rfl, if_neg (by decide)]; exact hq
  have h21 : ce_I (ce_sI (ce_sI (ce_sI S 20 22 0 (nI q)) 20 21 0 104) 20 23 0 0) 20 21 0 = 104 := by
    rw [r_I_sI, if_pos rfl, if_neg (by decide), r_I_sI, if_pos rfl, if_pos rfl, if_pos rfl]
  have h22 : ce_I (ce_sI (ce_sI (ce_sI S 20 22 0 (nI q)) 20 21 0 104) 20 23 0 0) 20 22 0 = nI q := by
    rw [r_I_sI, if_pos rfl, if_neg (by decide), r_I_sI, if_pos rfl, if_neg (by decide), r_I_sI, if_pos rfl, if_pos rfl, if_pos rfl]
  have h23 : ce_I (ce_sI (ce_sI (ce_sI S 20 22 0 (nI q)) 20 21 0 104) 20 23 0 0) 20 23 0 = 0 := by
    rw [r_I_sI, if_pos rfl, if_pos rfl, if_pos rfl]
  by_cases hE : q = p.length
  · have e : x_toks (p.drop q) = [(0, 0, 0)] := by rw [x_toks_eq, List.drop_eq_nil_of_le (by omega)]; rfl
    rw [e]
    refine ⟨_, ce_by tl_X12_reads (fun kk => sg_X12_reads_0 S kk) ?_, mdq_trans hq3 (mdq_sI _ 21 103 (by decide)), (0, 0, 0), [], q, hq2, rfl, fun h => absurd rfl h, ?_, fun h => absurd h (by decide), fun h => absurd rfl h, Nat.zero_le _, ?_, ?_, Or.inl rfl⟩
    · rw [m_isAtE hL hq hE]
      simp only [Option.bind_some]
      rw [if_pos trivial, m_isAtE hL hq hE]
      simp only [Option.bind_some]
      rw [if_pos trivial, hL.1.1, hq, if_pos (by rw [hE])]
    · rw [r_I_sI, if_pos rfl, if_pos rfl, if_pos rfl]; rfl
    · rw [r_I_sI, if_pos rfl, if_neg (by decide), h22, hE]; rfl
    · rw [r_I_sI, if_pos rfl, if_neg (by decide), h20]
  have hlt : q < p.length := by omega
  have hnb := hb hlt
  obtain ⟨c, hc⟩ : ∃ c, c = p.getD q 0 := ⟨_, rfl⟩
  obtain ⟨r, hcr⟩ : ∃ r, p.drop q = c :: r := ⟨_, by rw [hc]; exact drop_cons hlt⟩
  have hlr : r.length + 1 = p.length - q := by
    have := congrArg List.length hcr
    rw [List.length_drop, List.length_cons] at this; omega
  rw [x_toks_eq, x_skip_n hlt hnb, hcr]
  simp only
  rw [← hc] at hnb
  have n32 : ¬ c = 32 := fun e => hnb (by rw [e]; rfl)
  have n10 : ¬ c = 10 := fun e => hnb (by rw [e]; rfl)
  have hqI : ¬ nI q = nI p.length := by rw [nJ_inj (by omega) (by omega)]; exact hE
  have hpl : p.length - (r.length + 1) = q := by omega
  have hin : ¬ (nI q < 0 ∨ 160 ≤ q) := nJ_in (by omega) (by decide)
  have ecl : (nI q).toNatClampNeg = q := nI_clamp (by omega)
  have i32 : F_X12_isAt [m20, .inl 32, .inl 32] S = some (0, S) := by
    rw [m_isAt hL hq hlt, ← hc, x_in1, decide_eq_false n32]; rfl
  have i10 : F_X12_isAt [m20, .inl 10, .inl 10] S = some (0, S) := by
    rw [m_isAt hL hq hlt, ← hc, x_in1, decide_eq_false n10]; rfl
  have iD := m_isAt hL3 h20 hlt 48 57
  have iS := m_isAt hL3 h20 hlt 97 122
  rw [← hc] at iD iS
  by_cases hd : x_dg c = true
  · have hd' : (decide (48 ≤ c) && decide (c ≤ 57)) = true := hd
    have hs : ¬ x_sm c = true := fun hs => by
      unfold x_dg at hd; unfold x_sm at hs
      rw [Bool.and_eq_true, decide_eq_true_eq, decide_eq_true_eq] at hd hs
      have a := hd.2; have b := hs.1
      have e1 : ((57 : Int32)).toInt = 57 := by decide
      have e2 : ((97 : Int32)).toInt = 97 := by decide
      rw [i_le, e1] at a
      rw [i_le, e2] at b
      omega
    obtain ⟨k, hk⟩ : ∃ k, k = x_run x_dg (c :: r) := ⟨_, rfl⟩
    have hkl : k ≤ p.length - q := by
      have := x_run_le x_dg (c :: r)
      rw [List.length_cons] at this; omega
    have hk' : x_run x_dg (p.drop q) = k := by rw [hcr, hk]
    have hxl : x_len (c :: r) = k := by
      unfold x_len; simp only; rw [if_neg hs, if_pos hd, hk]
    have hxt : x_tok (c :: r) = if k ≤ 4 then (1, x_num 0 ((p.drop q).take k), r.length + 1) else (8, 0, r.length + 1) := by
      unfold x_tok; simp only; rw [if_neg hs, if_pos hd, ← hk, hcr]
    obtain ⟨S', a1, a2, a3, a4, a5, a6⟩ := m_num41 (q0 := q) (p.length - q) q _ none hL3 h20 h22 (by omega) (Nat.le_refl _)
    rw [hk'] at a2 a4 a5
    rw [Nat.add_sub_cancel_left, h23] at a5
    rw [Nat.add_sub_cancel_left] at a4
    refine ⟨S', ce_by tl_X12_reads (fun kk => sg_X12_reads_0 S kk) ?_, mdq_trans hq3 a1, x_tok (c :: r), _, q + k, by omega, rfl, fun _ _ => ?_, ?_, ?_, ?_, ?_, ?_, a2, Or.inr (x_toks_len _).2⟩
    · rw [i32]
      simp only [Option.bind_some]
      rw [if_pos trivial, i10]
      simp only [Option.bind_some]
      rw [if_pos trivial, hL.1.1, hq, if_neg hqI, iD, if_pos hd']
      simp only [Option.bind_some]
      rw [if_neg (show ¬ (1 : Int32) = 0 by decide)]
      exact ce_kk_of a6
    · rw [hxl, ← hcr, List.drop_drop]
    · rw [a4, hxt]
      by_cases h4 : k ≤ 4
      · rw [if_pos h4, if_pos h4]; rfl
      · rw [if_neg h4, if_neg h4]; rfl
    · intro h
      rw [hxt] at h ⊢
      by_cases h4 : k ≤ 4
      · rw [a5 h4, if_pos h4]
      · rw [if_neg h4] at h; exact absurd h (show ¬ (8 : Int32) = 1 by decide)
    · intro _ g1 g8
      rw [hxt] at g1 g8
      by_cases h4 : k ≤ 4
      · rw [if_pos h4] at g1; exact absurd rfl g1
      · rw [if_neg h4] at g8; exact absurd rfl g8
    · rw [hxt]; split <;> (show r.length + 1 ≤ p.length; omega)
    · rw [a3, hxt]; split <;> (show nI q = nI (p.length - (r.length + 1)); rw [hpl])
  have hd' : ¬ (decide (48 ≤ c) && decide (c ≤ 57)) = true := hd
  rw [if_neg hd'] at iD
  by_cases hs : x_sm c = true
  · have hs' : (decide (97 ≤ c) && decide (c ≤ 122)) = true := hs
    rw [if_pos hs'] at iS
    obtain ⟨k, hk⟩ : ∃ k, k = x_run x_sm (c :: r) := ⟨_, rfl⟩
    have hkl : k ≤ p.length - q := by
      have := x_run_le x_sm (c :: r)
      rw [List.length_cons] at this; omega
    have hk' : x_run x_sm (p.drop q) = k := by rw [hcr, hk]
    have hxl : x_len (c :: r) = k := by
      unfold x_len; simp only; rw [if_pos hs, hk]
    have hxt : x_tok (c :: r) = (x_word ((p.drop q).take k), 0, r.length + 1) := by
      unfold x_tok; simp only; rw [if_pos hs, ← hk, hcr]
    obtain ⟨S4, hS4⟩ : ∃ S4, S4 = ce_sI (ce_sI (ce_sI (ce_sI S 20 22 0 (nI q)) 20 21 0 104) 20 23 0 0) 20 20 0 (nI (q + k)) := ⟨_, rfl⟩
    have hq4 : mdq S S4 := by rw [hS4]; exact mdq_trans hq3 (mdq_sI _ 20 _ (by decide))
    have hL4 := mTL_mdq hL hq4
    have g20 : ce_I S4 20 20 0 = nI (q + k) := by rw [hS4, r_I_sI, if_pos rfl, if_pos rfl, if_pos rfl]
    have g21 : ce_I S4 20 21 0 = 104 := by rw [hS4, r_I_sI, if_pos rfl, if_neg (by decide)]; exact h21
    have g22 : ce_I S4 20 22 0 = nI q := by rw [hS4, r_I_sI, if_pos rfl, if_neg (by decide)]; exact h22
    have hev := m_w108 (p := p) (q := q) (k := k) (by omega) 12 0 S4 rfl hL4 g20 g22
    have hev2 : ce_Ev tb_X12_reads 0 (0, 0) [some m20, none] [] S (none, m_wf ((p.drop q).take k) 12 0 S4) := by
      refine ce_by tl_X12_reads (fun kk => sg_X12_reads_0 S kk) ?_
      rw [i32]
      simp only [Option.bind_some]
      rw [if_pos trivial, i10]
      simp only [Option.bind_some]
      rw [if_pos trivial, hL.1.1, hq, if_neg hqI, iD]
      simp only [Option.bind_some]
      rw [if_pos trivial, iS]
      simp only [Option.bind_some]
      rw [if_neg (show ¬ (1 : Int32) = 0 by decide)]
      refine ce_kk_of (m_w94 (p.length - q) q _ none _ hL3 h20 (by omega) ?_)
      rw [hk', ← hS4]
      exact hev
    refine ⟨_, hev2, mdq_trans hq4 (m_wf_mdq _ _ _ _), ?_⟩
    by_cases hw : ∃ j, j < 12 ∧ (p.drop q).take k = m_wd.getD j []
    · obtain ⟨j, hj, e⟩ := hw
      rw [e] at hxt ⊢
      rw [m_wf_yes hj 12 0 S4 (Nat.zero_le _) (by omega) rfl]
      obtain ⟨w1, w2, w3, w4, w5, w6⟩ := m_wk_ok j hj
      rw [w1] at hxt
      refine ⟨x_tok (c :: r), _, q + k, by omega, rfl, fun _ _ => ?_, ?_, ?_, ?_, ?_, ?_, ?_, Or.inr (x_toks_len _).2⟩
      · rw [hxl, ← hcr, List.drop_drop]
      · rw [hxt, r_I_sI, if_pos rfl, if_neg (by decide), r_I_sI, if_pos rfl, if_pos rfl, if_pos rfl]; exact w2.symm
      · intro h; rw [hxt] at h; exact absurd h w5
      · intro _ _ _; rw [hxt, r_I_sI, if_pos rfl, if_pos rfl, if_pos rfl]; exact w3.symm
      · rw [hxt]; show r.length + 1 ≤ p.length; omega
      · rw [hxt, r_I_sI, if_pos rfl, if_neg (by decide), r_I_sI, if_pos rfl, if_neg (by decide), g22]; show nI q = nI (p.length - (r.length + 1)); rw [hpl]
      · rw [r_I_sI, if_pos rfl, if_neg (by decide), r_I_sI, if_pos rfl, if_neg (by decide), g20]
    · have hno : ∀ j, j < 12 → ¬ (p.drop q).take k = m_wd.getD j [] := fun j hj e => hw ⟨j, hj, e⟩
      rw [m_wf_no _ 12 0 S4 (fun i _ hi => hno i (by omega))]
      rw [x_word_no hno] at hxt
      refine ⟨x_tok (c :: r), _, q + k, by omega, rfl, fun _ h8 => absurd (by rw [hxt]) h8, ?_, ?_, ?_, ?_, ?_, g20, Or.inr (x_toks_len _).2⟩
      · rw [hxt, g21]; rfl
      · intro h; rw [hxt] at h; exact absurd h (show ¬ (8 : Int32) = 1 by decide)
      · intro _ _ h8; exact absurd (by rw [hxt]) h8
      · rw [hxt]; show r.length + 1 ≤ p.length; omega
      · rw [hxt, g22]; show nI q = nI (p.length - (r.length + 1)); rw [hpl]
  have hs' : ¬ (decide (97 ≤ c) && decide (c ≤ 122)) = true := hs
  rw [if_neg hs'] at iS
  have hxl : x_len (c :: r) = 1 := by
    unfold x_len; simp only; rw [if_neg hs, if_neg hd]
  have hxt : x_tok (c :: r) = (x_sign c, 0, r.length + 1) := by
    unfold x_tok; simp only; rw [if_neg hs, if_neg hd]
  have hA3 : ce_A (ce_sI (ce_sI (ce_sI S 20 22 0 (nI q)) 20 21 0 104) 20 23 0 0) 28 0 q = c := by rw [hL3.1.2.2 q hlt, hc]
  by_cases h8 : x_sign c = 8
  · have e1 := (f_isSign c (ce_sI (ce_sI (ce_sI S 20 22 0 (nI q)) 20 21 0 104) 20 23 0 0)).1
    rw [if_pos h8] at e1
    rw [h8] at hxt
    refine ⟨_, ce_by tl_X12_reads (fun kk => sg_X12_reads_0 S kk) ?_, hq3, x_tok (c :: r), _, q, by omega, rfl, fun _ g8 => absurd (by rw [hxt]) g8, ?_, ?_, ?_, ?_, ?_, h20, Or.inr (x_toks_len _).2⟩
    · rw [i32]
      simp only [Option.bind_some]
      rw [if_pos trivial, i10]
      simp only [Option.bind_some]
      rw [if_pos trivial, hL.1.1, hq, if_neg hqI, iD]
      simp only [Option.bind_some]
      rw [if_pos trivial, iS]
      simp only [Option.bind_some]
      rw [if_pos trivial, h20, ecl, if_neg hin, hA3, e1]
      simp only [Option.bind_some]
      rw [if_pos trivial]
    · rw [hxt, h21]; rfl
    · intro h; rw [hxt] at h; exact absurd h (show ¬ (8 : Int32) = 1 by decide)
    · intro _ _ g8; exact absurd (by rw [hxt]) g8
    · rw [hxt]; show r.length + 1 ≤ p.length; omega
    · rw [hxt, h22]; show nI q = nI (p.length - (r.length + 1)); rw [hpl]
  · have e1 := (f_isSign c (ce_sI (ce_sI (ce_sI S 20 22 0 (nI q)) 20 21 0 104) 20 23 0 0)).1
    obtain ⟨e2, e3⟩ := (f_isSign c S).2 h8
    rw [if_neg h8] at e1
    refine ⟨ce_sI (ce_sI (ce_sI (ce_sI (ce_sI (ce_sI S 20 22 0 (nI q)) 20 21 0 104) 20 23 0 0) 20 21 0 102) 20 23 0 c) 20 20 0 (nI (q + 1)), ce_by tl_X12_reads (fun kk => sg_X12_reads_0 S kk) ?_, mdq_trans hq3 (mdq_trans (mdq_trans (mdq_sI _ 21 _ (by decide)) (mdq_sI _ 23 _ (by decide))) (mdq_sI _ 20 _ (by decide))), x_tok (c :: r), _, q + 1, by omega, rfl, fun _ _ => ?_, ?_, ?_, ?_, ?_, ?_, ?_, Or.inr (x_toks_len _).2⟩
    · rw [i32]
      simp only [Option.bind_some]
      rw [if_pos trivial, i10]
      simp only [Option.bind_some]
      rw [if_pos trivial, hL.1.1, hq, if_neg hqI, iD]
      simp only [Option.bind_some]
      rw [if_pos trivial, iS]
      simp only [Option.bind_some]
      rw [if_pos trivial, h20, ecl, if_neg hin, hA3, e1]
      simp only [Option.bind_some]
      rw [if_neg (show ¬ (1 : Int32) = 0 by decide), h20, ecl, if_neg hin, hA3, q_add_eq, nJ_succ]
    · rw [hxl, ← hcr, List.drop_drop]
    · rw [hxt, r_I_sI, if_pos rfl, if_neg (by decide), r_I_sI, if_pos rfl, if_neg (by decide), r_I_sI, if_pos rfl, if_pos rfl, if_pos rfl]; exact e2.symm
    · intro h; rw [hxt] at h; exact absurd h (x_sign_0 _).2
    · intro _ _ _; rw [hxt, r_I_sI, if_pos rfl, if_neg (by decide), r_I_sI, if_pos rfl, if_pos rfl, if_pos rfl]; exact e3.symm
    · rw [hxt]; show r.length + 1 ≤ p.length; omega
    · rw [hxt, r_I_sI, if_pos rfl, if_neg (by decide), r_I_sI, if_pos rfl, if_neg (by decide), r_I_sI, if_pos rfl, if_neg (by decide), h22]; show nI q = nI (p.length - (r.length + 1)); rw [hpl]
    · rw [r_I_sI, if_pos rfl, if_pos rfl, if_pos rfl]
theorem m_reads0 {p : List Int32} : ∀ m q (S : ce_S), mTL p S → ce_I S 20 20 0 = nI q → q + m = p.length → ∃ S', ce_Ev tb_X12_reads 0 (0, 0) [some m20, none] [] S (none, S') ∧ mdq S S' ∧ MTK p (x_toks (p.drop q)) S' := by
  intro m
  induction m with
  | zero =>
    intro q S hL hq hm
    exact m_cls rfl hL hq (by omega) (fun h => absurd h (by omega))
  | succ m ih =>
    intro q S hL hq hm
    by_cases hb : x_bl (p.getD q 0) = true
    · have hlt : q < p.length := by omega
      have e : x_toks (p.drop q) = x_toks (p.drop (q + 1)) := by rw [x_toks_eq, x_toks_eq (p.drop (q + 1)), x_skip_b hlt hb]
      obtain ⟨S', a1, a2, a3⟩ := ih (q + 1) (ce_sI S 20 20 0 (nI (q + 1))) (mTL_mdq hL (mdq_sI _ 20 _ (by decide))) (by rw [r_I_sI, if_pos rfl, if_pos rfl, if_pos rfl]) (by omega)
      rw [e]
      refine ⟨S', ce_by tl_X12_reads (fun kk => sg_X12_reads_0 S kk) ?_, mdq_trans (mdq_sI _ 20 _ (by decide)) a2, a3⟩
      have i32 := m_isAt hL hq hlt 32 32
      have i10 := m_isAt hL hq hlt 10 10
      rw [x_in1] at i32 i10
      rw [i32]
      simp only [Option.bind_some]
      by_cases h1 : p.getD q 0 = 32
      · rw [if_pos (decide_eq_true h1), if_neg (by decide), q_add_eq, hq, nJ_succ]
        exact ce_kk_of a1
      · rw [if_neg (fun z => h1 (of_decide_eq_true z)), if_pos rfl, i10]
        simp only [Option.bind_some]
        unfold x_bl at hb
        rw [Bool.or_eq_true, decide_eq_true_eq, decide_eq_true_eq] at hb
        rw [if_pos (decide_eq_true (hb.resolve_left h1)), if_neg (by decide), q_add_eq, hq, nJ_succ]
        exact ce_kk_of a1
    · exact m_cls rfl hL hq (by omega) (fun _ => hb)
theorem m_reads {p : List Int32} {S : ce_S} {q : Nat} (hL : mTL p S) (hq : ce_I S 20 20 0 = nI q) (hq2 : q ≤ p.length) : ∃ S', F_X12_reads [m20] S = some S' ∧ mdq S S' ∧ MTK p (x_toks (p.drop q)) S' := by
  obtain ⟨S', a1, a2, a3⟩ := m_reads0 (p.length - q) q S hL hq (by omega)
  exact ⟨S', ce_fV_eq tl_X12_reads (gd_r rfl rfl) a1, a2, a3⟩
