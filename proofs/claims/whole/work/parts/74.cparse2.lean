/-! the component's tape: sums, comparisons, ones; its three parts -/
theorem t_sumx {S0 S : ce_S} {g : ce_F6} {f : Nat} (h : TF S0 f S) (x1 x2 : Int32) (z : Option ce_V) : ce_Ev (tb_X9_sum g) 5 (0, 0) [some t7, some (.inl x1), some (.inl x2), z] [] S (none, S) := by
  refine ce_by (tl_X9_sum g) (fun kk => sg_X9_sum_5 g x1 x2 z S kk) ?_
  by_cases h1 : ce_I S 7 0 0 ≤ x2
  · rw [if_pos h1]
  · rw [if_neg h1, h.2.1, if_neg (by decide), if_neg (by decide)]
theorem t_sum5 {p : List Int32} {S0 : ce_S} {g : ce_F6} {o : Nat} {f : p_F} (hL : TL p S0) (hF : PF p S0 g.2.2.2.2.1 o f) (hf : p_ok f) (acc : List Int32) : ∀ n T c i S z, T.length ≤ n → TP p S0 T (acc ++ c) S → i + T.length ≤ p.length → (acc ++ c).length + T.length ≤ 161 → ∃ S', ce_Ev (tb_X9_sum g) 5 (0, 0) [some t7, some (.inl (nI o)), some (.inl (nI i)), z] [] S (none, S') ∧ PR p S0 acc (p_lp i_add f n T c) S' := by
  have hn := hL.2.1
  intro n
  induction n with
  | zero => intro T c i S z h1 h2; have := TK_len h2.2.1; omega
  | succ n ih =>
    intro T c i S z h1 h2 h3 h4
    obtain ⟨u, T', e, e2, e3⟩ := TK_cons h2.2.1
    subst e
    have hLS := TL_tq hL h2.1
    rw [List.length_cons] at h1 h3
    have hi : ¬ nI p.length ≤ nI i := by rw [nJ_le (by omega) (by omega)]; omega
    unfold p_lp
    by_cases hu : i_add u.1 = true
    · rw [if_pos hu]
      have hu2 : u.1 = -13 ∨ u.1 = -14 := by unfold i_add at hu; rwa [Bool.or_eq_true, decide_eq_true_eq, decide_eq_true_eq] at hu
      have hu0 : u.1 ≠ 0 := by rcases hu2 with q | q <;> rw [q] <;> decide
      obtain ⟨S1, S2, S3, a1, a2, a3, a4⟩ := t_op hL hF hf h2 hu0 h4 (by rw [List.length_cons]; omega) u.1
      have step : ∀ S', ce_Ev (tb_X9_sum g) 5 (0, 0) [some t7, some (.inl (nI o)), some (.inl (nI (i + 1))), some (.inl u.1)] [] S3 (none, S') → ce_Ev (tb_X9_sum g) 5 (0, 0) [some t7, some (.inl (nI o)), some (.inl (nI i)), z] [] S (none, S') := fun S' h => by
        refine ce_by (tl_X9_sum g) (fun kk => sg_X9_sum_5 g (nI o) (nI i) z S kk) ?_
        rw [hLS.1, if_neg hi, e2]
        by_cases k1 : u.1 = -13
        · rw [if_pos k1, a1]
          simp only [Option.bind_some]
          rw [a2]
          simp only [Option.bind_some]
          rw [a3]
          simp only [Option.bind_some]
          rw [q_add_eq, nJ_succ]
          exact ce_kk_of h
        · rw [if_neg k1, if_pos (hu2.resolve_left k1), a1]
          simp only [Option.bind_some]
          rw [a2]
          simp only [Option.bind_some]
          rw [a3]
          simp only [Option.bind_some]
          rw [q_add_eq, nJ_succ]
          exact ce_kk_of h
      rcases p_res (f T') with ⟨T2, hq⟩ | ⟨T2, c2, hq⟩
      · rw [hq] at a4 ⊢
        exact ⟨S3, step S3 (t_sumx (f := plc p T2) a4 _ _ _), a4⟩
      · rw [hq] at a4 ⊢
        have a4 : TP p S0 T2 (acc ++ c ++ (c2 ++ [u.1])) S3 := a4
        have hTs : tksok T' := fun v hv => h2.2.2.1 v (List.mem_cons_of_mem _ hv)
        obtain ⟨q1, q2, q3, q4⟩ := hf T' hTs T2 c2 hq
        rw [List.length_cons] at h4
        have e5 : acc ++ c ++ (c2 ++ [u.1]) = acc ++ (c ++ c2 ++ [u.1]) := by simp only [List.append_assoc]
        rw [e5] at a4
        obtain ⟨S', b1, b2⟩ := ih T2 (c ++ c2 ++ [u.1]) (i + 1) S3 (some (.inl u.1)) (by omega) a4 (by omega) (by simp only [List.length_append, List.length_cons, List.length_nil] at h4 ⊢; omega)
        exact ⟨S', step S' b1, b2⟩
    · rw [if_neg hu]
      refine ⟨S, ce_by (tl_X9_sum g) (fun kk => sg_X9_sum_5 g (nI o) (nI i) z S kk) ?_, h2⟩
      unfold i_add at hu
      rw [Bool.or_eq_true, decide_eq_true_eq, decide_eq_true_eq] at hu
      rw [hLS.1, if_neg hi, e2, if_neg (fun q => hu (Or.inl q)), if_neg (fun q => hu (Or.inr q))]
theorem t_sum {p : List Int32} {S0 : ce_S} {g : ce_F6} {o : Nat} {f : p_F} (hL : TL p S0) (hF : PF p S0 g.2.2.2.2.1 o f) (hf : p_ok f) : PF p S0 (F_X9_sum g) o (p_sq i_add f) := by
  intro T acc S h hb hb2
  obtain ⟨S1, a1, a2⟩ := hF T acc S h hb hb2
  unfold p_sq
  have step : ∀ S', ce_Ev (tb_X9_sum g) 5 (0, 0) [some t7, some (.inl (nI o)), some (.inl (nI 0)), none] [] S1 (none, S') → F_X9_sum g [t7, .inl (nI o)] S = some S' := fun S' h => by
    refine fV_by (tl_X9_sum g) (gd_r rfl rfl) (fun kk => sg_X9_sum_0 g (nI o) S kk) ?_
    rw [a1]
    simp only [Option.bind_some]
    exact ce_kk_of h
  rcases p_res (f T) with ⟨T2, hq⟩ | ⟨T2, c, hq⟩
  · rw [hq] at a2 ⊢
    exact ⟨S1, step S1 (t_sumx (f := plc p T2) a2 _ _ _), a2⟩
  · rw [hq] at a2 ⊢
    have a2 : TP p S0 T2 (acc ++ c) S1 := a2
    obtain ⟨q1, q2, q3, q4⟩ := hf T h.2.2.1 T2 c hq
    obtain ⟨S', b1, b2⟩ := t_sum5 hL hF hf acc T2.length T2 c 0 S1 none (Nat.le_refl _) a2 (by omega) (by rw [List.length_append]; omega)
    exact ⟨S', step S' b1, b2⟩
theorem t_sumF {S0 S : ce_S} {g : ce_F6} {f : Nat} (hF : ∀ S x, TF S0 f S → ∃ S', g.2.2.2.2.1 [t7, .inl x] S = some S' ∧ TF S0 f S') (h : TF S0 f S) (x : Int32) : ∃ S', F_X9_sum g [t7, .inl x] S = some S' ∧ TF S0 f S' := by
  obtain ⟨S1, a1, a2⟩ := hF S x h
  refine ⟨S1, fV_by (tl_X9_sum g) (gd_r rfl rfl) (fun kk => sg_X9_sum_0 g x S kk) ?_, a2⟩
  rw [a1]
  simp only [Option.bind_some]
  exact ce_kk_of (t_sumx a2 _ _ _)
/-- two readings, one behind the other, and a step -/
theorem t_denied {p : List Int32} {S0 : ce_S} {g : ce_F6} {o : Nat} {dp : Bool} {sD sS : p_F} (hL : TL p S0) (ho : o ≤ 5) (hdp : dp = true ↔ o < 5) (hD : dp = true → PF p S0 g.2.2.1 (o + 1) sD) (hDk : dp = true → p_ok sD) (hS : PF p S0 g.2.2.2.1 o sS) (hSk : p_ok sS) : PF p S0 (F_X9_denied g) o (p_den dp sD sS) := by
  intro T acc S h hb hb2
  obtain ⟨u, T', e, e2, e3⟩ := TK_cons h.2.1
  subst e
  have hTs : tksok T' := fun v hv => h.2.2.1 v (List.mem_cons_of_mem _ hv)
  have hlen : (u :: T').length = T'.length + 1 := rfl
  unfold p_den
  simp only
  by_cases hu : u.1 = -7
  · rw [if_pos hu]
    have hu0 : u.1 ≠ 0 := by rw [hu]; decide
    by_cases hd : dp = true
    · rw [if_pos hd]
      have ho5 := hdp.mp hd
      obtain ⟨S1, S2, S3, a1, a2, a3, a4⟩ := t_op hL (hD hd) (hDk hd) h hu0 hb hb2 (-7)
      refine ⟨S3, fV_by (tl_X9_denied g) (gd_r rfl rfl) (fun kk => sg_X9_denied_0 g (nI o) S kk) ?_, a4⟩
      rw [e2, if_pos hu, if_pos (by rw [show (5 : Int32) = nI 5 from rfl, nJ_lt (by omega) (by omega)]; exact ho5), a1]
      simp only [Option.bind_some]
      rw [q_add_eq, nJ_succ, a2]
      simp only [Option.bind_some]
      rw [a3]
      rfl
    · rw [if_neg hd]
      obtain ⟨S1, a1, a2⟩ := t_fail hL h (by omega)
      refine ⟨S1, fV_by (tl_X9_denied g) (gd_r rfl rfl) (fun kk => sg_X9_denied_0 g (nI o) S kk) ?_, a2⟩
      rw [e2, if_pos hu, if_neg (by rw [show (5 : Int32) = nI 5 from rfl, nJ_lt (by omega) (by omega)]; exact fun q => hd (hdp.mpr q)), a1]
      rfl
  · rw [if_neg hu]
    obtain ⟨S1, a1, a2⟩ := hS _ acc S h hb hb2
    have r43 : ∀ S' z, ce_Ev (tb_X9_denied g) 43 (0, 0) [some t7, some (.inl (nI o)), z] [] S' (none, S') := fun S' z => ce_by (tl_X9_denied g) (fun kk => sg_X9_denied_43 g (nI o) z S' kk) rfl
    rcases p_res (sS (u :: T')) with ⟨T2, hq⟩ | ⟨T2, c, hq⟩
    · rw [hq] at a2 ⊢
      have a2 : TF S0 (plc p T2) S1 := a2
      refine ⟨S1, fV_by (tl_X9_denied g) (gd_r rfl rfl) (fun kk => sg_X9_denied_0 g (nI o) S kk) ?_, a2⟩
      rw [e2, if_neg hu, a1]
      simp only [Option.bind_some]
      rw [a2.2.1, if_neg (by decide), if_neg (by decide)]
      exact ce_kk_of (r43 _ _)
    · rw [hq] at a2 ⊢
      have a2 : TP p S0 T2 (acc ++ c) S1 := a2
      obtain ⟨q1, q2, q3, q4⟩ := hSk _ h.2.2.1 T2 c hq
      obtain ⟨v, T3, f1, f2, f3⟩ := TK_cons a2.2.1
      subst f1
      rw [List.length_cons] at q2 q3
      unfold p_cmp
      by_cases hc : i_cmp v.1 = true
      · simp only [if_pos hc]
        have hc2 : v.1 = -11 ∨ v.1 = -12 := by unfold i_cmp at hc; rwa [Bool.or_eq_true, decide_eq_true_eq, decide_eq_true_eq] at hc
        have hv0 : v.1 ≠ 0 := by rcases hc2 with q | q <;> rw [q] <;> decide
        obtain ⟨S2, S3, S4, b1, b2, b3, b4⟩ := t_op hL hS hSk a2 hv0 (by simp only [List.length_append, List.length_cons] at *; omega) (by simp only [List.length_cons] at *; omega) v.1
        refine ⟨S4, fV_by (tl_X9_denied g) (gd_r rfl rfl) (fun kk => sg_X9_denied_0 g (nI o) S kk) ?_, ?_⟩
        · rw [e2, if_neg hu, a1]
          simp only [Option.bind_some]
          have r32 : ce_Ev (tb_X9_denied g) 32 (0, 0) [some t7, some (.inl (nI o)), none] [] S1 (none, S4) := by
            refine ce_by (tl_X9_denied g) (fun kk => sg_X9_denied_32 g (nI o) none S1 kk) ?_
            rw [b1]
            simp only [Option.bind_some]
            rw [b2]
            simp only [Option.bind_some]
            rw [f2, b3]
            simp only [Option.bind_some]
            exact ce_kk_of (r43 _ _)
          rw [f2]
          by_cases k1 : v.1 = -11
          · rw [if_pos k1]; exact ce_kk_of r32
          · rw [if_neg k1, if_pos (hc2.resolve_left k1)]; exact ce_kk_of r32
        · unfold p_cm2
          rcases p_res (sS T3) with ⟨T4, hr⟩ | ⟨T4, c4, hr⟩
          · rw [hr] at b4 ⊢; exact b4
          · rw [hr] at b4 ⊢
            have b4 : TP p S0 T4 (acc ++ c ++ (c4 ++ [v.1])) S4 := b4
            show TP p S0 T4 (acc ++ (c ++ c4 ++ [v.1])) S4
            rwa [show acc ++ (c ++ c4 ++ [v.1]) = acc ++ c ++ (c4 ++ [v.1]) by simp only [List.append_assoc]]
      · simp only [if_neg hc]
        refine ⟨S1, fV_by (tl_X9_denied g) (gd_r rfl rfl) (fun kk => sg_X9_denied_0 g (nI o) S kk) ?_, a2⟩
        unfold i_cmp at hc
        rw [Bool.or_eq_true, decide_eq_true_eq, decide_eq_true_eq] at hc
        rw [e2, if_neg hu, a1]
        simp only [Option.bind_some]
        rw [f2, if_neg (fun q => hc (Or.inl q)), if_neg (fun q => hc (Or.inr q))]
        exact ce_kk_of (r43 _ _)
theorem t_deniedF {S0 S : ce_S} {g : ce_F6} {f : Nat} (hF : ∀ S x, TF S0 f S → ∃ S', g.2.2.2.1 [t7, .inl x] S = some S' ∧ TF S0 f S') (h : TF S0 f S) (x : Int32) : ∃ S', F_X9_denied g [t7, .inl x] S = some S' ∧ TF S0 f S' := by
  obtain ⟨S1, a1, a2⟩ := hF S x h
  refine ⟨S1, fV_by (tl_X9_denied g) (gd_r rfl rfl) (fun kk => sg_X9_denied_0 g x S kk) ?_, a2⟩
  rw [h.2.1, if_neg (by decide), a1]
  simp only [Option.bind_some]
  rw [a2.2.1, if_neg (by decide), if_neg (by decide)]
  exact ce_kk_of (ce_by (tl_X9_denied g) (fun kk => sg_X9_denied_43 g x _ S1 kk) rfl)
theorem t_expF {S0 S : ce_S} {f : Nat} (h : TF S0 f S) {x : Int32} (hx : x ≠ 8) : ∃ S', F_X9_expect [t7, .inl x] S = some S' ∧ TF S0 f S' := by
  obtain ⟨S1, a1, a2⟩ := t_failF h
  refine ⟨S1, fV_by tl_X9_expect (gd_r rfl rfl) (fun kk => sg_X9_expect_0 x S kk) ?_, a2⟩
  rw [h.2.1, if_neg (fun q => hx q.symm), a1]; rfl
/-- p_clo, of what stands there -/
def p_exp (k : Int32) (T : List tk) : List tk × Bool := match T with
  | [] => ([], false)
  | v :: T3 => if v.1 = k then (T3, true) else (v :: T3, false)
theorem t_exp {p : List Int32} {S0 S : ce_S} {T : List tk} {acc : List Int32} (hL : TL p S0) (h : TP p S0 T acc S) (hb : acc.length ≤ 160) {x : Int32} (hx : x ≠ 0) : ∃ S', F_X9_expect [t7, .inl x] S = some S' ∧ (match p_exp x T with
    | (T2, true) => TP p S0 T2 acc S'
    | (T2, false) => TF S0 (plc p T2) S') := by
  obtain ⟨u, T', e, e2, e3⟩ := TK_cons h.2.1
  subst e
  unfold p_exp
  simp only
  by_cases hu : u.1 = x
  · rw [if_pos hu]
    obtain ⟨S1, a1, a2⟩ := t_next hL h (by rw [hu]; exact hx)
    refine ⟨S1, fV_by tl_X9_expect (gd_r rfl rfl) (fun kk => sg_X9_expect_0 x S kk) ?_, a2⟩
    rw [e2, if_pos hu, a1]; rfl
  · rw [if_neg hu]
    obtain ⟨S1, a1, a2⟩ := t_fail hL h hb
    refine ⟨S1, fV_by tl_X9_expect (gd_r rfl rfl) (fun kk => sg_X9_expect_0 x S kk) ?_, a2⟩
    rw [e2, if_neg hu, a1]; rfl
theorem p_clo_exp (k : Int32) (T : List tk) (c : List Int32) : p_clo k (T, some c) = match p_exp k T with
    | (T2, true) => (T2, some c)
    | (T2, false) => (T2, none) := by
  unfold p_clo p_exp
  cases T with
  | nil => rfl
  | cons v T3 =>
    simp only
    by_cases e : v.1 = k
    · rw [if_pos e, if_pos e]
    · rw [if_neg e, if_neg e]
theorem t_one {p : List Int32} {S0 : ce_S} {g : ce_F6} {o : Nat} {dp : Bool} {s1 sE : p_F} (hL : TL p S0) (ho : o ≤ 5) (hdp : dp = true ↔ o < 5) (h1 : dp = true → PF p S0 g.2.2.2.2.2 (o + 1) s1) (h1k : dp = true → p_ok s1) (hE : dp = true → PF p S0 g.1 (o + 1) sE) (hEk : dp = true → p_ok sE) : PF p S0 (F_X9_one g) o (p_one dp s1 sE) := by
  intro T acc S h hb hb2
  obtain ⟨u, T', e, e2, e3⟩ := TK_cons h.2.1
  subst e
  have hTs : tksok T' := fun v hv => h.2.2.1 v (List.mem_cons_of_mem _ hv)
  have hlen : (u :: T').length = T'.length + 1 := rfl
  have r64 : ∀ S', ce_Ev (tb_X9_one g) 64 (0, 0) [some t7, some (.inl (nI o))] [] S' (none, S') := fun S' => ce_by (tl_X9_one g) (fun kk => sg_X9_one_64 g (nI o) S' kk) rfl
  unfold p_one
  simp only
  by_cases k1 : u.1 = 1
  · rw [if_pos k1]
    have hu0 : u.1 ≠ 0 := by rw [k1]; decide
    have := e3 hu0
    have e6 : ce_I S 7 6 0 = u.2.1 := by
      obtain ⟨v, q, b1, b2, b3, b4, b5, b6, b7⟩ := h.2.1
      cases b2; exact b6 k1
    obtain ⟨S1, a1, a2⟩ := t_emit h (by omega) u.2.1
    obtain ⟨S2, b1, b2⟩ := t_next hL a2 hu0
    refine ⟨S2, fV_by (tl_X9_one g) (gd_r rfl rfl) (fun kk => sg_X9_one_0 g (nI o) S kk) ?_, b2⟩
    rw [e2, if_pos k1, e6, a1]
    simp only [Option.bind_some]
    rw [b1]
    simp only [Option.bind_some]
    exact ce_kk_of (r64 _)
  rw [if_neg k1]
  by_cases k2 : i_nam u.1 = true
  · rw [if_pos k2]
    unfold i_nam at k2
    rw [Bool.and_eq_true, decide_eq_true_eq, decide_eq_true_eq] at k2
    have hu0 : u.1 ≠ 0 := fun q => by rw [q] at k2; exact absurd k2.2 (by decide)
    have := e3 hu0
    obtain ⟨S1, a1, a2⟩ := t_emit h (by omega) u.1
    obtain ⟨S2, b1, b2⟩ := t_next hL a2 hu0
    refine ⟨S2, fV_by (tl_X9_one g) (gd_r rfl rfl) (fun kk => sg_X9_one_0 g (nI o) S kk) ?_, b2⟩
    rw [e2, if_neg k1, if_neg (i_le_not k2.2), if_neg (i_le_not k2.1), a1]
    simp only [Option.bind_some]
    rw [b1]
    simp only [Option.bind_some]
    exact ce_kk_of (r64 _)
  rw [if_neg k2]
  have to26 : ∀ S', ce_Ev (tb_X9_one g) 26 (0, 0) [some t7, some (.inl (nI o))] [] S (none, S') → F_X9_one g [t7, .inl (nI o)] S = some S' := fun S' hh => by
    refine fV_by (tl_X9_one g) (gd_r rfl rfl) (fun kk => sg_X9_one_0 g (nI o) S kk) ?_
    rw [e2, if_neg k1]
    by_cases j1 : (-1 : Int32) < u.1
    · rw [if_pos j1]; exact ce_kk_of hh
    · rw [if_neg j1]
      by_cases j2 : u.1 < -6
      · rw [if_pos j2]; exact ce_kk_of hh
      · refine absurd ?_ k2
        unfold i_nam
        rw [Bool.and_eq_true, decide_eq_true_eq, decide_eq_true_eq]
        rw [i_lt] at j1 j2
        rw [i_le, i_le]; omega
  by_cases k3 : dp = true ∧ u.1 = -14
  · rw [if_pos k3]
    have ho5 := hdp.mp k3.1
    have hu0 : u.1 ≠ 0 := by rw [k3.2]; decide
    obtain ⟨S1, S2, S3, a1, a2, a3, a4⟩ := t_op hL (h1 k3.1) (h1k k3.1) h hu0 hb hb2 (-8)
    refine ⟨S3, to26 _ (ce_by (tl_X9_one g) (fun kk => sg_X9_one_26 g (nI o) S kk) ?_), a4⟩
    rw [e2, if_pos k3.2, if_neg (by rw [show (5 : Int32) = nI 5 from rfl, nJ_le (by omega) (by omega)]; omega), a1]
    simp only [Option.bind_some]
    rw [q_add_eq, nJ_succ, a2]
    simp only [Option.bind_some]
    rw [a3]
    simp only [Option.bind_some]
    exact ce_kk_of (r64 _)
  rw [if_neg k3]
  have to44 : ∀ S', ce_Ev (tb_X9_one g) 44 (0, 0) [some t7, some (.inl (nI o))] [] S (none, S') → F_X9_one g [t7, .inl (nI o)] S = some S' := fun S' hh => by
    refine to26 _ (ce_by (tl_X9_one g) (fun kk => sg_X9_one_26 g (nI o) S kk) ?_)
    rw [e2]
    by_cases j1 : u.1 = -14
    · rw [if_pos j1, if_pos (by
        rw [show (5 : Int32) = nI 5 from rfl, nJ_le (by omega) (by omega)]
        by_cases q : dp = true
        · exact absurd ⟨q, j1⟩ k3
        · exact Nat.not_lt.mp (fun z => q (hdp.mpr z)))]
      exact ce_kk_of hh
    · rw [if_neg j1]; exact ce_kk_of hh
  by_cases k4 : dp = true ∧ u.1 = 5
  · rw [if_pos k4]
    have ho5 := hdp.mp k4.1
    have hu0 : u.1 ≠ 0 := by rw [k4.2]; decide
    obtain ⟨S1, a1, a2⟩ := t_next hL h hu0
    obtain ⟨S2, b1, b2⟩ := hE k4.1 T' acc S1 a2 (by omega) (by omega)
    have fin : ∀ S3, F_X9_expect [t7, .inl 6] S2 = some S3 → F_X9_one g [t7, .inl (nI o)] S = some S3 := fun S3 hh => by
      refine to44 _ (ce_by (tl_X9_one g) (fun kk => sg_X9_one_44 g (nI o) S kk) ?_)
      rw [e2, if_pos k4.2, if_neg (by rw [show (5 : Int32) = nI 5 from rfl, nJ_le (by omega) (by omega)]; omega), a1]
      simp only [Option.bind_some]
      rw [q_add_eq, nJ_succ, b1]
      simp only [Option.bind_some]
      rw [hh]
      simp only [Option.bind_some]
      exact ce_kk_of (r64 _)
    rcases p_res (sE T') with ⟨T2, hq⟩ | ⟨T2, c, hq⟩
    · rw [hq] at b2 ⊢
      have b2 : TF S0 (plc p T2) S2 := b2
      obtain ⟨S3, c1, c2⟩ := t_expF b2 (x := 6) (by decide)
      exact ⟨S3, fin _ c1, c2⟩
    · rw [hq] at b2 ⊢
      have b2 : TP p S0 T2 (acc ++ c) S2 := b2
      obtain ⟨q1, q2, q3, q4⟩ := hEk k4.1 T' hTs T2 c hq
      obtain ⟨S3, c1, c2⟩ := t_exp hL b2 (by rw [List.length_append]; omega) (x := 6) (by decide)
      refine ⟨S3, fin _ c1, ?_⟩
      rw [p_clo_exp]
      revert c2
      rcases p_exp 6 T2 with ⟨T3, b⟩
      cases b with
      | true => exact id
      | false => exact id
  rw [if_neg k4]
  obtain ⟨S1, a1, a2⟩ := t_fail hL h (by omega)
  refine ⟨S1, to44 _ (ce_by (tl_X9_one g) (fun kk => sg_X9_one_44 g (nI o) S kk) ?_), a2⟩
  have r62 : ce_Ev (tb_X9_one g) 62 (0, 0) [some t7, some (.inl (nI o))] [] S (none, S1) := by
    refine ce_by (tl_X9_one g) (fun kk => sg_X9_one_62 g (nI o) S kk) ?_
    rw [a1]
    simp only [Option.bind_some]
    exact ce_kk_of (r64 _)
  rw [e2]
  by_cases j1 : u.1 = 5
  · rw [if_pos j1, if_pos (by
      rw [show (5 : Int32) = nI 5 from rfl, nJ_le (by omega) (by omega)]
      by_cases q : dp = true
      · exact absurd ⟨q, j1⟩ k4
      · exact Nat.not_lt.mp (fun z => q (hdp.mpr z)))]
    exact ce_kk_of r62
  · rw [if_neg j1]; exact ce_kk_of r62
theorem t_oneF {S0 S : ce_S} {g : ce_F6} {f : Nat} (h : TF S0 f S) (x : Int32) : ∃ S', F_X9_one g [t7, .inl x] S = some S' ∧ TF S0 f S' := by
  obtain ⟨S1, a1, a2⟩ := t_failF h
  refine ⟨S1, fV_by (tl_X9_one g) (gd_r rfl rfl) (fun kk => sg_X9_one_0 g x S kk) ?_, a2⟩
  rw [h.2.1, if_neg (by decide), if_pos (by decide)]
  refine ce_kk_of (ce_by (tl_X9_one g) (fun kk => sg_X9_one_26 g x S kk) ?_)
  rw [h.2.1, if_neg (by decide)]
  refine ce_kk_of (ce_by (tl_X9_one g) (fun kk => sg_X9_one_44 g x S kk) ?_)
  rw [h.2.1, if_neg (by decide)]
  refine ce_kk_of (ce_by (tl_X9_one g) (fun kk => sg_X9_one_62 g x S kk) ?_)
  rw [a1]
  simp only [Option.bind_some]
  exact ce_kk_of (ce_by (tl_X9_one g) (fun kk => sg_X9_one_64 g x S1 kk) rfl)
