/-! the component's tape: its readers of what stands in a text -/
abbrev t7 : ce_V := .inr (.inl (7, 0))
def tq (S S' : ce_S) : Prop := (∀ t k i, ¬ (t = 7 ∧ (3 ≤ k ∧ k ≤ 7 ∨ k = 10)) → ce_I S' t k i = ce_I S t k i) ∧ ce_R S' = ce_R S ∧ (∀ t, t ≠ 9 → ce_A S' t = ce_A S t) ∧ S'.2.2.2 = S.2.2.2
theorem tq_refl (S : ce_S) : tq S S := ⟨fun _ _ _ _ => rfl, rfl, fun _ _ => rfl, rfl⟩
theorem tq_trans {S S' S'' : ce_S} (h : tq S S') (g : tq S' S'') : tq S S'' := ⟨fun t k i q => (g.1 t k i q).trans (h.1 t k i q), g.2.1.trans h.2.1, fun t q => (g.2.2.1 t q).trans (h.2.2.1 t q), g.2.2.2.trans h.2.2.2⟩
theorem tq_adq {S S' : ce_S} (h : adq S S') : tq S S' := ⟨fun t k i q => h.1 t k i (fun z => q ⟨z.1, Or.inl ⟨z.2.1, by omega⟩⟩), by unfold ce_R; rw [h.2], fun t _ => by unfold ce_A; rw [h.2], by rw [h.2]⟩
theorem tq_sI (S : ce_S) (k : Nat) (v : Int32) (h : 3 ≤ k ∧ k ≤ 7 ∨ k = 10) : tq S (ce_sI S 7 k 0 v) := by
  refine ⟨fun t k' i q => ?_, rfl, fun _ _ => rfl, rfl⟩
  rw [r_I_sI]
  by_cases h1 : t = 7
  · have h2 : ¬ k' = k := fun e => q ⟨h1, by omega⟩
    rw [if_pos h1, if_neg h2]
  · rw [if_neg h1]
theorem tq_sA (S : ce_S) (e : Nat) (v : Int32) : tq S (ce_sA S 9 0 e v) := ⟨fun _ _ _ _ => rfl, rfl, fun t h => by funext i e'; rw [r_A_sA, if_neg h], rfl⟩
theorem TL_tq {p : List Int32} {S S' : ce_S} (h : TL p S) (g : tq S S') : TL p S' := by
  refine ⟨(g.1 7 0 0 (by omega)).trans h.1, h.2.1, ?_⟩
  rw [g.2.2.1 8 (by decide)]; exact h.2.2
def plc (p : List Int32) (T : List tk) : Nat := match T with
  | [] => 0
  | u :: _ => p.length - u.2.2
def TP (p : List Int32) (S0 : ce_S) (T : List tk) (acc : List Int32) (S : ce_S) : Prop := tq S0 S ∧ TK p T S ∧ tksok T ∧ ce_I S 7 10 0 = -1 ∧ ce_I S 7 7 0 = nI acc.length ∧ ∀ e, e < acc.length → ce_A S 9 0 e = acc.getD e 0
def TF (S0 : ce_S) (f : Nat) (S : ce_S) : Prop := tq S0 S ∧ ce_I S 7 4 0 = 8 ∧ ce_I S 7 10 0 = nI f ∧ f ≤ 160 ∧ ∃ m, ce_I S 7 7 0 = nI m ∧ m ≤ 160
def PR (p : List Int32) (S0 : ce_S) (acc : List Int32) (r : p_R) (S : ce_S) : Prop := match r with
  | (T2, some c) => TP p S0 T2 (acc ++ c) S
  | (T2, none) => TF S0 (plc p T2) S
theorem TK_cons {p : List Int32} {T : List tk} {S : ce_S} (h : TK p T S) : ∃ u T', T = u :: T' ∧ ce_I S 7 4 0 = u.1 ∧ (u.1 ≠ 0 → 1 ≤ T'.length) := by
  obtain ⟨u, q, h1, h2, h3, h4⟩ := h
  refine ⟨u, _, h2, h3, fun e => ?_⟩
  rw [if_neg e]; exact (x_toks_len _).2
theorem TK_len {p : List Int32} {T : List tk} {S : ce_S} (h : TK p T S) : 1 ≤ T.length := by
  obtain ⟨u, T', e, _⟩ := TK_cons h
  rw [e, List.length_cons]; omega
theorem t_next {p : List Int32} {S0 S : ce_S} {u : tk} {T : List tk} {acc : List Int32} (hL : TL p S0) (h : TP p S0 (u :: T) acc S) (hu : u.1 ≠ 0) : ∃ S', F_X9_advance [t7] S = some S' ∧ TP p S0 T acc S' := by
  obtain ⟨a1, ⟨v, q, b1, b2, b3, b4, b5, b6, b7⟩, a3, a4, a5, a6⟩ := h
  cases b2
  rw [if_neg hu]
  obtain ⟨S', c1, c2, c3⟩ := t_adv (TL_tq hL a1) b7 b1
  have hA : ce_A S' = ce_A S := by unfold ce_A; rw [c2.2]
  refine ⟨S', c1, tq_trans a1 (tq_adq c2), c3, x_toks_ok _, (c2.1 7 10 0 (by omega)).trans a4, (c2.1 7 7 0 (by omega)).trans a5, ?_⟩
  rw [hA]; exact a6
theorem t_fail {p : List Int32} {S0 S : ce_S} {T : List tk} {acc : List Int32} (hL : TL p S0) (h : TP p S0 T acc S) (hb : acc.length ≤ 160) : ∃ S', F_X9_fail [t7] S = some S' ∧ TF S0 (plc p T) S' := by
  obtain ⟨a1, ⟨u, q, b1, b2, b3, b4, b5, b6, b7⟩, a3, a4, a5, a6⟩ := h
  have hn := hL.2.1
  refine ⟨ce_sI (ce_sI S 7 10 0 (ce_I S 7 5 0)) 7 4 0 8, fV_by tl_X9_fail (gd_r rfl rfl) (fun kk => sg_X9_fail_0 S kk) (by rw [if_pos a4]), tq_trans a1 (tq_trans (tq_sI _ 10 _ (Or.inr rfl)) (tq_sI _ 4 _ (Or.inl (by omega)))), ?_, ?_, ?_, acc.length, ?_, hb⟩
  · rw [r_I_sI, if_pos rfl, if_pos rfl, if_pos rfl]
  · rw [r_I_sI, if_pos rfl, if_neg (by decide), r_I_sI, if_pos rfl, if_pos rfl, if_pos rfl, b5, b2]; rfl
  · rw [b2]; show p.length - u.2.2 ≤ 160; omega
  · rw [r_I_sI, if_pos rfl, if_neg (by decide), r_I_sI, if_pos rfl, if_neg (by decide)]; exact a5
theorem t_failF {S0 S : ce_S} {f : Nat} (h : TF S0 f S) : ∃ S', F_X9_fail [t7] S = some S' ∧ TF S0 f S' := by
  obtain ⟨a1, a2, a3, a4, m, a5, a6⟩ := h
  refine ⟨ce_sI S 7 4 0 8, fV_by tl_X9_fail (gd_r rfl rfl) (fun kk => sg_X9_fail_0 S kk) (by rw [if_neg (by rw [a3]; exact nI_ne f (by omega))]), tq_trans a1 (tq_sI _ 4 _ (Or.inl (by omega))), ?_, ?_, a4, m, ?_, a6⟩
  · rw [r_I_sI, if_pos rfl, if_pos rfl, if_pos rfl]
  · rw [r_I_sI, if_pos rfl, if_neg (by decide)]; exact a3
  · rw [r_I_sI, if_pos rfl, if_neg (by decide)]; exact a5
theorem t_emit {p : List Int32} {S0 S : ce_S} {T : List tk} {acc : List Int32} (h : TP p S0 T acc S) (hb : acc.length < 160) (x : Int32) : ∃ S', F_X9_emit [t7, .inl x] S = some S' ∧ TP p S0 T (acc ++ [x]) S' := by
  obtain ⟨a1, ⟨u, q, b1, b2, b3, b4, b5, b6, b7⟩, a3, a4, a5, a6⟩ := h
  refine ⟨ce_sI (ce_sA S 9 0 acc.length x) 7 7 0 (nI (acc.length + 1)), fV_by tl_X9_emit (gd_r rfl rfl) (fun kk => sg_X9_emit_0 x S kk) ?_, tq_trans a1 (tq_trans (tq_sA _ _ _) (tq_sI _ 7 _ (Or.inl (by omega)))), ⟨u, q, b1, b2, ?_, b4, ?_, ?_, ?_⟩, a3, ?_, ?_, ?_⟩
  · rw [a5, if_neg (by rw [show (160 : Int32) = nI 160 from rfl, nJ_le (by omega) (by omega)]; omega), nI_clamp (by omega), if_neg (nJ_in hb (by decide)), q_add_eq, nJ_succ]
  · rw [r_I_sI, if_pos rfl, if_neg (by decide)]; exact b3
  · rw [r_I_sI, if_pos rfl, if_neg (by decide)]; exact b5
  · rw [r_I_sI, if_pos rfl, if_neg (by decide)]; exact b6
  · rw [r_I_sI, if_pos rfl, if_neg (by decide)]; exact b7
  · rw [r_I_sI, if_pos rfl, if_neg (by decide)]; exact a4
  · rw [r_I_sI, if_pos rfl, if_pos rfl, if_pos rfl, List.length_append]; rfl
  · intro e he
    rw [List.length_append, List.length_cons, List.length_nil] at he
    rw [r_A_sI, r_A_sA, if_pos rfl, if_pos rfl, List.getD_eq_getElem?_getD]
    by_cases e1 : e = acc.length
    · rw [if_pos e1, e1, List.getElem?_append_right (Nat.le_refl _), Nat.sub_self]; rfl
    · rw [if_neg e1, List.getElem?_append_left (by omega), ← List.getD_eq_getElem?_getD]; exact a6 e (by omega)
theorem t_emitF {S0 S : ce_S} {f : Nat} (h : TF S0 f S) (x : Int32) : ∃ S', F_X9_emit [t7, .inl x] S = some S' ∧ TF S0 f S' := by
  obtain ⟨a1, a2, a3, a4, m, a5, a6⟩ := h
  by_cases hm : m = 160
  · refine ⟨S, fV_by tl_X9_emit (gd_r rfl rfl) (fun kk => sg_X9_emit_0 x S kk) ?_, a1, a2, a3, a4, m, a5, a6⟩
    rw [a5, hm, if_pos (by decide)]
  · refine ⟨ce_sI (ce_sA S 9 0 m x) 7 7 0 (nI (m + 1)), fV_by tl_X9_emit (gd_r rfl rfl) (fun kk => sg_X9_emit_0 x S kk) ?_, tq_trans a1 (tq_trans (tq_sA _ _ _) (tq_sI _ 7 _ (Or.inl (by omega)))), ?_, ?_, a4, m + 1, ?_, by omega⟩
    · rw [a5, if_neg (by rw [show (160 : Int32) = nI 160 from rfl, nJ_le (by omega) (by omega)]; omega), nI_clamp (by omega), if_neg (nJ_in (by omega) (by decide)), q_add_eq, nJ_succ]
    · rw [r_I_sI, if_pos rfl, if_neg (by decide)]; exact a2
    · rw [r_I_sI, if_pos rfl, if_neg (by decide)]; exact a3
    · rw [r_I_sI, if_pos rfl, if_pos rfl, if_pos rfl]
/-- a reader of the component's is f -/
def PF (p : List Int32) (S0 : ce_S) (F : List ce_V → ce_S → Option ce_S) (o : Nat) (f : p_F) : Prop := ∀ T acc S, TP p S0 T acc S → acc.length + T.length ≤ 161 → T.length ≤ p.length + 1 → ∃ S', F [t7, .inl (nI o)] S = some S' ∧ PR p S0 acc (f T) S'
theorem t_op {p : List Int32} {S0 S : ce_S} {F : List ce_V → ce_S → Option ce_S} {o : Nat} {f : p_F} (hL : TL p S0) (hF : PF p S0 F o f) (hf : p_ok f) {u : tk} {T : List tk} {acc : List Int32} (h : TP p S0 (u :: T) acc S) (hu : u.1 ≠ 0) (hb : acc.length + (u :: T).length ≤ 161) (hb2 : (u :: T).length ≤ p.length + 1) (x : Int32) : ∃ S1 S2 S3, F_X9_advance [t7] S = some S1 ∧ F [t7, .inl (nI o)] S1 = some S2 ∧ F_X9_emit [t7, .inl x] S2 = some S3 ∧ PR p S0 acc (p_aft x (f T)) S3 := by
  rw [List.length_cons] at hb hb2
  obtain ⟨S1, a1, a2⟩ := t_next hL h hu
  obtain ⟨S2, b1, b2⟩ := hF T acc S1 a2 (by omega) (by omega)
  rcases p_res (f T) with ⟨T2, hq⟩ | ⟨T2, c, hq⟩
  · rw [hq] at b2 ⊢
    obtain ⟨S3, c1, c2⟩ := t_emitF (f := plc p T2) b2 x
    exact ⟨S1, S2, S3, a1, b1, c1, c2⟩
  · rw [hq] at b2 ⊢
    have b2 : TP p S0 T2 (acc ++ c) S2 := b2
    obtain ⟨q1, q2, q3, q4⟩ := hf T a2.2.2.1 T2 c hq
    have q5 := TK_len b2.2.1
    obtain ⟨S3, c1, c2⟩ := t_emit b2 (by rw [List.length_append]; omega) x
    refine ⟨S1, S2, S3, a1, b1, c1, ?_⟩
    show TP p S0 T2 (acc ++ (c ++ [x])) S3
    rw [← List.append_assoc]; exact c2
theorem PR_res {p : List Int32} {S0 S : ce_S} {acc : List Int32} {T : List tk} {c : List Int32} : PR p S0 acc (T, some c) S = TP p S0 T (acc ++ c) S := rfl
theorem TF_d {S0 S : ce_S} {f : Nat} (h : TF S0 f S) : ce_I S 7 4 0 = 8 := h.2.1

theorem t_eitherx {p : List Int32} {S0 S : ce_S} {g : ce_F6} {f : Nat} (h : TF S0 f S) (x1 x2 : Int32) : ce_Ev (tb_X9_either g) 5 (0, 0) [some t7, some (.inl x1), some (.inl x2)] [] S (none, S) := by
  refine ce_by (tl_X9_either g) (fun kk => sg_X9_either_5 g x1 x2 S kk) ?_
  by_cases h1 : ce_I S 7 0 0 ≤ x2
  · rw [if_pos h1]
  · rw [if_neg h1, h.2.1, if_neg (by decide)]
theorem t_either5 {p : List Int32} {S0 : ce_S} {g : ce_F6} {o : Nat} {f : p_F} (hL : TL p S0) (hF : PF p S0 g.2.1 o f) (hf : p_ok f) (acc : List Int32) : ∀ n T c i S, T.length ≤ n → TP p S0 T (acc ++ c) S → i + T.length ≤ p.length → (acc ++ c).length + T.length ≤ 161 → ∃ S', ce_Ev (tb_X9_either g) 5 (0, 0) [some t7, some (.inl (nI o)), some (.inl (nI i))] [] S (none, S') ∧ PR p S0 acc (p_lp i_or f n T c) S' := by
  have hn := hL.2.1
  intro n
  induction n with
  | zero => intro T c i S h1 h2; have := TK_len h2.2.1; omega
  | succ n ih =>
    intro T c i S h1 h2 h3 h4
    obtain ⟨u, T', e, e2, e3⟩ := TK_cons h2.2.1
    subst e
    have hLS := TL_tq hL h2.1
    rw [List.length_cons] at h1 h3
    have hi : ¬ nI p.length ≤ nI i := by rw [nJ_le (by omega) (by omega)]; omega
    unfold p_lp
    by_cases hu : i_or u.1 = true
    · rw [if_pos hu]
      have hu2 : u.1 = -9 := by unfold i_or at hu; exact of_decide_eq_true hu
      have hu0 : u.1 ≠ 0 := by rw [hu2]; decide
      obtain ⟨S1, S2, S3, a1, a2, a3, a4⟩ := t_op hL hF hf h2 hu0 h4 (by rw [List.length_cons]; omega) (-9)
      have step : ∀ S', ce_Ev (tb_X9_either g) 5 (0, 0) [some t7, some (.inl (nI o)), some (.inl (nI (i + 1)))] [] S3 (none, S') → ce_Ev (tb_X9_either g) 5 (0, 0) [some t7, some (.inl (nI o)), some (.inl (nI i))] [] S (none, S') := fun S' h => by
        refine ce_by (tl_X9_either g) (fun kk => sg_X9_either_5 g (nI o) (nI i) S kk) ?_
        rw [hLS.1, if_neg hi, e2, if_pos hu2, a1]
        simp only [Option.bind_some]
        rw [a2]
        simp only [Option.bind_some]
        rw [a3]
        simp only [Option.bind_some]
        rw [q_add_eq, nJ_succ]
        exact ce_kk_of h
      rcases p_res (f T') with ⟨T2, hq⟩ | ⟨T2, c2, hq⟩
      · rw [hq] at a4 ⊢
        exact ⟨S3, step S3 (t_eitherx (p := p) (f := plc p T2) a4 _ _), a4⟩
      · rw [hq] at a4 ⊢
        have a4 : TP p S0 T2 (acc ++ c ++ (c2 ++ [-9])) S3 := a4
        have hTs : tksok T' := fun v hv => h2.2.2.1 v (List.mem_cons_of_mem _ hv)
        obtain ⟨q1, q2, q3, q4⟩ := hf T' hTs T2 c2 hq
        rw [List.length_cons] at h4
        have e5 : acc ++ c ++ (c2 ++ [-9]) = acc ++ (c ++ c2 ++ [u.1]) := by rw [hu2]; simp only [List.append_assoc]
        rw [e5] at a4
        obtain ⟨S', b1, b2⟩ := ih T2 (c ++ c2 ++ [u.1]) (i + 1) S3 (by omega) a4 (by omega) (by simp only [List.length_append, List.length_cons, List.length_nil] at h4 ⊢; omega)
        exact ⟨S', step S' b1, b2⟩
    · rw [if_neg hu]
      refine ⟨S, ce_by (tl_X9_either g) (fun kk => sg_X9_either_5 g (nI o) (nI i) S kk) ?_, h2⟩
      rw [hLS.1, if_neg hi, e2, if_neg (fun q => hu (by unfold i_or; exact decide_eq_true q))]
theorem t_either {p : List Int32} {S0 : ce_S} {g : ce_F6} {o : Nat} {f : p_F} (hL : TL p S0) (hF : PF p S0 g.2.1 o f) (hf : p_ok f) : PF p S0 (F_X9_either g) o (p_sq i_or f) := by
  intro T acc S h hb hb2
  obtain ⟨S1, a1, a2⟩ := hF T acc S h hb hb2
  unfold p_sq
  have step : ∀ S', ce_Ev (tb_X9_either g) 5 (0, 0) [some t7, some (.inl (nI o)), some (.inl (nI 0))] [] S1 (none, S') → F_X9_either g [t7, .inl (nI o)] S = some S' := fun S' h => by
    refine fV_by (tl_X9_either g) (gd_r rfl rfl) (fun kk => sg_X9_either_0 g (nI o) S kk) ?_
    rw [a1]
    simp only [Option.bind_some]
    exact ce_kk_of h
  rcases p_res (f T) with ⟨T2, hq⟩ | ⟨T2, c, hq⟩
  · rw [hq] at a2 ⊢
    exact ⟨S1, step S1 (t_eitherx (p := p) (f := plc p T2) a2 _ _), a2⟩
  · rw [hq] at a2 ⊢
    have a2 : TP p S0 T2 (acc ++ c) S1 := a2
    obtain ⟨q1, q2, q3, q4⟩ := hf T h.2.2.1 T2 c hq
    obtain ⟨S', b1, b2⟩ := t_either5 hL hF hf acc T2.length T2 c 0 S1 (Nat.le_refl _) a2 (by omega) (by rw [List.length_append]; omega)
    exact ⟨S', step S' b1, b2⟩
theorem t_eitherF {S0 S : ce_S} {g : ce_F6} {f : Nat} (hF : ∀ S x, TF S0 f S → ∃ S', g.2.1 [t7, .inl x] S = some S' ∧ TF S0 f S') (h : TF S0 f S) (x : Int32) : ∃ S', F_X9_either g [t7, .inl x] S = some S' ∧ TF S0 f S' := by
  obtain ⟨S1, a1, a2⟩ := hF S x h
  refine ⟨S1, fV_by (tl_X9_either g) (gd_r rfl rfl) (fun kk => sg_X9_either_0 g x S kk) ?_, a2⟩
  rw [a1]
  simp only [Option.bind_some]
  exact ce_kk_of (t_eitherx (p := []) a2 _ _)

theorem t_bothx {p : List Int32} {S0 S : ce_S} {g : ce_F6} {f : Nat} (h : TF S0 f S) (x1 x2 : Int32) : ce_Ev (tb_X9_both g) 5 (0, 0) [some t7, some (.inl x1), some (.inl x2)] [] S (none, S) := by
  refine ce_by (tl_X9_both g) (fun kk => sg_X9_both_5 g x1 x2 S kk) ?_
  by_cases h1 : ce_I S 7 0 0 ≤ x2
  · rw [if_pos h1]
  · rw [if_neg h1, h.2.1, if_neg (by decide)]
theorem t_both5 {p : List Int32} {S0 : ce_S} {g : ce_F6} {o : Nat} {f : p_F} (hL : TL p S0) (hF : PF p S0 g.2.2.1 o f) (hf : p_ok f) (acc : List Int32) : ∀ n T c i S, T.length ≤ n → TP p S0 T (acc ++ c) S → i + T.length ≤ p.length → (acc ++ c).length + T.length ≤ 161 → ∃ S', ce_Ev (tb_X9_both g) 5 (0, 0) [some t7, some (.inl (nI o)), some (.inl (nI i))] [] S (none, S') ∧ PR p S0 acc (p_lp i_and f n T c) S' := by
  have hn := hL.2.1
  intro n
  induction n with
  | zero => intro T c i S h1 h2; have := TK_len h2.2.1; omega
  | succ n ih =>
    intro T c i S h1 h2 h3 h4
    obtain ⟨u, T', e, e2, e3⟩ := TK_cons h2.2.1
    subst e
    have hLS := TL_tq hL h2.1
    rw [List.length_cons] at h1 h3
    have hi : ¬ nI p.length ≤ nI i := by rw [nJ_le (by omega) (by omega)]; omega
    unfold p_lp
    by_cases hu : i_and u.1 = true
    · rw [if_pos hu]
      have hu2 : u.1 = -10 := by unfold i_and at hu; exact of_decide_eq_true hu
      have hu0 : u.1 ≠ 0 := by rw [hu2]; decide
      obtain ⟨S1, S2, S3, a1, a2, a3, a4⟩ := t_op hL hF hf h2 hu0 h4 (by rw [List.length_cons]; omega) (-10)
      have step : ∀ S', ce_Ev (tb_X9_both g) 5 (0, 0) [some t7, some (.inl (nI o)), some (.inl (nI (i + 1)))] [] S3 (none, S') → ce_Ev (tb_X9_both g) 5 (0, 0) [some t7, some (.inl (nI o)), some (.inl (nI i))] [] S (none, S') := fun S' h => by
        refine ce_by (tl_X9_both g) (fun kk => sg_X9_both_5 g (nI o) (nI i) S kk) ?_
        rw [hLS.1, if_neg hi, e2, if_pos hu2, a1]
        simp only [Option.bind_some]
        rw [a2]
        simp only [Option.bind_some]
        rw [a3]
        simp only [Option.bind_some]
        rw [q_add_eq, nJ_succ]
        exact ce_kk_of h
      rcases p_res (f T') with ⟨T2, hq⟩ | ⟨T2, c2, hq⟩
      · rw [hq] at a4 ⊢
        exact ⟨S3, step S3 (t_bothx (p := p) (f := plc p T2) a4 _ _), a4⟩
      · rw [hq] at a4 ⊢
        have a4 : TP p S0 T2 (acc ++ c ++ (c2 ++ [-10])) S3 := a4
        have hTs : tksok T' := fun v hv => h2.2.2.1 v (List.mem_cons_of_mem _ hv)
        obtain ⟨q1, q2, q3, q4⟩ := hf T' hTs T2 c2 hq
        rw [List.length_cons] at h4
        have e5 : acc ++ c ++ (c2 ++ [-10]) = acc ++ (c ++ c2 ++ [u.1]) := by rw [hu2]; simp only [List.append_assoc]
        rw [e5] at a4
        obtain ⟨S', b1, b2⟩ := ih T2 (c ++ c2 ++ [u.1]) (i + 1) S3 (by omega) a4 (by omega) (by simp only [List.length_append, List.length_cons, List.length_nil] at h4 ⊢; omega)
        exact ⟨S', step S' b1, b2⟩
    · rw [if_neg hu]
      refine ⟨S, ce_by (tl_X9_both g) (fun kk => sg_X9_both_5 g (nI o) (nI i) S kk) ?_, h2⟩
      rw [hLS.1, if_neg hi, e2, if_neg (fun q => hu (by unfold i_and; exact decide_eq_true q))]
theorem t_both {p : List Int32} {S0 : ce_S} {g : ce_F6} {o : Nat} {f : p_F} (hL : TL p S0) (hF : PF p S0 g.2.2.1 o f) (hf : p_ok f) : PF p S0 (F_X9_both g) o (p_sq i_and f) := by
  intro T acc S h hb hb2
  obtain ⟨S1, a1, a2⟩ := hF T acc S h hb hb2
  unfold p_sq
  have step : ∀ S', ce_Ev (tb_X9_both g) 5 (0, 0) [some t7, some (.inl (nI o)), some (.inl (nI 0))] [] S1 (none, S') → F_X9_both g [t7, .inl (nI o)] S = some S' := fun S' h => by
    refine fV_by (tl_X9_both g) (gd_r rfl rfl) (fun kk => sg_X9_both_0 g (nI o) S kk) ?_
    rw [a1]
    simp only [Option.bind_some]
    exact ce_kk_of h
  rcases p_res (f T) with ⟨T2, hq⟩ | ⟨T2, c, hq⟩
  · rw [hq] at a2 ⊢
    exact ⟨S1, step S1 (t_bothx (p := p) (f := plc p T2) a2 _ _), a2⟩
  · rw [hq] at a2 ⊢
    have a2 : TP p S0 T2 (acc ++ c) S1 := a2
    obtain ⟨q1, q2, q3, q4⟩ := hf T h.2.2.1 T2 c hq
    obtain ⟨S', b1, b2⟩ := t_both5 hL hF hf acc T2.length T2 c 0 S1 (Nat.le_refl _) a2 (by omega) (by rw [List.length_append]; omega)
    exact ⟨S', step S' b1, b2⟩
theorem t_bothF {S0 S : ce_S} {g : ce_F6} {f : Nat} (hF : ∀ S x, TF S0 f S → ∃ S', g.2.2.1 [t7, .inl x] S = some S' ∧ TF S0 f S') (h : TF S0 f S) (x : Int32) : ∃ S', F_X9_both g [t7, .inl x] S = some S' ∧ TF S0 f S' := by
  obtain ⟨S1, a1, a2⟩ := hF S x h
  refine ⟨S1, fV_by (tl_X9_both g) (gd_r rfl rfl) (fun kk => sg_X9_both_0 g x S kk) ?_, a2⟩
  rw [a1]
  simp only [Option.bind_some]
  exact ce_kk_of (t_bothx (p := []) a2 _ _)

theorem t_termx {p : List Int32} {S0 S : ce_S} {g : ce_F6} {f : Nat} (h : TF S0 f S) (x1 x2 : Int32) : ce_Ev (tb_X9_term g) 5 (0, 0) [some t7, some (.inl x1), some (.inl x2)] [] S (none, S) := by
  refine ce_by (tl_X9_term g) (fun kk => sg_X9_term_5 g x1 x2 S kk) ?_
  by_cases h1 : ce_I S 7 0 0 ≤ x2
  · rw [if_pos h1]
  · rw [if_neg h1, h.2.1, if_neg (by decide)]
theorem t_term5 {p : List Int32} {S0 : ce_S} {g : ce_F6} {o : Nat} {f : p_F} (hL : TL p S0) (hF : PF p S0 g.2.2.2.2.2 o f) (hf : p_ok f) (acc : List Int32) : ∀ n T c i S, T.length ≤ n → TP p S0 T (acc ++ c) S → i + T.length ≤ p.length → (acc ++ c).length + T.length ≤ 161 → ∃ S', ce_Ev (tb_X9_term g) 5 (0, 0) [some t7, some (.inl (nI o)), some (.inl (nI i))] [] S (none, S') ∧ PR p S0 acc (p_lp i_tim f n T c) S' := by
  have hn := hL.2.1
  intro n
  induction n with
  | zero => intro T c i S h1 h2; have := TK_len h2.2.1; omega
  | succ n ih =>
    intro T c i S h1 h2 h3 h4
    obtain ⟨u, T', e, e2, e3⟩ := TK_cons h2.2.1
    subst e
    have hLS := TL_tq hL h2.1
    rw [List.length_cons] at h1 h3
    have hi : ¬ nI p.length ≤ nI i := by rw [nJ_le (by omega) (by omega)]; omega
    unfold p_lp
    by_cases hu : i_tim u.1 = true
    · rw [if_pos hu]
      have hu2 : u.1 = -15 := by unfold i_tim at hu; exact of_decide_eq_true hu
      have hu0 : u.1 ≠ 0 := by rw [hu2]; decide
      obtain ⟨S1, S2, S3, a1, a2, a3, a4⟩ := t_op hL hF hf h2 hu0 h4 (by rw [List.length_cons]; omega) (-15)
      have step : ∀ S', ce_Ev (tb_X9_term g) 5 (0, 0) [some t7, some (.inl (nI o)), some (.inl (nI (i + 1)))] [] S3 (none, S') → ce_Ev (tb_X9_term g) 5 (0, 0) [some t7, some (.inl (nI o)), some (.inl (nI i))] [] S (none, S') := fun S' h => by
        refine ce_by (tl_X9_term g) (fun kk => sg_X9_term_5 g (nI o) (nI i) S kk) ?_
        rw [hLS.1, if_neg hi, e2, if_pos hu2, a1]
        simp only [Option.bind_some]
        rw [a2]
        simp only [Option.bind_some]
        rw [a3]
        simp only [Option.bind_some]
        rw [q_add_eq, nJ_succ]
        exact ce_kk_of h
      rcases p_res (f T') with ⟨T2, hq⟩ | ⟨T2, c2, hq⟩
      · rw [hq] at a4 ⊢
        exact ⟨S3, step S3 (t_termx (p := p) (f := plc p T2) a4 _ _), a4⟩
      · rw [hq] at a4 ⊢
        have a4 : TP p S0 T2 (acc ++ c ++ (c2 ++ [-15])) S3 := a4
        have hTs : tksok T' := fun v hv => h2.2.2.1 v (List.mem_cons_of_mem _ hv)
        obtain ⟨q1, q2, q3, q4⟩ := hf T' hTs T2 c2 hq
        rw [List.length_cons] at h4
        have e5 : acc ++ c ++ (c2 ++ [-15]) = acc ++ (c ++ c2 ++ [u.1]) := by rw [hu2]; simp only [List.append_assoc]
        rw [e5] at a4
        obtain ⟨S', b1, b2⟩ := ih T2 (c ++ c2 ++ [u.1]) (i + 1) S3 (by omega) a4 (by omega) (by simp only [List.length_append, List.length_cons, List.length_nil] at h4 ⊢; omega)
        exact ⟨S', step S' b1, b2⟩
    · rw [if_neg hu]
      refine ⟨S, ce_by (tl_X9_term g) (fun kk => sg_X9_term_5 g (nI o) (nI i) S kk) ?_, h2⟩
      rw [hLS.1, if_neg hi, e2, if_neg (fun q => hu (by unfold i_tim; exact decide_eq_true q))]
theorem t_term {p : List Int32} {S0 : ce_S} {g : ce_F6} {o : Nat} {f : p_F} (hL : TL p S0) (hF : PF p S0 g.2.2.2.2.2 o f) (hf : p_ok f) : PF p S0 (F_X9_term g) o (p_sq i_tim f) := by
  intro T acc S h hb hb2
  obtain ⟨S1, a1, a2⟩ := hF T acc S h hb hb2
  unfold p_sq
  have step : ∀ S', ce_Ev (tb_X9_term g) 5 (0, 0) [some t7, some (.inl (nI o)), some (.inl (nI 0))] [] S1 (none, S') → F_X9_term g [t7, .inl (nI o)] S = some S' := fun S' h => by
    refine fV_by (tl_X9_term g) (gd_r rfl rfl) (fun kk => sg_X9_term_0 g (nI o) S kk) ?_
    rw [a1]
    simp only [Option.bind_some]
    exact ce_kk_of h
  rcases p_res (f T) with ⟨T2, hq⟩ | ⟨T2, c, hq⟩
  · rw [hq] at a2 ⊢
    exact ⟨S1, step S1 (t_termx (p := p) (f := plc p T2) a2 _ _), a2⟩
  · rw [hq] at a2 ⊢
    have a2 : TP p S0 T2 (acc ++ c) S1 := a2
    obtain ⟨q1, q2, q3, q4⟩ := hf T h.2.2.1 T2 c hq
    obtain ⟨S', b1, b2⟩ := t_term5 hL hF hf acc T2.length T2 c 0 S1 (Nat.le_refl _) a2 (by omega) (by rw [List.length_append]; omega)
    exact ⟨S', step S' b1, b2⟩
theorem t_termF {S0 S : ce_S} {g : ce_F6} {f : Nat} (hF : ∀ S x, TF S0 f S → ∃ S', g.2.2.2.2.2 [t7, .inl x] S = some S' ∧ TF S0 f S') (h : TF S0 f S) (x : Int32) : ∃ S', F_X9_term g [t7, .inl x] S = some S' ∧ TF S0 f S' := by
  obtain ⟨S1, a1, a2⟩ := hF S x h
  refine ⟨S1, fV_by (tl_X9_term g) (gd_r rfl rfl) (fun kk => sg_X9_term_0 g x S kk) ?_, a2⟩
  rw [a1]
  simp only [Option.bind_some]
  exact ce_kk_of (t_termx (p := []) a2 _ _)
