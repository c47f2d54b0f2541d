/-! the component's tape: its three parts, and the whole -/
theorem t_lev {p : List Int32} {S0 : ce_S} (hL : TL p S0) : ∀ d o, o + d = 5 → ∀ k, PF p S0 (ce_tp (6 * d + k + 1)).2.2.2.2.2 o (pl_one d) ∧ PF p S0 (ce_tp (6 * d + k + 1 + 1)).2.2.2.2.1 o (pl_ter d) ∧ PF p S0 (ce_tp (6 * d + k + 1 + 1 + 1)).2.2.2.1 o (pl_sum d) ∧ PF p S0 (ce_tp (6 * d + k + 1 + 1 + 1 + 1)).2.2.1 o (pl_den d) ∧ PF p S0 (ce_tp (6 * d + k + 1 + 1 + 1 + 1 + 1)).2.1 o (pl_bot d) ∧ PF p S0 (ce_tp (6 * d + k + 1 + 1 + 1 + 1 + 1 + 1)).1 o (pl_eit d) := by
  intro d
  induction d with
  | zero =>
    intro o ho k
    have h1 : PF p S0 (ce_tp (6 * 0 + k + 1)).2.2.2.2.2 o (pl_one 0) := t_one (g := ce_tp (6 * 0 + k)) hL (by omega) ⟨fun q => absurd q (by decide), fun q => absurd q (by omega)⟩ (fun q => by cases q) (fun q => by cases q) (fun q => by cases q) (fun q => by cases q)
    have h2 : PF p S0 (ce_tp (6 * 0 + k + 1 + 1)).2.2.2.2.1 o (pl_ter 0) := t_term (g := ce_tp (6 * 0 + k + 1)) hL h1 (pl_one_ok 0)
    have h3 : PF p S0 (ce_tp (6 * 0 + k + 1 + 1 + 1)).2.2.2.1 o (pl_sum 0) := t_sum (g := ce_tp (6 * 0 + k + 1 + 1)) hL h2 (pl_ter_ok 0)
    have h4 : PF p S0 (ce_tp (6 * 0 + k + 1 + 1 + 1 + 1)).2.2.1 o (pl_den 0) := t_denied (g := ce_tp (6 * 0 + k + 1 + 1 + 1)) hL (by omega) ⟨fun q => absurd q (by decide), fun q => absurd q (by omega)⟩ (fun q => by cases q) (fun q => by cases q) h3 (pl_sum_ok 0)
    have h5 : PF p S0 (ce_tp (6 * 0 + k + 1 + 1 + 1 + 1 + 1)).2.1 o (pl_bot 0) := t_both (g := ce_tp (6 * 0 + k + 1 + 1 + 1 + 1)) hL h4 (pl_den_ok 0)
    have h6 : PF p S0 (ce_tp (6 * 0 + k + 1 + 1 + 1 + 1 + 1 + 1)).1 o (pl_eit 0) := by
      rw [pl_eit_eq]
      exact t_either (g := ce_tp (6 * 0 + k + 1 + 1 + 1 + 1 + 1)) hL h5 (pl_bot_ok 0)
    exact ⟨h1, h2, h3, h4, h5, h6⟩
  | succ d ih =>
    intro o ho k
    have e : 6 * (d + 1) + k = 6 * d + k + 1 + 1 + 1 + 1 + 1 + 1 := by omega
    obtain ⟨a1, a2, a3, a4, a5, a6⟩ := ih (o + 1) (by omega) k
    obtain ⟨b1, _⟩ := ih (o + 1) (by omega) (k + 5)
    obtain ⟨_, _, _, c4, _⟩ := ih (o + 1) (by omega) (k + 5)
    have e2 : 6 * d + (k + 5) + 1 = 6 * (d + 1) + k := by omega
    have e3 : 6 * d + (k + 5) + 1 + 1 + 1 + 1 = 6 * (d + 1) + k + 1 + 1 + 1 := by omega
    rw [e2] at b1
    rw [e3] at c4
    rw [← e] at a6
    have hd : (true : Bool) = true ↔ o < 5 := ⟨fun _ => by omega, fun _ => rfl⟩
    have h1 : PF p S0 (ce_tp (6 * (d + 1) + k + 1)).2.2.2.2.2 o (pl_one (d + 1)) := t_one (g := ce_tp (6 * (d + 1) + k)) hL (by omega) hd (fun _ => b1) (fun _ => pl_one_ok d) (fun _ => a6) (fun _ => pl_eit_ok d)
    have h2 : PF p S0 (ce_tp (6 * (d + 1) + k + 1 + 1)).2.2.2.2.1 o (pl_ter (d + 1)) := t_term (g := ce_tp (6 * (d + 1) + k + 1)) hL h1 (pl_one_ok _)
    have h3 : PF p S0 (ce_tp (6 * (d + 1) + k + 1 + 1 + 1)).2.2.2.1 o (pl_sum (d + 1)) := t_sum (g := ce_tp (6 * (d + 1) + k + 1 + 1)) hL h2 (pl_ter_ok _)
    have h4 : PF p S0 (ce_tp (6 * (d + 1) + k + 1 + 1 + 1 + 1)).2.2.1 o (pl_den (d + 1)) := t_denied (g := ce_tp (6 * (d + 1) + k + 1 + 1 + 1)) hL (by omega) hd (fun _ => c4) (fun _ => pl_den_ok d) h3 (pl_sum_ok (d + 1))
    have h5 : PF p S0 (ce_tp (6 * (d + 1) + k + 1 + 1 + 1 + 1 + 1)).2.1 o (pl_bot (d + 1)) := t_both (g := ce_tp (6 * (d + 1) + k + 1 + 1 + 1 + 1)) hL h4 (pl_den_ok _)
    have h6 : PF p S0 (ce_tp (6 * (d + 1) + k + 1 + 1 + 1 + 1 + 1 + 1)).1 o (pl_eit (d + 1)) := by
      rw [pl_eit_eq]
      exact t_either (g := ce_tp (6 * (d + 1) + k + 1 + 1 + 1 + 1 + 1)) hL h5 (pl_bot_ok _)
    exact ⟨h1, h2, h3, h4, h5, h6⟩
theorem t_eit {p : List Int32} {S0 : ce_S} (hL : TL p S0) : PF p S0 (ce_tp 40).1 0 (pl_eit 5) := (t_lev hL 5 0 rfl 4).2.2.2.2.2
theorem t_eitF {S0 S : ce_S} {f : Nat} (h : TF S0 f S) (x : Int32) : ∃ S', (ce_tp 40).1 [t7, .inl x] S = some S' ∧ TF S0 f S' := by
  have h1 : ∀ S x, TF S0 f S → ∃ S', (ce_tp 35).2.2.2.2.2 [t7, .inl x] S = some S' ∧ TF S0 f S' := fun S x h => t_oneF (g := ce_tp 34) h x
  have h2 : ∀ S x, TF S0 f S → ∃ S', (ce_tp 36).2.2.2.2.1 [t7, .inl x] S = some S' ∧ TF S0 f S' := fun S x h => t_termF (g := ce_tp 35) h1 h x
  have h3 : ∀ S x, TF S0 f S → ∃ S', (ce_tp 37).2.2.2.1 [t7, .inl x] S = some S' ∧ TF S0 f S' := fun S x h => t_sumF (g := ce_tp 36) h2 h x
  have h4 : ∀ S x, TF S0 f S → ∃ S', (ce_tp 38).2.2.1 [t7, .inl x] S = some S' ∧ TF S0 f S' := fun S x h => t_deniedF (g := ce_tp 37) h3 h x
  have h5 : ∀ S x, TF S0 f S → ∃ S', (ce_tp 39).2.1 [t7, .inl x] S = some S' ∧ TF S0 f S' := fun S x h => t_bothF (g := ce_tp 38) h4 h x
  exact t_eitherF (g := ce_tp 39) h5 h x
/-- a part of a text -/
def p_part (k : Int32) (T : List tk) : p_R := match T with
  | [] => ([], none)
  | u :: T1 => if u.1 = k then p_clo 7 (pl_eit 5 T1) else (u :: T1, none)
theorem t_partF {S0 S : ce_S} {f : Nat} (h : TF S0 f S) {x : Int32} (hx : x ≠ 8) : ∃ S', F_X9_part [t7, .inl x] S = some S' ∧ TF S0 f S' := by
  obtain ⟨S1, a1, a2⟩ := t_expF h hx
  obtain ⟨S2, b1, b2⟩ := t_eitF a2 0
  obtain ⟨S3, c1, c2⟩ := t_expF b2 (x := 7) (by decide)
  refine ⟨S3, fV_by tl_X9_part (gd_r rfl rfl) (fun kk => sg_X9_part_0 x S kk) ?_, c2⟩
  rw [a1]
  simp only [Option.bind_some]
  rw [b1]
  simp only [Option.bind_some]
  rw [c1]
  rfl
theorem t_part {p : List Int32} {S0 S : ce_S} {T : List tk} {acc : List Int32} (hL : TL p S0) (h : TP p S0 T acc S) (hb : acc.length + T.length ≤ 161) (hb2 : T.length ≤ p.length + 1) {x : Int32} (hx : x ≠ 0) : ∃ S', F_X9_part [t7, .inl x] S = some S' ∧ PR p S0 acc (p_part x T) S' := by
  obtain ⟨u, T', e, e2, e3⟩ := TK_cons h.2.1
  subst e
  rw [List.length_cons] at hb hb2
  obtain ⟨S1, a1, a2⟩ := t_exp hL h (by omega) hx
  have step : ∀ S2 S3, (ce_tp 40).1 [t7, .inl 0] S1 = some S2 → F_X9_expect [t7, .inl 7] S2 = some S3 → F_X9_part [t7, .inl x] S = some S3 := fun S2 S3 h2 h3 => by
    refine fV_by tl_X9_part (gd_r rfl rfl) (fun kk => sg_X9_part_0 x S kk) ?_
    rw [a1]
    simp only [Option.bind_some]
    rw [h2]
    simp only [Option.bind_some]
    rw [h3]
    rfl
  unfold p_part
  unfold p_exp at a2
  simp only at a2 ⊢
  by_cases hu : u.1 = x
  · rw [if_pos hu] at a2 ⊢
    have a2 : TP p S0 T' acc S1 := a2
    obtain ⟨S2, b1, b2⟩ := t_eit hL T' acc S1 a2 (by omega) (by omega)
    rcases p_res (pl_eit 5 T') with ⟨T2, hq⟩ | ⟨T2, c, hq⟩
    · rw [hq] at b2 ⊢
      have b2 : TF S0 (plc p T2) S2 := b2
      obtain ⟨S3, c1, c2⟩ := t_expF b2 (x := 7) (by decide)
      exact ⟨S3, step S2 S3 b1 c1, c2⟩
    · rw [hq] at b2 ⊢
      have b2 : TP p S0 T2 (acc ++ c) S2 := b2
      obtain ⟨q1, q2, q3, q4⟩ := pl_eit_ok 5 T' a2.2.2.1 T2 c hq
      obtain ⟨S3, c1, c2⟩ := t_exp hL b2 (by rw [List.length_append]; omega) (x := 7) (by decide)
      refine ⟨S3, step S2 S3 b1 c1, ?_⟩
      rw [p_clo_exp]
      revert c2
      rcases p_exp 7 T2 with ⟨T3, b⟩
      cases b with
      | true => exact id
      | false => exact id
  · rw [if_neg hu] at a2 ⊢
    have a2 : TF S0 (plc p (u :: T')) S1 := a2
    obtain ⟨S2, b1, b2⟩ := t_eitF a2 0
    obtain ⟨S3, c1, c2⟩ := t_expF b2 (x := 7) (by decide)
    exact ⟨S3, step S2 S3 b1 c1, c2⟩
theorem p_part_ok {k : Int32} {T T2 : List tk} {c : List Int32} (hT : tksok T) (h : p_part k T = (T2, some c)) : tksok T2 ∧ c.length + T2.length ≤ T.length ∧ T2.length < T.length ∧ cwf c := by
  unfold p_part at h
  cases T with
  | nil => cases h
  | cons u T1 =>
    simp only at h
    by_cases e : u.1 = k
    · rw [if_pos e] at h
      exact p_clo_ok (pl_eit_ok 5) hT h
    · rw [if_neg e] at h; cases h
/-- a whole text: where its fault is, or its three parts -/
def p_text (T : List tk) : List tk × Option sp_T := match p_part 2 T with
  | (T1, none) => (T1, none)
  | (T1, some a) => (match p_part 3 T1 with
    | (T2, none) => (T2, none)
    | (T2, some b) => (match p_part 4 T2 with
      | (T3, none) => (T3, none)
      | (T3, some c) => if tk_h T3 = 0 then (T3, some (a, b, c)) else (T3, none)))
/-- what a reading leaves alone -/
def rq (S S' : ce_S) : Prop := (∀ t k i, t ≠ 7 → ce_I S' t k i = ce_I S t k i) ∧ ce_R S' = ce_R S ∧ (∀ t, t ≠ 9 → ce_A S' t = ce_A S t) ∧ S'.2.2.2 = S.2.2.2
theorem rq_tq {S S' : ce_S} (h : tq S S') : rq S S' := ⟨fun t k i q => h.1 t k i (fun z => q z.1), h.2.1, h.2.2.1, h.2.2.2⟩
theorem rq_trans {S S' S'' : ce_S} (h : rq S S') (g : rq S' S'') : rq S S'' := ⟨fun t k i q => (g.1 t k i q).trans (h.1 t k i q), g.2.1.trans h.2.1, fun t q => (g.2.2.1 t q).trans (h.2.2.1 t q), g.2.2.2.trans h.2.2.2⟩
theorem rq_sI (S : ce_S) (k : Nat) (v : Int32) : rq S (ce_sI S 7 k 0 v) := ⟨fun t k' i q => by rw [r_I_sI, if_neg q], rfl, fun _ _ => rfl, rfl⟩
theorem TP_sI {p : List Int32} {S0 S : ce_S} {T : List tk} {acc : List Int32} (h : TP p S0 T acc S) (k : Nat) (v : Int32) (hk : k = 8 ∨ k = 9) : TP p (ce_sI S 7 k 0 v) T acc (ce_sI S 7 k 0 v) := by
  obtain ⟨a1, ⟨u, q, b1, b2, b3, b4, b5, b6, b7⟩, a3, a4, a5, a6⟩ := h
  have g : ∀ j, j ≠ 8 → j ≠ 9 → ce_I (ce_sI S 7 k 0 v) 7 j 0 = ce_I S 7 j 0 := fun j h1 h2 => by
    rw [r_I_sI, if_pos rfl, if_neg (by omega)]
  refine ⟨tq_refl _, ⟨u, q, b1, b2, ?_, b4, ?_, ?_, ?_⟩, a3, ?_, ?_, a6⟩
  · rw [g 4 (by decide) (by decide)]; exact b3
  · rw [g 5 (by decide) (by decide)]; exact b5
  · rw [g 6 (by decide) (by decide)]; exact b6
  · rw [g 3 (by decide) (by decide)]; exact b7
  · rw [g 10 (by decide) (by decide)]; exact a4
  · rw [g 7 (by decide) (by decide)]; exact a5
theorem TF_sI {S0 S : ce_S} {f : Nat} (h : TF S0 f S) (k : Nat) (v : Int32) (hk : k = 8 ∨ k = 9) : TF (ce_sI S 7 k 0 v) f (ce_sI S 7 k 0 v) := by
  obtain ⟨a1, a2, a3, a4, m, a5, a6⟩ := h
  have g : ∀ j, j ≠ 8 → j ≠ 9 → ce_I (ce_sI S 7 k 0 v) 7 j 0 = ce_I S 7 j 0 := fun j h1 h2 => by
    rw [r_I_sI, if_pos rfl, if_neg (by omega)]
  refine ⟨tq_refl _, ?_, ?_, a4, m, ?_, a6⟩
  · rw [g 4 (by decide) (by decide)]; exact a2
  · rw [g 10 (by decide) (by decide)]; exact a3
  · rw [g 7 (by decide) (by decide)]; exact a5
theorem TL_k {p : List Int32} {S : ce_S} (h : TL p S) (k : Nat) (v : Int32) (hk : k = 8 ∨ k = 9) : TL p (ce_sI S 7 k 0 v) := TL_sI h k v (by omega)
/-- the component reads a text -/
theorem t_read {p : List Int32} {S : ce_S} (hL : TL p S) : ∃ x S', F_X9_read [t7] S = some (x, S') ∧ rq S S' ∧ ce_I S' 7 0 0 = 0 ∧ (match p_text (x_toks p) with
    | (T, none) => x = nI (plc p T) ∧ plc p T ≤ 160
    | (_, some (a, b, c)) => x = -1 ∧ ce_I S' 7 8 0 = nI a.length ∧ ce_I S' 7 9 0 = nI (a.length + b.length) ∧ ce_I S' 7 7 0 = nI (a.length + b.length + c.length) ∧ a.length + b.length + c.length ≤ 160 ∧ ∀ e, e < a.length + b.length + c.length → ce_A S' 9 0 e = (a ++ b ++ c).getD e 0) := by
  have hn := hL.2.1
  obtain ⟨Sa, hSa⟩ : ∃ Sa, Sa = ce_sI (ce_sI (ce_sI S 7 3 0 0) 7 7 0 0) 7 10 0 (-1) := ⟨_, rfl⟩
  have hLa : TL p Sa := by rw [hSa]; exact TL_sI (TL_sI (TL_sI hL 3 _ (by decide)) 7 _ (by decide)) 10 _ (by decide)
  have hra : rq S Sa := by rw [hSa]; exact rq_trans (rq_trans (rq_sI _ _ _) (rq_sI _ _ _)) (rq_sI _ _ _)
  obtain ⟨S1, a1, a2, a3⟩ := t_adv hLa (q := 0) (by rw [hSa, r_I_sI, if_pos rfl, if_neg (by decide), r_I_sI, if_pos rfl, if_neg (by decide), r_I_sI, if_pos rfl, if_pos rfl, if_pos rfl]; rfl) (Nat.zero_le _)
  rw [List.drop_zero] at a3
  have hT1 : TP p Sa (x_toks p) [] S1 := by
    refine ⟨tq_adq a2, a3, x_toks_ok p, ?_, ?_, fun e he => absurd he (Nat.not_lt_zero _)⟩
    · rw [a2.1 7 10 0 (by omega), hSa, r_I_sI, if_pos rfl, if_pos rfl, if_pos rfl]
    · rw [a2.1 7 7 0 (by omega), hSa, r_I_sI, if_pos rfl, if_neg (by decide), r_I_sI, if_pos rfl, if_pos rfl, if_pos rfl]; rfl
  have hlen := (x_toks_len p).1
  obtain ⟨S2, b1, b2⟩ := t_part hLa hT1 (by rw [List.length_nil]; omega) hlen (x := 2) (by decide)
  have step : ∀ S3 S4, F_X9_part [t7, .inl 3] (ce_sI S2 7 8 0 (ce_I S2 7 7 0)) = some S3 → F_X9_part [t7, .inl 4] (ce_sI S3 7 9 0 (ce_I S3 7 7 0)) = some S4 →
      (ce_I S4 7 4 0 = 0 → F_X9_read [t7] S = some (ce_I S4 7 10 0, ce_sI S4 7 0 0 0)) ∧ ∀ S5, ¬ ce_I S4 7 4 0 = 0 → F_X9_fail [t7] S4 = some S5 → F_X9_read [t7] S = some (ce_I S5 7 10 0, ce_sI S5 7 0 0 0) := fun S3 S4 h3 h4 => by
    refine ⟨fun h5 => fI_by tl_X9_read (gd_r rfl rfl) (fun kk => sg_X9_read_0 S kk) ?_, fun S5 h5 h6 => fI_by tl_X9_read (gd_r rfl rfl) (fun kk => sg_X9_read_0 S kk) ?_⟩
    · rw [← hSa, a1]
      simp only [Option.bind_some]
      rw [b1]
      simp only [Option.bind_some]
      rw [h3]
      simp only [Option.bind_some]
      rw [h4]
      simp only [Option.bind_some]
      rw [if_pos h5]
    · rw [← hSa, a1]
      simp only [Option.bind_some]
      rw [b1]
      simp only [Option.bind_some]
      rw [h3]
      simp only [Option.bind_some]
      rw [h4]
      simp only [Option.bind_some]
      rw [if_neg h5, h6]
      rfl
  -- what a failing state ends in
  have finF : ∀ f S0 S4, TF S0 f S4 → ∃ S5, F_X9_fail [t7] S4 = some S5 ∧ ce_I S5 7 10 0 = nI f ∧ rq S4 S5 := fun f S0 S4 h => by
    obtain ⟨S5, c1, c2⟩ := t_failF (show TF S4 f S4 from ⟨tq_refl _, h.2⟩)
    exact ⟨S5, c1, c2.2.2.1, rq_tq c2.1⟩
  have h80 : ¬ (8 : Int32) = 0 := by decide
  unfold p_text
  rcases p_res (p_part 2 (x_toks p)) with ⟨T1, hq⟩ | ⟨T1, a, hq⟩
  · rw [hq] at b2 ⊢
    have b2 : TF Sa (plc p T1) S2 := b2
    obtain ⟨S3, c1, c2⟩ := t_partF (TF_sI b2 8 (ce_I S2 7 7 0) (Or.inl rfl)) (x := 3) (by decide)
    obtain ⟨S4, d1, d2⟩ := t_partF (TF_sI c2 9 (ce_I S3 7 7 0) (Or.inr rfl)) (x := 4) (by decide)
    obtain ⟨S5, e1, e2, e3⟩ := finF _ _ _ d2
    refine ⟨_, _, (step S3 S4 c1 d1).2 S5 (by rw [d2.2.1]; exact h80) e1, rq_trans hra (rq_trans (rq_tq b2.1) (rq_trans (rq_sI _ _ _) (rq_trans (rq_tq c2.1) (rq_trans (rq_sI _ _ _) (rq_trans (rq_tq d2.1) (rq_trans e3 (rq_sI _ _ _))))))), ?_, e2, b2.2.2.2.1⟩
    rw [r_I_sI, if_pos rfl, if_pos rfl, if_pos rfl]
  rw [hq] at b2 ⊢
  have b2 : TP p Sa T1 a S2 := b2
  obtain ⟨k1, k2, k3, k4⟩ := p_part_ok (x_toks_ok p) hq
  have hb2 := TP_sI b2 8 (ce_I S2 7 7 0) (Or.inl rfl)
  have hL2 : TL p (ce_sI S2 7 8 0 (ce_I S2 7 7 0)) := TL_k (TL_tq hLa b2.1) 8 _ (Or.inl rfl)
  obtain ⟨S3, c1, c2⟩ := t_part hL2 hb2 (by omega) (by omega) (x := 3) (by decide)
  simp only
  rcases p_res (p_part 3 T1) with ⟨T2, hq2⟩ | ⟨T2, b, hq2⟩
  · rw [hq2] at c2 ⊢
    have c2 : TF _ (plc p T2) S3 := c2
    obtain ⟨S4, d1, d2⟩ := t_partF (TF_sI c2 9 (ce_I S3 7 7 0) (Or.inr rfl)) (x := 4) (by decide)
    obtain ⟨S5, e1, e2, e3⟩ := finF _ _ _ d2
    refine ⟨_, _, (step S3 S4 c1 d1).2 S5 (by rw [d2.2.1]; exact h80) e1, rq_trans hra (rq_trans (rq_tq b2.1) (rq_trans (rq_sI _ _ _) (rq_trans (rq_tq c2.1) (rq_trans (rq_sI _ _ _) (rq_trans (rq_tq d2.1) (rq_trans e3 (rq_sI _ _ _))))))), ?_, e2, c2.2.2.2.1⟩
    rw [r_I_sI, if_pos rfl, if_pos rfl, if_pos rfl]
  rw [hq2] at c2 ⊢
  have c2 : TP p (ce_sI S2 7 8 0 (ce_I S2 7 7 0)) T2 (a ++ b) S3 := c2
  obtain ⟨l1, l2, l3, l4⟩ := p_part_ok k1 hq2
  have hc2 := TP_sI c2 9 (ce_I S3 7 7 0) (Or.inr rfl)
  have hL3 : TL p (ce_sI S3 7 9 0 (ce_I S3 7 7 0)) := TL_k (TL_tq hL2 c2.1) 9 _ (Or.inr rfl)
  obtain ⟨S4, d1, d2⟩ := t_part hL3 hc2 (by rw [List.length_append]; omega) (by omega) (x := 4) (by decide)
  have hr3 : rq S (ce_sI S3 7 9 0 (ce_I S3 7 7 0)) := rq_trans hra (rq_trans (rq_tq b2.1) (rq_trans (rq_sI _ _ _) (rq_trans (rq_tq c2.1) (rq_sI _ _ _))))
  simp only
  rcases p_res (p_part 4 T2) with ⟨T3, hq3⟩ | ⟨T3, c, hq3⟩
  · rw [hq3] at d2 ⊢
    have d2 : TF _ (plc p T3) S4 := d2
    obtain ⟨S5, e1, e2, e3⟩ := finF _ _ _ d2
    refine ⟨_, _, (step S3 S4 c1 d1).2 S5 (by rw [d2.2.1]; exact h80) e1, rq_trans hr3 (rq_trans (rq_tq d2.1) (rq_trans e3 (rq_sI _ _ _))), ?_, e2, d2.2.2.2.1⟩
    rw [r_I_sI, if_pos rfl, if_pos rfl, if_pos rfl]
  rw [hq3] at d2 ⊢
  have d2 : TP p (ce_sI S3 7 9 0 (ce_I S3 7 7 0)) T3 (a ++ b ++ c) S4 := d2
  obtain ⟨m1, m2, m3, m4⟩ := p_part_ok l1 hq3
  obtain ⟨v, T4, f1, f2, f3⟩ := TK_cons d2.2.1
  subst f1
  have hlc : a.length + b.length + c.length ≤ 160 := by rw [List.length_cons] at m2; omega
  simp only
  by_cases hv : v.1 = 0
  · rw [if_pos (show tk_h (v :: T4) = 0 from hv)]
    refine ⟨_, _, (step S3 S4 c1 d1).1 (by rw [f2]; exact hv), rq_trans hr3 (rq_trans (rq_tq d2.1) (rq_sI _ _ _)), ?_, d2.2.2.2.1, ?_, ?_, ?_, hlc, ?_⟩
    · rw [r_I_sI, if_pos rfl, if_pos rfl, if_pos rfl]
    · rw [r_I_sI, if_pos rfl, if_neg (by decide), d2.1.1 7 8 0 (by omega), r_I_sI, if_pos rfl, if_neg (by decide), c2.1.1 7 8 0 (by omega), r_I_sI, if_pos rfl, if_pos rfl, if_pos rfl, b2.2.2.2.2.1]
    · rw [r_I_sI, if_pos rfl, if_neg (by decide), d2.1.1 7 9 0 (by omega), r_I_sI, if_pos rfl, if_pos rfl, if_pos rfl, c2.2.2.2.2.1, List.length_append]
    · rw [r_I_sI, if_pos rfl, if_neg (by decide), d2.2.2.2.2.1, List.length_append, List.length_append]
    · intro e he
      exact d2.2.2.2.2.2 e (by rw [List.length_append, List.length_append]; exact he)
  · rw [if_neg (show ¬ tk_h (v :: T4) = 0 from hv)]
    obtain ⟨S5, e1, e2⟩ := t_fail hL3 d2 (by rw [List.length_append, List.length_append]; omega)
    refine ⟨_, _, (step S3 S4 c1 d1).2 S5 (by rw [f2]; exact hv) e1, rq_trans hr3 (rq_trans (rq_tq e2.1) (rq_sI _ _ _)), ?_, e2.2.2.1, e2.2.2.2.1⟩
    rw [r_I_sI, if_pos rfl, if_pos rfl, if_pos rfl]
