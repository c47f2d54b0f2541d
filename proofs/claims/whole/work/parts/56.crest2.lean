/-! how many stand so -/
theorem c_hm4 {w : sp_W} (x : Int32) : ∀ m, m ≤ w_n w → ∀ (acc : Int32) (S : ce_S), ce_I S 0 6 0 = nI (w_n w) → w_n w ≤ 6 → (∀ i, i < w_n w → sp_st (rc S (3 * i)) = sp_st (w_r w i)) → ce_Ev tb_X11_howMany 4 (0, 0) [some (.inr (.inl (0, 0))), some (.inl x), some (.inl acc), some (.inl (nI (w_n w - m)))] [] S (some (.inl (sp_hm (w_r w) x (w_n w) m acc)), S) := by
  intro m
  induction m with
  | zero =>
    intro _ acc S h0 hn hr
    refine ce_by tl_X11_howMany (fun kk => sg_X11_howMany_4 x acc (nI (w_n w - 0)) S kk) ?_
    have h1 : ce_I S 0 6 0 ≤ nI (w_n w - 0) := by rw [h0]; exact Int32.le_refl _
    rw [if_pos h1]; rfl
  | succ m ih =>
    intro hm acc S h0 hn hr
    have hi : w_n w - (m + 1) < w_n w := by omega
    have e2 : (nI (w_n w - (m + 1))).toNatClampNeg = w_n w - (m + 1) := nI_clamp (by omega)
    have hin : ¬ (nI (w_n w - (m + 1)) < 0 ∨ 6 ≤ w_n w - (m + 1)) := nJ_in (by omega) (by decide)
    have h1 : ¬ ce_I S 0 6 0 ≤ nI (w_n w - (m + 1)) := by rw [h0, nJ_le (by omega) (by omega)]; omega
    have h6 : ¬ (6 : Int32) ≤ nI (w_n w - (m + 1)) := by rw [show (6 : Int32) = nI 6 from rfl, nJ_le (by omega) (by omega)]; omega
    have e1 : nI (w_n w - (m + 1)) + 1 = nI (w_n w - m) := by rw [nJ_succ, show w_n w - (m + 1) + 1 = w_n w - m by omega]
    have hrc := hr _ hi
    unfold sp_hm
    refine ce_by tl_X11_howMany (fun kk => sg_X11_howMany_4 x acc (nI (w_n w - (m + 1))) S kk) ?_
    by_cases ho : sp_st (w_r w (w_n w - (m + 1))) = x
    · simp only [if_neg h1, if_neg h6, e2, if_neg hin, k3_eq, rc_6, hrc, if_pos ho, q_add_eq, e1]
      exact ce_kk_of (ih (by omega) _ S h0 hn hr)
    · simp only [if_neg h1, if_neg h6, e2, if_neg hin, k3_eq, rc_6, hrc, if_neg ho, q_add_eq, e1]
      exact ce_kk_of (ih (by omega) _ S h0 hn hr)
theorem c_many' {w : sp_W} {S : ce_S} (h0 : ce_I S 0 6 0 = nI (w_n w)) (hn : w_n w ≤ 6) (hr : ∀ i, i < w_n w → sp_st (rc S (3 * i)) = sp_st (w_r w i)) (x : Int32) : F_X11_howMany [.inr (.inl (0, 0)), .inl x] S = some (s_many w x, S) := by
  refine fI_by tl_X11_howMany (gd_r rfl rfl) (fun kk => sg_X11_howMany_0 x S kk) ?_
  have := c_hm4 (w := w) x (w_n w) (Nat.le_refl _) 0 S h0 hn hr
  rw [Nat.sub_self] at this
  exact ce_kk_of this
theorem c_many {w : sp_W} {S : ce_S} (hC : CR w S) (x : Int32) : F_X11_howMany [.inr (.inl (0, 0)), .inl x] S = some (s_many w x, S) := c_many' hC.1.1 hC.1.2 (fun i hi => by rw [(hC.2.1 i hi).1]) x
theorem c_count {w : sp_W} {S : ce_S} (hC : CR w S) (x : Int32) : F_X11_count [.inr (.inl (0, 0)), .inl x] S = some (s_count w x, S) := by
  refine fI_by tl_X11_count (gd_r rfl rfl) (fun kk => sg_X11_count_0 x S kk) ?_
  unfold s_count
  have hc := hC.2.2.1
  have ht := hC.2.2.2.1.1
  have hp := hC.2.2.2.2.1.1
  simp only [c_many hC, Option.bind_some, hC.1.1, hc.1, hc.2.1, hc.2.2.1, hc.2.2.2.1, ht, hp]
  by_cases x0 : x = 0
  · simp only [if_pos x0]
  by_cases x1 : x = 1
  · simp only [if_neg x0, if_pos x1]
  by_cases x2 : x = 2
  · simp only [if_neg x0, if_neg x1, if_pos x2]
  by_cases x3 : x = 3
  · simp only [if_neg x0, if_neg x1, if_neg x2, if_pos x3]
  by_cases x4 : x = 4
  · simp only [if_neg x0, if_neg x1, if_neg x2, if_neg x3, if_pos x4]
  by_cases x5 : x = 5
  · simp only [if_neg x0, if_neg x1, if_neg x2, if_neg x3, if_neg x4, if_pos x5]
  by_cases x6 : x = 6
  · simp only [if_neg x0, if_neg x1, if_neg x2, if_neg x3, if_neg x4, if_neg x5, if_pos x6]
  by_cases x7 : x = 7
  · simp only [if_neg x0, if_neg x1, if_neg x2, if_neg x3, if_neg x4, if_neg x5, if_neg x6, if_pos x7]
  by_cases x8 : x = 8
  · simp only [if_neg x0, if_neg x1, if_neg x2, if_neg x3, if_neg x4, if_neg x5, if_neg x6, if_neg x7, if_pos x8]
  · simp only [if_neg x0, if_neg x1, if_neg x2, if_neg x3, if_neg x4, if_neg x5, if_neg x6, if_neg x7, if_neg x8]
/-! the image -/
/-- cells that the image keeps, and those that are thought with -/
def kp (t i : Nat) : Prop := (t = 11 ∧ i % 3 = 2) ∨ (t = 12 ∧ i = 2)
def qk (S S' : ce_S) : Prop := (∀ t k i, ¬ kp t i → ce_I S' t k i = ce_I S t k i) ∧ (∀ t k i, ¬ kp t i → ce_R S' t k i = ce_R S t k i) ∧ S'.2.2 = S.2.2
theorem qk_refl (S : ce_S) : qk S S := ⟨fun _ _ _ _ => rfl, fun _ _ _ _ => rfl, rfl⟩
theorem qk_trans {S S' S'' : ce_S} (h : qk S S') (g : qk S' S'') : qk S S'' := ⟨fun t k i q => (g.1 t k i q).trans (h.1 t k i q), fun t k i q => (g.2.1 t k i q).trans (h.2.1 t k i q), g.2.2.trans h.2.2⟩
theorem qk_sI (S : ce_S) (t k i : Nat) (v : Int32) (h : kp t i) : qk S (ce_sI S t k i v) := by
  refine ⟨fun t' k' i' q => ?_, fun _ _ _ _ => rfl, rfl⟩
  rw [r_I_sI]
  by_cases h1 : t' = t
  · by_cases h2 : i' = i
    · subst h1; subst h2; exact absurd h q
    · simp only [if_neg h2, ite_self]
  · simp only [if_neg h1]
theorem qk_sR (S : ce_S) (t k i v : Nat) (h : kp t i) : qk S (ce_sR S t k i v) := by
  refine ⟨fun _ _ _ _ => rfl, fun t' k' i' q => ?_, rfl⟩
  rw [r_R_sR]
  by_cases h1 : t' = t
  · by_cases h2 : i' = i
    · subst h1; subst h2; exact absurd h q
    · simp only [if_neg h2, ite_self]
  · simp only [if_neg h1]
theorem qk_wS (S : ce_S) (j : Nat) (r : sp_R) (h : kp 11 j) : qk S (wS S j r) := by
  unfold wS
  exact qk_trans (qk_trans (qk_trans (qk_trans (qk_trans (qk_trans (qk_sR _ _ _ _ _ h) (qk_sI _ _ _ _ _ h)) (qk_sI _ _ _ _ _ h)) (qk_sI _ _ _ _ _ h)) (qk_sI _ _ _ _ _ h)) (qk_sI _ _ _ _ _ h)) (qk_sI _ _ _ _ _ h)
theorem kp_k (i : Nat) : kp 11 (3 * i + 2) := Or.inl ⟨rfl, by omega⟩
theorem kp_s : kp 12 2 := Or.inr ⟨rfl, rfl⟩
theorem kp_f (i : Nat) : ¬ kp 11 (3 * i) := fun q => by
  rcases q with ⟨_, e⟩ | ⟨e, _⟩ <;> omega
theorem kp_0 : ¬ kp 12 0 := fun q => by
  rcases q with ⟨e, _⟩ | ⟨_, e⟩ <;> omega
theorem kp_t {t i : Nat} (h1 : t ≠ 11) (h2 : t ≠ 12) : ¬ kp t i := fun q => by
  rcases q with ⟨e, _⟩ | ⟨e, _⟩
  · exact h1 e
  · exact h2 e
theorem qk_rc {S S' : ce_S} (h : qk S S') (i : Nat) : rc S' (3 * i) = rc S (3 * i) := by
  unfold rc
  rw [h.2.1 _ _ _ (kp_f i), h.1 _ _ _ (kp_f i), h.1 _ _ _ (kp_f i), h.1 _ _ _ (kp_f i), h.1 _ _ _ (kp_f i), h.1 _ _ _ (kp_f i), h.1 _ _ _ (kp_f i)]
theorem qk_A {S S' : ce_S} (h : qk S S') : ce_A S' = ce_A S := by unfold ce_A; rw [h.2.2]
theorem qk_L {S S' : ce_S} (h : qk S S') : ce_L S' = ce_L S := by unfold ce_L; rw [h.2.2]
theorem qk_C {S S' : ce_S} (h : qk S S') : ce_C S' = ce_C S := by unfold ce_C; rw [h.2.2]
theorem qk_Q {S S' : ce_S} (h : qk S S') : ce_Q S' = ce_Q S := by unfold ce_Q; rw [h.2.2]
theorem mEq_qk {S S' : ce_S} (h : qk S S') : mEq S S' := fun t q => ⟨funext fun k => funext fun i => h.1 t k i (kp_t (by omega) (by omega)), funext fun k => funext fun i => h.2.1 t k i (kp_t (by omega) (by omega)), by rw [qk_A h], by rw [qk_L h], by rw [qk_C h]⟩
/-- all but the image -/
theorem CR_qk {w : sp_W} {S S' : ce_S} (hC : CR w S) (h : qk S S') : CRn w S' ∧ CRr w S' ∧ CRc w S' ∧ CRt w S' ∧ CRp w S' ∧ CRh w S' := by
  obtain ⟨⟨n1, n2⟩, hr, ⟨c1, c2, c3, c4, c5⟩, ⟨t1, t2, t3, t4, t5⟩, ⟨p1, p2, p3⟩, hh, _⟩ := hC
  have hI : ∀ t k i, t ≠ 11 → t ≠ 12 → ce_I S' t k i = ce_I S t k i := fun t k i h1 h2 => h.1 t k i (kp_t h1 h2)
  refine ⟨⟨(hI 0 6 0 (by decide) (by decide)).trans n1, n2⟩, fun i hi => ?_, ⟨(h.1 _ _ _ kp_0).trans c1, (h.1 _ _ _ kp_0).trans c2, (h.1 _ _ _ kp_0).trans c3, (h.1 _ _ _ kp_0).trans c4, (h.2.1 _ _ _ kp_0).trans c5⟩, ⟨(hI 0 7 0 (by decide) (by decide)).trans t1, t2, t3, by rw [qk_C h]; exact t4, fun k hk => ?_⟩, ⟨(hI 7 0 0 (by decide) (by decide)).trans p1, p2, by rw [qk_A h]; exact p3⟩, fun i hi => ?_⟩
  · rw [qk_rc h, h.1 _ _ _ (kp_f i)]; exact hr i hi
  · have q := t5 k hk
    unfold txok txt at q ⊢
    rw [qk_Q h, qk_L h, qk_A h, hI 13 1 k (by decide) (by decide), hI 13 2 k (by decide) (by decide)]; exact q
  · rw [hI 15 1 i (by decide) (by decide), hI 15 2 i (by decide) (by decide), qk_A h]; exact hh i hi
theorem c_im2 {w : sp_W} : ∀ m, m ≤ w_n w → ∀ (S : ce_S), CRn w S → CRr w S → (∀ i, i < w_n w - m → rc S (3 * i + 2) = w_r w i) → ∃ S1, qk S S1 ∧ (∀ i, i < w_n w → rc S1 (3 * i + 2) = w_r w i) ∧ ∀ res, ce_Ev tb_X11_image 2 (0, 0) [some (.inr (.inl (0, 0))), some (.inl (nI (w_n w)))] [] S1 res → ce_Ev tb_X11_image 2 (0, 0) [some (.inr (.inl (0, 0))), some (.inl (nI (w_n w - m)))] [] S res := by
  intro m
  induction m with
  | zero => intro _ S h0 hr hk; exact ⟨S, qk_refl S, fun i hi => hk i (by omega), fun res h => h⟩
  | succ m ih =>
    intro hm S h0 hr hk
    have hn : w_n w ≤ 6 := h0.2
    have hi : w_n w - (m + 1) < w_n w := by omega
    have e2 : (nI (w_n w - (m + 1))).toNatClampNeg = w_n w - (m + 1) := nI_clamp (by omega)
    have hin : ¬ (nI (w_n w - (m + 1)) < 0 ∨ 6 ≤ w_n w - (m + 1)) := nJ_in (by omega) (by decide)
    have h1 : ¬ ce_I S 0 6 0 ≤ nI (w_n w - (m + 1)) := by rw [h0.1, nJ_le (by omega) (by omega)]; omega
    have h6 : ¬ (6 : Int32) ≤ nI (w_n w - (m + 1)) := by rw [show (6 : Int32) = nI 6 from rfl, nJ_le (by omega) (by omega)]; omega
    have e1 : nI (w_n w - (m + 1)) + 1 = nI (w_n w - m) := by rw [nJ_succ, show w_n w - (m + 1) + 1 = w_n w - m by omega]
    have t := f_take S (3 * (w_n w - (m + 1)) + 2) (3 * (w_n w - (m + 1))) (by omega)
    have q : qk S (wS (ce_sI S 11 1 (3 * (w_n w - (m + 1)) + 2) (ce_I S 11 1 (3 * (w_n w - (m + 1))))) (3 * (w_n w - (m + 1)) + 2) (rc S (3 * (w_n w - (m + 1))))) := qk_trans (qk_sI _ _ _ _ _ (kp_k _)) (qk_wS _ _ _ (kp_k _))
    obtain ⟨S2, j1, jk, j2⟩ := ih (by omega) _ ⟨(q.1 0 6 0 (kp_t (by decide) (by decide))).trans h0.1, hn⟩ (fun i hi => by rw [qk_rc q, q.1 _ _ _ (kp_f i)]; exact hr i hi) (fun i hi' => by
      by_cases e : i = w_n w - (m + 1)
      · subst e; rw [rc_wS]; exact (hr _ hi).1
      · rw [rc_wS_ne _ _ _ _ (by omega)]; exact hk i (by omega))
    refine ⟨S2, qk_trans q j1, jk, fun res h => ?_⟩
    refine ce_by tl_X11_image (fun kk => sg_X11_image_2 (nI (w_n w - (m + 1))) S kk) ?_
    simp only [if_neg h1, if_neg h6, e2, if_neg hin, k32_eq, k3_eq, t, Option.bind_some, q_add_eq, e1]
    exact ce_kk_of (j2 res h)
theorem c_image {w : sp_W} {S : ce_S} (hC : CR w S) : ∃ S', F_X11_image [.inr (.inl (0, 0))] S = some ((s_image w).1, S') ∧ CR (s_image w).2 S' ∧ mEq S S' := by
  obtain ⟨S1, j1, jk, j2⟩ := c_im2 (w := w) (w_n w) (Nat.le_refl _) S hC.1 hC.2.1 (fun i hi => absurd hi (by omega))
  rw [Nat.sub_self] at j2
  have t := f_sceneTake S1 2 0
  have q2 : qk S (ce_sR (ce_sI (ce_sI (ce_sI (ce_sI S1 12 0 2 (ce_I S1 12 0 0)) 12 1 2 (ce_I S1 12 1 0)) 12 2 2 (ce_I S1 12 2 0)) 12 3 2 (ce_I S1 12 3 0)) 12 4 2 (ce_R S1 12 4 0)) := qk_trans j1 (qk_trans (qk_trans (qk_trans (qk_trans (qk_sI _ _ _ _ _ kp_s) (qk_sI _ _ _ _ _ kp_s)) (qk_sI _ _ _ _ _ kp_s)) (qk_sI _ _ _ _ _ kp_s)) (qk_sR _ _ _ _ _ kp_s))
  obtain ⟨a1, a2, a3, a4, a5, a6⟩ := CR_qk hC j1
  obtain ⟨b1, b2, b3, b4, b5, b6⟩ := CR_qk hC q2
  have hm := c_many' (w := w) (S := ce_sI (ce_sR (ce_sI (ce_sI (ce_sI (ce_sI S1 12 0 2 (ce_I S1 12 0 0)) 12 1 2 (ce_I S1 12 1 0)) 12 2 2 (ce_I S1 12 2 0)) 12 3 2 (ce_I S1 12 3 0)) 12 4 2 (ce_R S1 12 4 0)) 0 13 0 (nI (w_n w))) (by rw [r_I_sI, if_pos rfl, if_neg (by decide)]; exact b1.1) b1.2 (fun i hi => by
    show sp_st (rc (ce_sR (ce_sI (ce_sI (ce_sI (ce_sI S1 12 0 2 (ce_I S1 12 0 0)) 12 1 2 (ce_I S1 12 1 0)) 12 2 2 (ce_I S1 12 2 0)) 12 3 2 (ce_I S1 12 3 0)) 12 4 2 (ce_R S1 12 4 0)) (3 * i)) = _
    rw [(b2 i hi).1]) 0
  refine ⟨_, fI_by tl_X11_image (gd_r rfl rfl) (fun kk => sg_X11_image_0 S kk) (ce_kk_of (j2 _ ?_)), ?_, mEq_trans (mEq_qk q2) (mEq_sI _ 0 13 0 (nI (w_n w)) (by decide))⟩
  · refine ce_by tl_X11_image (fun kk => sg_X11_image_2 (nI (w_n w)) S1 kk) ?_
    have h1 : ce_I S1 0 6 0 ≤ nI (w_n w) := by rw [a1.1]; exact Int32.le_refl _
    have e6 : ce_I (ce_sR (ce_sI (ce_sI (ce_sI (ce_sI S1 12 0 2 (ce_I S1 12 0 0)) 12 1 2 (ce_I S1 12 1 0)) 12 2 2 (ce_I S1 12 2 0)) 12 3 2 (ce_I S1 12 3 0)) 12 4 2 (ce_R S1 12 4 0)) 0 6 0 = nI (w_n w) := b1.1
    simp only [if_pos h1, t, Option.bind_some, e6, hm]
    rfl
  · obtain ⟨c1, c2, c3, c4, c5⟩ := a3
    obtain ⟨t1, t2, t3, t4, t5⟩ := b4
    refine ⟨⟨by rw [r_I_sI, if_pos rfl, if_neg (by decide)]; exact b1.1, b1.2⟩, b2, b3, ⟨by rw [r_I_sI, if_pos rfl, if_neg (by decide)]; exact t1, t2, t3, t4, t5⟩, b5, b6, fun e => (by cases e), ?_⟩
    intro m f c e
    cases e
    refine ⟨by rw [r_I_sI]; simp only [if_true], Nat.le_refl _, fun i hi => ?_, ?_, ?_, ?_, ?_, ?_, t3⟩
    · have hx := jk i hi
      show sp_sa (rc S1 (3 * i + 2)) = sp_sa (w_r w i) ∧ sp_cu (rc S1 (3 * i + 2)) = sp_cu (w_r w i) ∧ sp_st (rc S1 (3 * i + 2)) = sp_st (w_r w i) ∧ sp_pr (rc S1 (3 * i + 2)) = sp_pr (w_r w i)
      rw [hx]; exact ⟨rfl, rfl, rfl, rfl⟩
    all_goals simp only [r_I_sR, r_I_sA, r_I_sF, r_I_sQ, r_R_sI, r_R_sA, r_R_sF, r_R_sQ, r_A_sI, r_A_sR, r_A_sQ, r_L_sI, r_L_sR, r_L_sA, r_L_sF, r_L_sQ, r_C_sI, r_C_sR, r_C_sA, r_C_sF, r_C_sQ, r_Q_sI, r_Q_sR, r_Q_sA, r_Q_sF, r_I_sI, r_R_sR, r_A_sA, r_A_sF, r_Q_sQ, r_I_tA, r_R_tA, r_L_tA, r_C_tA, r_Q_tA, r_A_tA, reduceIte, Nat.reduceEqDiff]
    · exact c1
    · exact c2
    · exact c3
    · exact c4
    · exact c5
def w_mix (w : sp_W) (m : Nat) (f : Nat → sp_R) : sp_W := ((w_n w, fun i => if i < m then sp_talk (w_r w i) (f i) else w_r w i), w.2)
theorem CR_ext {w w' : sp_W} {S : ce_S} (hC : CR w S) (hn : w_n w' = w_n w) (h2 : w'.2 = w.2) (hr : ∀ i, i < w_n w → w_r w' i = w_r w i) : CR w' S := by
  obtain ⟨⟨n, r⟩, w2⟩ := w
  obtain ⟨⟨n', r'⟩, w2'⟩ := w'
  have hn : n' = n := hn
  have h2 : w2' = w2 := h2
  subst hn; subst h2
  obtain ⟨h0, h1, h3⟩ := hC
  refine ⟨h0, fun i hi => ?_, h3⟩
  have hri : r' i = r i := hr i hi
  show rc S (3 * i) = r' i ∧ ce_I S 11 1 (3 * i) = nI (sp_k (r' i))
  rw [hri]
  exact h1 i hi
theorem c_bk8 {w : sp_W} {M : Nat} {f : Nat → sp_R} {c : sp_C} (he : w_i w = some (M, f, c)) (hM : M ≤ w_n w) : ∀ m, m ≤ M → ∀ (S : ce_S), CR (w_mix w (M - m) f) S → ∃ S1, CR (w_mix w M f) S1 ∧ mEq S S1 ∧ ∀ res, ce_Ev tb_X11_back 8 (0, 0) [some (.inr (.inl (0, 0))), some (.inl (nI M))] [] S1 res → ce_Ev tb_X11_back 8 (0, 0) [some (.inr (.inl (0, 0))), some (.inl (nI (M - m)))] [] S res := by
  intro m
  induction m with
  | zero => intro _ S hC; exact ⟨S, hC, mEq_refl S, fun res h => h⟩
  | succ m ih =>
    intro hm S hC
    have hn : w_n w ≤ 6 := hC.1.2
    have hi : M - (m + 1) < w_n w := by omega
    have e2 : (nI (M - (m + 1))).toNatClampNeg = M - (m + 1) := nI_clamp (by omega)
    have hin : ¬ (nI (M - (m + 1)) < 0 ∨ 6 ≤ M - (m + 1)) := nJ_in (by omega) (by decide)
    obtain ⟨k1, k2, k3, _⟩ := hC.2.2.2.2.2.2.2 M f c he
    have h1 : ¬ ce_I S 0 13 0 ≤ nI (M - (m + 1)) := by rw [k1, nJ_le (by omega) (by omega)]; omega
    have h6 : ¬ (6 : Int32) ≤ nI (M - (m + 1)) := by rw [show (6 : Int32) = nI 6 from rfl, nJ_le (by omega) (by omega)]; omega
    have e1 : nI (M - (m + 1)) + 1 = nI (M - m) := by rw [nJ_succ, show M - (m + 1) + 1 = M - m by omega]
    have t := f_takeTalk S (3 * (M - (m + 1))) (3 * (M - (m + 1)) + 2)
    obtain ⟨g1, g2, g3, g4⟩ := k3 (M - (m + 1)) (by omega)
    have hrc : rc S (3 * (M - (m + 1))) = w_r w (M - (m + 1)) := by
      have := (hC.2.1 (M - (m + 1)) hi).1
      rw [this]
      show (if M - (m + 1) < M - (m + 1) then _ else _) = _
      rw [if_neg (Nat.lt_irrefl _)]
    rw [g1, g2, g3, g4, hrc] at t
    have hput := CR_put hC (M - (m + 1)) hi (sp_talk (w_r w (M - (m + 1))) (f (M - (m + 1)))) (by
      show sp_k (w_r w (M - (m + 1))) = sp_k (if M - (m + 1) < M - (m + 1) then sp_talk (w_r w (M - (m + 1))) (f (M - (m + 1))) else w_r w (M - (m + 1)))
      rw [if_neg (Nat.lt_irrefl _)])
    have hnext : CR (w_mix w (M - m) f) (wS S (3 * (M - (m + 1))) (sp_talk (w_r w (M - (m + 1))) (f (M - (m + 1))))) := by
      refine CR_ext hput rfl rfl (fun i hi' => ?_)
      show (if i < M - m then sp_talk (w_r w i) (f i) else w_r w i) = (if i = M - (m + 1) then sp_talk (w_r w (M - (m + 1))) (f (M - (m + 1))) else if i < M - (m + 1) then sp_talk (w_r w i) (f i) else w_r w i)
      by_cases e : i = M - (m + 1)
      · subst e; rw [if_pos rfl, if_pos (by omega)]
      · rw [if_neg e]
        by_cases e3 : i < M - (m + 1)
        · rw [if_pos e3, if_pos (by omega)]
        · rw [if_neg e3, if_neg (by omega)]
    obtain ⟨S2, j1, jm, j2⟩ := ih (by omega) _ hnext
    refine ⟨S2, j1, mEq_trans (mEq_wS _ _ _) jm, fun res h => ?_⟩
    refine ce_by tl_X11_back (fun kk => sg_X11_back_8 (nI (M - (m + 1))) S kk) ?_
    simp only [if_neg h1, if_neg h6, e2, if_neg hin, k32_eq, k3_eq, q_add_eq, e1]
    rw [show F_X5_takeTalk [.inr (.inl (11, 3 * (M - (m + 1)))), .inr (.inl (11, 3 * (M - (m + 1)) + 2))] S = some (wS S (3 * (M - (m + 1))) (sp_talk (w_r w (M - (m + 1))) (f (M - (m + 1))))) from t]
    simp only [Option.bind_some]
    exact ce_kk_of (j2 res h)
theorem c_back {w : sp_W} {S : ce_S} (hC : CR w S) : ∃ S', F_X11_back [.inr (.inl (0, 0))] S = some ((s_back w).1, S') ∧ CR (s_back w).2 S' ∧ mEq S S' := by
  unfold s_back
  cases he : w_i w with
  | none =>
    refine ⟨S, fI_by tl_X11_back (gd_r rfl rfl) (fun kk => sg_X11_back_0 S kk) ?_, hC, mEq_refl S⟩
    simp only [if_pos (hC.2.2.2.2.2.2.1 he)]
  | some v =>
    obtain ⟨M, f, c⟩ := v
    obtain ⟨k1, k2, k3, k4, k5, k6, k7, k8, k9⟩ := hC.2.2.2.2.2.2.2 M f c he
    have hM : w_n w ≤ 6 := hC.1.2
    have hC0 : CR (w_mix w (M - M) f) S := CR_ext hC rfl rfl (fun i hi => by
      show (if i < M - M then _ else _) = _
      rw [if_neg (by omega)])
    obtain ⟨S1, j1, jm, j2⟩ := c_bk8 he k2 M (Nat.le_refl _) S hC0
    rw [Nat.sub_self] at j2
    obtain ⟨l1, l2, l3, l4, l5, l6, l7, l8, l9⟩ := j1.2.2.2.2.2.2.2 M f c he
    have t := f_sceneTake S1 0 2
    rw [l4, l5, l6, l7, l8] at t
    have hfin := CR_sc j1 c (show c.1 < w_nt (w_mix w M f) from k9)
    refine ⟨_, fI_by tl_X11_back (gd_r rfl rfl) (fun kk => sg_X11_back_0 S kk) ?_, hfin, mEq_trans jm (mEq_sc _ _ _ _ _ _ _)⟩
    have hne : ¬ ce_I S 0 13 0 = -1 := by rw [k1]; exact nI_ne _ (by omega)
    simp only [if_neg hne]
    refine ce_kk_of (j2 _ ?_)
    refine ce_by tl_X11_back (fun kk => sg_X11_back_8 (nI M) S1 kk) ?_
    have h1 : ce_I S1 0 13 0 ≤ nI M := by rw [l1]; exact Int32.le_refl _
    simp only [if_pos h1, t, Option.bind_some, c_many hfin 0]
    rfl
