/-! text(), as the reference does it -/
def s_text (w : sp_W) : Int32 × sp_W := if w_nt w = 6 then (-4, w) else (match p_text (x_toks (w_p w)) with
  | (T, none) => (-100 - nI (plc (w_p w) T), w_setp w [])
  | (_, some t) => (nI (w_nt w), w_addt w t))
theorem mtq_refl (nt : Nat) (S : ce_S) : mtq nt S S := ⟨fun _ _ _ _ => rfl, rfl, fun _ _ _ _ => rfl, fun _ _ => rfl, fun _ _ => rfl, rfl⟩
theorem cEq_mtq {nt : Nat} {S S' : ce_S} (h : mtq nt S S') : cEq S S' := ⟨fun t q => ⟨funext fun k => funext fun i => h.1 t k i (fun z => by omega), by rw [h.2.1], h.2.2.1 t (by omega) (by omega) (by omega), by unfold ce_L; rw [h.2.2.2.2.2], by unfold ce_C; rw [h.2.2.2.2.2]⟩, by unfold ce_Q; rw [h.2.2.2.2.2]⟩
theorem MT_mrow {nt : Nat} {S S' : ce_S} (h : mtq nt S S') {r : Nat} (hr : r < 3 * nt) {c : List Int32} (g : m_row S r c) : m_row S' r c := by
  obtain ⟨g1, g2, g3, g4⟩ := g
  exact ⟨(h.2.2.2.1 r hr).trans g1, g2, g3, fun e he => (h.2.2.2.2.1 _ (by omega)).trans (g4 e he)⟩
theorem MR_emp {w : sp_W} {S S' : ce_S} (hR : MR w S) (h : mtq (w_nt w) S S') : MR (w_setp w []) (ce_sI S' 20 18 0 0) ∧ cEq S (ce_sI S' 20 18 0 0) := by
  obtain ⟨⟨hn, ⟨c1, c2, c3, c4, c5⟩, ⟨t1, t2, t3, t4⟩, ⟨p1, p2, p3⟩, hh, ⟨i1, i2⟩, hw⟩, hs⟩ := hR
  have hI : ∀ k, k ≠ 18 → ¬ (20 ≤ k ∧ k ≤ 26) → ce_I (ce_sI S' 20 18 0 0) 20 k 0 = ce_I S 20 k 0 := fun k h1 h2 => by
    rw [r_I_sI, if_pos rfl, if_neg h1]; exact h.1 20 k 0 (fun z => h2 z.2)
  have hA : ∀ t, t ≠ 29 → t ≠ 30 → t ≠ 31 → ce_A (ce_sI S' 20 18 0 0) t = ce_A S t := fun t h1 h2 h3 => h.2.2.1 t h1 h2 h3
  refine ⟨⟨⟨⟨(hI 7 (by decide) (by decide)).trans hn.1, hn.2⟩, ⟨(hI 8 (by decide) (by decide)).trans c1, (hI 9 (by decide) (by decide)).trans c2, (hI 10 (by decide) (by decide)).trans c3, (hI 11 (by decide) (by decide)).trans c4, c5⟩, ⟨(hI 19 (by decide) (by decide)).trans t1, t2, t3, fun k hk => ?_⟩, ⟨?_, Nat.zero_le _, fun e he => absurd he (Nat.not_lt_zero _)⟩, fun i hi => ?_, ⟨fun e => (hI 33 (by decide) (by decide)).trans (i1 e), fun m f c e => ?_⟩, fun k hk => ?_⟩, fun i hi => ?_⟩, cEq_trans (cEq_mtq h) (cEq_sI _ _ _ _ _ (by decide))⟩
  · obtain ⟨g1, g2, g3⟩ := t4 k hk
    have hk : k < w_nt w := hk
    exact ⟨MT_mrow h (by omega) g1, MT_mrow h (by omega) g2, MT_mrow h (by omega) g3⟩
  · rw [r_I_sI, if_pos rfl, if_pos rfl, if_pos rfl]; rfl
  · rw [hA 34 (by decide) (by decide) (by decide), hA 35 (by decide) (by decide) (by decide), hA 36 (by decide) (by decide) (by decide)]; exact hh i hi
  · obtain ⟨a1, a2, a3, a4, a5, a6, a7, a8, a9⟩ := i2 m f c e
    refine ⟨(hI 33 (by decide) (by decide)).trans a1, (hI 28 (by decide) (by decide)).trans a2, a3, fun i hi => ?_, (hI 29 (by decide) (by decide)).trans a5, (hI 30 (by decide) (by decide)).trans a6, (hI 31 (by decide) (by decide)).trans a7, (hI 32 (by decide) (by decide)).trans a8, a9⟩
    have := a4 i hi
    unfold kpt at this ⊢
    rw [hA 33 (by decide) (by decide) (by decide)]; exact this
  · rw [hA 41 (by decide) (by decide) (by decide), show ce_L (ce_sI S' 20 18 0 0) = ce_L S from by show ce_L S' = ce_L S; unfold ce_L; rw [h.2.2.2.2.2]]; exact hw k hk
  · obtain ⟨g1, g2⟩ := hs i hi
    refine ⟨?_, g2⟩
    unfold mr at g1 ⊢
    rw [hA 21 (by decide) (by decide) (by decide), hA 22 (by decide) (by decide) (by decide), hA 23 (by decide) (by decide) (by decide), hA 24 (by decide) (by decide) (by decide), hA 25 (by decide) (by decide) (by decide), hA 26 (by decide) (by decide) (by decide), hA 27 (by decide) (by decide) (by decide)]
    exact g1
theorem MR_addt {w : sp_W} {S S' : ce_S} (hR : MR w S) (h : mtq (w_nt w) S S') (h6 : w_nt w < 6) {t : sp_T} (h1 : m_row S' (3 * w_nt w) t.1) (h2 : m_row S' (3 * w_nt w + 1) t.2.1) (h3 : m_row S' (3 * w_nt w + 2) t.2.2) : MR (w_addt w t) (ce_sI (ce_sI S' 20 18 0 0) 20 19 0 (nI (w_nt w + 1))) ∧ cEq S (ce_sI (ce_sI S' 20 18 0 0) 20 19 0 (nI (w_nt w + 1))) := by
  obtain ⟨q1, q2⟩ := MR_emp hR h
  refine ⟨?_, cEq_trans q2 (cEq_sI _ _ _ _ _ (by decide))⟩
  obtain ⟨⟨hn, ⟨c1, c2, c3, c4, c5⟩, ⟨t1, t2, t3, t4⟩, ⟨p1, p2, p3⟩, hh, ⟨i1, i2⟩, hw⟩, hs⟩ := q1
  have hI : ∀ k, k ≠ 19 → ce_I (ce_sI (ce_sI S' 20 18 0 0) 20 19 0 (nI (w_nt w + 1))) 20 k 0 = ce_I (ce_sI S' 20 18 0 0) 20 k 0 := fun k h1 => by
    rw [r_I_sI, if_pos rfl, if_neg h1]
  refine ⟨⟨⟨(hI 7 (by decide)).trans hn.1, hn.2⟩, ⟨(hI 8 (by decide)).trans c1, (hI 9 (by decide)).trans c2, (hI 10 (by decide)).trans c3, (hI 11 (by decide)).trans c4, c5⟩, ⟨?_, (show w_nt w + 1 ≤ 6 from h6), (show w_ru w < w_nt w + 1 from Nat.lt_succ_of_lt t3), fun k hk => ?_⟩, ⟨(hI 18 (by decide)).trans p1, p2, p3⟩, hh, ⟨fun e => (hI 33 (by decide)).trans (i1 e), fun m f c e => ?_⟩, hw⟩, hs⟩
  · rw [r_I_sI, if_pos rfl, if_pos rfl, if_pos rfl]; rfl
  · have hk : k < w_nt w + 1 := hk
    show m_row _ (3 * k) (if k = w_nt w then t else w_tx w k).1 ∧ m_row _ (3 * k + 1) (if k = w_nt w then t else w_tx w k).2.1 ∧ m_row _ (3 * k + 2) (if k = w_nt w then t else w_tx w k).2.2
    by_cases e : k = w_nt w
    · subst e
      rw [if_pos rfl]; exact ⟨h1, h2, h3⟩
    · rw [if_neg e]; exact t4 k (by show k < w_nt w; omega)
  · obtain ⟨a1, a2, a3, a4, a5, a6, a7, a8, a9⟩ := i2 m f c e
    exact ⟨(hI 33 (by decide)).trans a1, (hI 28 (by decide)).trans a2, a3, a4, (hI 29 (by decide)).trans a5, (hI 30 (by decide)).trans a6, (hI 31 (by decide)).trans a7, (hI 32 (by decide)).trans a8, (show c.1 < w_nt w + 1 from Nat.lt_succ_of_lt a9.1), a9.2⟩
theorem m_text {w : sp_W} {S : ce_S} (hR : MR w S) : ∃ S', F_X12_text [.inr (.inl (20, 0))] S = some ((s_text w).1, S') ∧ MR (s_text w).2 S' ∧ cEq S S' := by
  have hp := hR.1.2.2.2.1
  have hw := hR.1.2.2.2.2.2.2
  have ht := hR.1.2.2.1
  have hn := hp.2.1
  unfold s_text
  by_cases h6 : w_nt w = 6
  · rw [if_pos h6]
    refine ⟨S, fI_by tl_X12_text (gd_r rfl rfl) (fun kk => sg_X12_text_0 S kk) ?_, hR, cEq_refl S⟩
    rw [ht.1, h6, if_pos (show nI 6 = 6 from rfl)]
  rw [if_neg h6]
  have h6' : w_nt w < 6 := by have := ht.2.1; omega
  have h6i : ¬ nI (w_nt w) = 6 := by rw [show (6 : Int32) = nI 6 from rfl, nJ_inj (by omega) (by omega)]; exact h6
  have hL : mTL (w_p w) (ce_sI S 20 20 0 0) := mTL_mtq (nt := w_nt w) (S := S) ⟨⟨hp.1, hp.2.1, hp.2.2⟩, hw⟩ (mtq_sI _ _ 20 _ (by decide))
  obtain ⟨S1, a1, a2, a3⟩ := m_reads hL (q := 0) (by rw [r_I_sI, if_pos rfl, if_pos rfl, if_pos rfl]; rfl) (Nat.zero_le _)
  rw [List.drop_zero] at a3
  have hq1 : mtq (w_nt w) S S1 := mtq_trans (mtq_sI _ _ 20 _ (by decide)) (mtq_mdq a2)
  have hT0 : MTT (w_p w) (x_toks (w_p w)) S1 := ⟨a3, x_toks_ok _, x_all_tc _ _⟩
  have hlen := (x_toks_len (w_p w)).1
  have start : ∀ b S', ce_Ev tb_X12_text 15 (0, 0) [some m20, some (.inl 1), some (.inl (nI 0))] [] S1 (some (.inl b), S') → F_X12_text [m20] S = some (b, S') := fun b S' h => by
    refine fI_by tl_X12_text (gd_r rfl rfl) (fun kk => sg_X12_text_0 S kk) ?_
    rw [ht.1, if_neg h6i, a1]
    simp only [Option.bind_some]
    exact ce_kk_of h
  have bad : ∀ j S' T2, mtq (w_nt w) S S' → ce_I S' 20 22 0 = nI (plc (w_p w) T2) → ce_Ev tb_X12_text 15 (0, 0) [some m20, some (.inl 0), some (.inl (nI (j + 1)))] [] S' (some (.inl (-100 - nI (plc (w_p w) T2))), ce_sI S' 20 18 0 0) ∧ MR (w_setp w []) (ce_sI S' 20 18 0 0) ∧ cEq S (ce_sI S' 20 18 0 0) := fun j S' T2 hq h22 => by
    have := f_bad S' (nI (j + 1))
    rw [h22, q_sub_eq] at this
    exact ⟨this, MR_emp hR hq⟩
  have hg : ∀ S', mtq (w_nt w) S S' → mTL (w_p w) S' ∧ ce_I S' 20 19 0 = nI (w_nt w) := fun S' hq => ⟨mTL_mtq ⟨⟨hp.1, hp.2.1, hp.2.2⟩, hw⟩ hq, (hq.1 20 19 0 (by omega)).trans ht.1⟩
  have n0 : ¬ (none : Option (List Int32)).isSome = true := by decide
  -- the first part
  obtain ⟨S2, b1, _, b2, _, b3⟩ := m_part (j := 0) h6' (by decide) (hg S1 hq1).1 (hg S1 hq1).2 hT0 (by omega)
  have hq2 := mtq_trans hq1 b2
  unfold p_text
  rw [show (2 : Int32) + nI 0 = 2 from rfl] at b1 b3
  rcases p_res (p_part 2 (x_toks (w_p w))) with ⟨T1, e1⟩ | ⟨T1, ca, e1⟩
  · rw [e1] at b1 b3 ⊢
    obtain ⟨c1, c2⟩ := bad 0 S2 T1 hq2 b3.1
    exact ⟨_, start _ _ (b1 _ ⟨0, c1, ⟨fun z => absurd z (by decide), fun z => absurd z n0⟩, Or.inl rfl⟩), c2⟩
  rw [e1] at b1 b3 ⊢
  simp only at b1 b3 ⊢
  obtain ⟨k1, k2, k3, k4⟩ := p_part_ok hT0.2.1 e1
  -- the second
  obtain ⟨S3, d1, _, d2, d4, d3⟩ := m_part (j := 1) h6' (by decide) (hg S2 hq2).1 (hg S2 hq2).2 b3.1 (by omega)
  have hq3 := mtq_trans hq2 d2
  rw [show (2 : Int32) + nI 1 = 3 from rfl] at d1 d3
  have u1 : ∀ res, ce_Ev tb_X12_text 15 (0, 0) [some m20, some (.inl 1), some (.inl (nI 1))] [] S2 res → ce_Ev tb_X12_text 15 (0, 0) [some m20, some (.inl 1), some (.inl (nI 0))] [] S1 res := fun res h => b1 res ⟨1, h, ⟨fun _ => rfl, fun _ => rfl⟩, Or.inr rfl⟩
  rcases p_res (p_part 3 T1) with ⟨T2, e2⟩ | ⟨T2, cb, e2⟩
  · rw [e2] at d1 d3 ⊢
    obtain ⟨c1, c2⟩ := bad 1 S3 T2 hq3 d3.1
    exact ⟨_, start _ _ (u1 _ (d1 _ ⟨0, c1, ⟨fun z => absurd z (by decide), fun z => absurd z n0⟩, Or.inl rfl⟩)), c2⟩
  rw [e2] at d1 d3 ⊢
  simp only at d1 d3 ⊢
  obtain ⟨l1, l2, l3, l4⟩ := p_part_ok k1 e2
  -- the third
  obtain ⟨S4, f1, _, f2, f4, f3⟩ := m_part (j := 2) h6' (by decide) (hg S3 hq3).1 (hg S3 hq3).2 d3.1 (by omega)
  have hq4 := mtq_trans hq3 f2
  rw [show (2 : Int32) + nI 2 = 4 from rfl] at f1 f3
  have u2 : ∀ res, ce_Ev tb_X12_text 15 (0, 0) [some m20, some (.inl 1), some (.inl (nI 2))] [] S3 res → ce_Ev tb_X12_text 15 (0, 0) [some m20, some (.inl 1), some (.inl (nI 0))] [] S1 res := fun res h => u1 res (d1 res ⟨1, h, ⟨fun _ => rfl, fun _ => rfl⟩, Or.inr rfl⟩)
  rcases p_res (p_part 4 T2) with ⟨T3, e3⟩ | ⟨T3, cc, e3⟩
  · rw [e3] at f1 f3 ⊢
    obtain ⟨c1, c2⟩ := bad 2 S4 T3 hq4 f3.1
    exact ⟨_, start _ _ (u2 _ (f1 _ ⟨0, c1, ⟨fun z => absurd z (by decide), fun z => absurd z n0⟩, Or.inl rfl⟩)), c2⟩
  rw [e3] at f1 f3 ⊢
  simp only at f1 f3 ⊢
  obtain ⟨m1, m2, m3, m4⟩ := p_part_ok l1 e3
  have u3 : ∀ res, ce_Ev tb_X12_text 15 (0, 0) [some m20, some (.inl 1), some (.inl (nI 3))] [] S4 res → ce_Ev tb_X12_text 15 (0, 0) [some m20, some (.inl 1), some (.inl (nI 0))] [] S1 res := fun res h => u2 res (f1 res ⟨1, h, ⟨fun _ => rfl, fun _ => rfl⟩, Or.inr rfl⟩)
  obtain ⟨⟨⟨v, r', q, g1, g2, g3, g4, g5, g6, g7, g8, g9, g10⟩, gk, gt⟩, grow⟩ := f3
  subst g2
  have hvt := gt v List.mem_cons_self
  have hend : ∀ x ∈ tcs, (mS x = 103 ↔ x = 0) := by decide
  have he := hend v.1 hvt
  by_cases hv : v.1 = 0
  · rw [if_pos (show tk_h (v :: r') = 0 from hv)]
    have ra : rowis S4 (3 * w_nt w) ca := f4 0 ca (by decide) (by omega) (d4 0 ca (by decide) (by omega) b3.2)
    have rb : rowis S4 (3 * w_nt w + 1) cb := f4 1 cb (by decide) (by omega) d3.2
    have hfin := MR_addt hR hq4 h6' (t := (ca, cb, cc)) ⟨ra.1, by show ca.length ≤ 160; omega, k4, ra.2⟩ ⟨rb.1, by show cb.length ≤ 160; omega, l4, rb.2⟩ ⟨grow.1, by show cc.length ≤ 160; omega, m4, grow.2⟩
    refine ⟨_, start _ _ (u3 _ (ce_by tl_X12_text (fun kk => sg_X12_text_15 1 (nI 3) S4 kk) ?_)), hfin⟩
    rw [if_pos (show (3 : Int32) ≤ nI 3 by decide), if_neg (show ¬ (1 : Int32) = 0 by decide), g4, if_pos (he.mpr hv), (hg S4 hq4).2, q_add_eq, q_sub_eq, nJ_succ, show (1 : Int32) = nI 1 from rfl, nK_sub (by omega), Nat.add_sub_cancel]
  · rw [if_neg (show ¬ tk_h (v :: r') = 0 from hv)]
    have hq := MR_emp hR hq4
    refine ⟨_, start _ _ (u3 _ (ce_by tl_X12_text (fun kk => sg_X12_text_15 1 (nI 3) S4 kk) ?_)), hq⟩
    rw [if_pos (show (3 : Int32) ≤ nI 3 by decide), if_neg (show ¬ (1 : Int32) = 0 by decide), g4, if_neg (fun z => hv (he.mp z)), g8, q_sub_eq]
    rfl
