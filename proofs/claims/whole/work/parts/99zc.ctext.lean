/-! text(), as the component does it -/
theorem cds_is {f : Nat → Int32} : ∀ (l : List Int32) (a : Nat), (∀ e, e < l.length → f (a + e) = l.getD e 0) → cds f a l.length = l
  | [], _, _ => rfl
  | x :: l, a, h => by
    rw [List.length_cons, cds_succ, cds_is l (a + 1) (fun e he => by
      have := h (e + 1) (by rw [List.length_cons]; omega)
      rw [show a + 1 + e = a + (e + 1) by omega, this]
      rfl)]
    have := h 0 (by rw [List.length_cons]; omega)
    rw [Nat.add_zero] at this
    rw [this]
    rfl
theorem getD_l {x y : List Int32} {e : Nat} (h : e < x.length) : (x ++ y).getD e 0 = x.getD e 0 := by
  simp only [List.getD_eq_getElem?_getD]
  rw [List.getElem?_append_left h]
theorem getD_r {x y : List Int32} {e : Nat} : (x ++ y).getD (x.length + e) 0 = y.getD e 0 := by
  simp only [List.getD_eq_getElem?_getD]
  rw [List.getElem?_append_right (by omega), show x.length + e - x.length = e by omega]
/-- what reading and making leave -/
theorem CR_tx {w : sp_W} {S S' : ce_S} {T : Nat × (Nat → sp_T)} (hC : CR w S) (hI : ∀ t k j, (t = 0 ∧ k ≠ 7) ∨ t = 11 ∨ t = 12 ∨ t = 15 → ce_I S' t k j = ce_I S t k j) (hR : ∀ t k j, t = 11 ∨ t = 12 → ce_R S' t k j = ce_R S t k j) (hA : ∀ j e, ce_A S' 16 j e = ce_A S 16 j e) (h70 : ce_I S' 7 0 0 = 0) (hn : w_nt w ≤ T.1) (hT : CRt (w.1, w.2.1, T, [], w.2.2.2.2) S') : CR (w.1, w.2.1, T, [], w.2.2.2.2) S' := by
  obtain ⟨⟨n1, n2⟩, hr, ⟨c1, c2, c3, c4, c5⟩, -, -, hh, ⟨i1, i2⟩⟩ := hC
  have g11 : ∀ k j, ce_I S' 11 k j = ce_I S 11 k j := fun k j => hI 11 k j (by omega)
  have r11 : ∀ k j, ce_R S' 11 k j = ce_R S 11 k j := fun k j => hR 11 k j (by omega)
  have hrc : ∀ j, rc S' j = rc S j := fun j => by
    unfold rc
    simp only [g11, r11]
  have g12 : ∀ k j, ce_I S' 12 k j = ce_I S 12 k j := fun k j => hI 12 k j (by omega)
  have r12 : ∀ k j, ce_R S' 12 k j = ce_R S 12 k j := fun k j => hR 12 k j (by omega)
  have g15 : ∀ k j, ce_I S' 15 k j = ce_I S 15 k j := fun k j => hI 15 k j (by omega)
  refine ⟨⟨(hI 0 6 0 (by omega)).trans n1, n2⟩, fun i hi => ?_, ⟨(g12 _ _).trans c1, (g12 _ _).trans c2, (g12 _ _).trans c3, (g12 _ _).trans c4, (r12 _ _).trans c5⟩, hT, ⟨h70, Nat.zero_le _, fun e he => absurd he (Nat.not_lt_zero _)⟩, fun i hi => ?_, fun e => (hI 0 13 0 (by omega)).trans (i1 e), fun m r c e => ?_⟩
  · rw [hrc, g11]
    exact hr i hi
  · obtain ⟨a1, a2, a3, a4⟩ := hh i hi
    exact ⟨(g15 _ _).trans a1, (g15 _ _).trans a2, a3, fun e he => (hA i e).trans (a4 e he)⟩
  · obtain ⟨a1, a2, a3, a4, a5, a6, a7, a8, a9⟩ := i2 m r c e
    refine ⟨(hI 0 13 0 (by omega)).trans a1, a2, fun i hi => ?_, (g12 _ _).trans a4, (g12 _ _).trans a5, (g12 _ _).trans a6, (g12 _ _).trans a7, (r12 _ _).trans a8, Nat.lt_of_lt_of_le a9 hn⟩
    rw [hrc]
    exact a3 i hi
theorem kPt_of {t : Nat} (h : kPt t = true) : t = 7 ∨ t = 8 ∨ t = 9 ∨ t = 61 ∨ t = 62 := by
  unfold kPt at h
  simp only [Bool.or_eq_true, decide_eq_true_eq] at h
  omega
theorem fk7 {k : Nat} {q : Nat × (Nat → Nat)} (h : ce_fk 7 k = .inr (.inl q)) : (q.1 = 8 ∨ q.1 = 9) ∧ ∀ i, q.2 i = 0 := by
  match k, h with
  | 1, h => cases h; exact ⟨Or.inl rfl, fun _ => rfl⟩
  | 2, h => cases h; exact ⟨Or.inr rfl, fun _ => rfl⟩
theorem fk7' {k t' : Nat} (h : ce_fk 7 k = .inr (.inr t')) : False := by
  match k, h with
  | 1, h => cases h
  | 2, h => cases h
/-- a reading, on a part of the cells -/
theorem kpreT {c : Nat → Nat} {l : List (Nat × Nat × Nat)} {S S1 : ce_S} {as : List ce_V} (hK : KN c l S) (hl : ∀ q ∈ l, kPt q.1 = false) (h7 : c 7 = 1) (h8 : c 8 = 1) (h9 : c 9 = 1) (ha : ∀ v ∈ as, ∃ x, v = .inl x) (hI : ∀ t k i, t ≠ 7 → ce_I S1 t k i = ce_I S t k i) (hR : ce_R S1 = ce_R S) (hA : ∀ t, t ≠ 8 → t ≠ 9 → ce_A S1 t = ce_A S t) (hE : S1.2.2.2 = (ksub S kPt).2.2.2) : kpre kPt S S1 (.inr (.inl (7, 0)) :: as) := by
  have hC : ∀ t, kPt t = true → ce_C (ksub S kPt) t = ce_C S t := fun t h => by
    show (if kPt t = true then ce_C S t else 0) = _
    rw [if_pos h]
  have C1 : ∀ t, t = 7 ∨ t = 8 ∨ t = 9 → ce_C (ksub S kPt) t = 1 := fun t h => by
    rcases h with e | e | e
    · subst e; rw [hC 7 rfl, hK.1, h7]
    · subst e; rw [hC 8 rfl, hK.1, h8]
    · subst e; rw [hC 9 rfl, hK.1, h9]
  have h00 : (7, 0).2 < ce_C (ksub S kPt) (7, 0).1 := by rw [C1 7 (Or.inl rfl)]; exact Nat.one_pos
  have hf : kfullP S kPt (ce_C S) := fun t k i hP hi => hK.2 t k i (fun z => by
    have := hl _ z
    rw [this] at hP
    cases hP)
  refine ⟨hf, ⟨fun t k i hi ht => ?_, fun t i e x hi ht => ?_⟩, fun v hv => ?_, ⟨rfl, rfl⟩, fun t => ?_, fun t i hP ht hi => ?_, fun t k i hP hi => ?_⟩
  · have hP := (ksub_C hi).1
    have ht7 : t = 7 := by
      rcases kPt_of hP with e | e | e | e | e
      · exact e
      · subst e; cases ht
      · subst e; cases ht
      · subst e; cases ht
      · subst e; cases ht
    subst ht7
    refine ⟨fun q hq => ?_, fun t' hq => absurd hq (fun z => fk7' z)⟩
    obtain ⟨q1, q2⟩ := fk7 hq
    rw [q2, C1 q.1 (by omega)]
    exact Nat.one_pos
  · have hP := (ksub_C hi).1
    rcases kPt_of hP with e | e | e | e | e <;> (subst e; cases ht)
  · rcases List.mem_cons.mp hv with e | hv
    · subst e; exact h00
    · obtain ⟨x, e⟩ := ha v hv
      subst e; exact trivial
  · show S1.2.2.2.2.1 t = _
    rw [hE]; rfl
  · have n7 : t ≠ 7 := fun e => hP (by rw [e]; rfl)
    have n8 : t ≠ 8 := fun e => hP (by rw [e]; rfl)
    have n9 : t ≠ 9 := fun e => hP (by rw [e]; rfl)
    refine ⟨fun k => hI t k i n7, fun k => by rw [hR], fun k => by rw [hR], fun e => by rw [hA t n8 n9], ?_, fun _ e => ?_⟩
    · show S1.2.2.2.1 t i = _
      rw [hE]; rfl
    · unfold ce_el
      rw [show ce_Q S1 = ce_Q S from by unfold ce_Q; rw [hE]; rfl]
  · rw [hR]
    exact hf t k i hP hi
def wX (j t i : Nat) : Prop := wT j t i ∨ t = 5 ∨ t = 0
theorem KW.le {W W' : Nat → Nat → Prop} {S0 : ce_S} {c : Nat → Nat} {l : List (Nat × Nat × Nat)} {S : ce_S} (h : KW W S0 c l S) (hW : ∀ t j, W t j → W' t j) : KW W' S0 c l S := ⟨h.1, h.2.le hW⟩
theorem KW.tr {W : Nat → Nat → Prop} {S0 S1 : ce_S} {c : Nat → Nat} {l : List (Nat × Nat × Nat)} {S : ce_S} (h : kg W S0 S1) (g : KW W S1 c l S) : KW W S0 c l S := ⟨g.1, h.tr g.2⟩
set_option maxRecDepth 20000 in
set_option maxHeartbeats 1000000 in
theorem c_text {w : sp_W} {S : ce_S} (hC : CR w S) (hf : kfu S) (h0 : ce_C S 0 = 1) (h5 : ce_C S 5 = 1) (h7 : ce_C S 7 = 1) (h8 : ce_C S 8 = 1) (h9 : ce_C S 9 = 1) : ∃ S', F_X11_text [.inr (.inl (0, 0))] S = some ((s_text w).1, S') ∧ CR (s_text w).2 S' ∧ mE2 S S' ∧ kfu S' ∧ ∀ t, t ≠ 13 → t ≠ 14 → t ≠ 17 → ce_C S' t = ce_C S t := by
  have hK : KN (ce_C S) [] S := ⟨fun _ => rfl, fun t k j _ => hf t k j⟩
  have ht := hC.2.2.2.1
  have hn7 := ht.1
  have hnt := ht.2.1
  have key : ∃ v S', F_X11_text [.inr (.inl (0, 0))] S = some (v, S') ∧ v = (s_text w).1 ∧ CR (s_text w).2 S' ∧ mE2 S S' ∧ kfu S' ∧ ∀ t, t ≠ 13 → t ≠ 14 → t ≠ 17 → ce_C S' t = ce_C S t := by
    refine fI_jg tl_X11_text (gd_r rfl rfl) ?_
    refine jg_sg tl_X11_text 4 (i' := 3) (fun kk => rfl) ?_
    rw [hn7]
    unfold s_text
    by_cases h6 : w_nt w = 6
    · rw [if_pos h6]
      refine jg_cmplt_f (i' := 4) rfl rfl (by rw [h6]; decide) ?_
      refine jg_sg tl_X11_text 2 (i' := 5) (fun kk => rfl) ?_
      exact jg_end (x := some (.inl (-4))) (fun k => rfl) ⟨-4, rfl, rfl, hC, fun t _ _ => ⟨rfl, rfl, rfl, rfl, rfl⟩, hf, fun _ _ _ _ => rfl⟩
    rw [if_neg h6]
    have h6' : w_nt w < 6 := by omega
    refine jg_cmplt_t (t := 6) rfl (by rw [show (6 : Int32) = nI 6 from rfl, nJ_lt (by omega) (by omega)]; exact h6') ?_
    refine jg_sg tl_X11_text 2 (i' := 7) (fun kk => rfl) ?_
    refine jg_getS (i' := 8) (t := 0) (f := 4) (t' := 7) (g0 := fun _ => 0) (j := 0) (r := 0) (W := wX (w_nt w)) (KW.rf hK) rfl rfl (fun z => by cases z) (by rw [h0]; exact Nat.one_pos) rfl ?_
    obtain ⟨x, S1, r1, r2, r3, r4⟩ := t_read (p := w_p w) (S := ksub S kPt) hC.2.2.2.2.1
    obtain ⟨X, hX⟩ : ∃ X, X = kjoin S S1 := ⟨_, rfl⟩
    have xI : ∀ t k j, t ≠ 7 → ce_I X t k j = ce_I S t k j := fun t k j q => by rw [hX]; exact r2.1 t k j q
    have xR : ∀ t k j, ce_R X t k j = ce_R S t k j := fun t k j => by rw [hX]; show ce_R S1 t k j = _; rw [r2.2.1]; rfl
    have xA : ∀ t, t ≠ 9 → ce_A X t = ce_A S t := fun t q => by rw [hX]; exact r2.2.2.1 t q
    have xL : ∀ t j, ce_L X t j = ce_L S t j := fun t j => by rw [hX]; show S1.2.2.2.1 t j = _; rw [r2.2.2.2]; rfl
    have xQ : ∀ e, ce_Q X e = ce_Q S e := fun e => by rw [hX]; show S1.2.2.2.2.2 e = _; rw [r2.2.2.2]; rfl
    have xC : ∀ t, ce_C X t = ce_C S t := fun t => by rw [hX]; rfl
    have x7 : ce_I X 7 0 0 = 0 := by rw [hX]; exact r3
    have hKX : KN (ce_C S) [] X := hK.same xC (fun t k j => xR _ k j)
    refine jg_kp (i' := 9) (P := kPt) (n := 1) (F := ce_wI F_X9_read) (a := [.inr (.inl (7, 0))]) (rest := []) (st' := [.inl x]) (r := some (.inl x)) (S1 := S1) (S2 := X) rfl rfl rfl rfl (by unfold ce_wI; rw [r1]; rfl) ⟨Nat.zero_le _, Nat.le_refl _⟩ (kpreT hK (fun q hq => by cases hq) h7 h8 h9 (fun v hv => by cases hv) (fun t k i q => r2.1 t k i q) (by rw [r2.2.1]; rfl) (fun t q q2 => r2.2.2.1 t q2) r2.2.2.2) rfl hX.symm ?_
    refine jg_sg tl_X11_text 4 (i' := 12) (fun kk => rfl) ?_
    have hmE : ∀ S', (∀ t j, 20 ≤ t → t < 100 → (∀ k, ce_I S' t k j = ce_I X t k j) ∧ (∀ k, ce_R S' t k j = ce_R X t k j) ∧ (∀ e, ce_A S' t j e = ce_A X t j e) ∧ ce_L S' t j = ce_L X t j) → (∀ t, 20 ≤ t → ce_C S' t = ce_C X t) → mE2 S S' := fun S' g1 g2 t q1 q2 => ⟨funext fun k => funext fun j => ((g1 t j q1 q2).1 k).trans (xI t k j (by omega)), funext fun k => funext fun j => ((g1 t j q1 q2).2.1 k).trans (xR t k j), funext fun j => funext fun e => ((g1 t j q1 q2).2.2.1 e).trans (by rw [xA t (by omega)]), funext fun j => ((g1 t j q1 q2).2.2.2).trans (xL t j), (g2 t q1).trans (xC t)⟩
    rcases hp : p_text (x_toks (w_p w)) with ⟨T, _ | ⟨a, b, c⟩⟩
    · rw [hp] at r4
      obtain ⟨r4, r5⟩ := r4
      subst r4
      refine jg_cmpeq_f (i' := 13) rfl rfl (fun z => by
        rw [i_eq, i_nI (by omega)] at z
        rw [show (-1 : Int32).toInt = -1 from rfl] at z
        omega) ?_
      refine jg_sg tl_X11_text 4 (i' := 16) (fun kk => rfl) ?_
      refine jg_end (x := some (.inl (q_sub (-100) (nI (plc (w_p w) T))))) (fun k => rfl) ⟨_, rfl, q_sub_eq _ _, ?_, hmE X (fun t j _ _ => ⟨fun _ => rfl, fun _ => rfl, fun _ => rfl, rfl⟩) (fun _ _ => rfl), hKX.kfu, fun t _ _ _ => xC t⟩
      refine CR_tx (T := w.2.2.1) hC (fun t k j q => xI t k j (by omega)) (fun t k j _ => xR t k j) (fun j e => by rw [xA 16 (by decide)]) x7 (Nat.le_refl _) ?_
      obtain ⟨t1, t2, t3, t4, t5⟩ := ht
      refine ⟨(xI 0 7 0 (by decide)).trans t1, t2, t3, ⟨(xC _).trans t4.1, (xC _).trans t4.2.1, (xC _).trans t4.2.2⟩, fun k hk => ?_⟩
      obtain ⟨g1, g2, g3⟩ := t5 k hk
      refine ⟨(xQ k).trans g1, ?_, ?_⟩
      · unfold txok at g2 ⊢
        simp only [xL, xI 13 _ _ (show 13 ≠ 7 by decide)]
        exact g2
      · refine Eq.trans ?_ g3
        unfold txt
        simp only [xL, xI 13 _ _ (show 13 ≠ 7 by decide), xA 14 (show 14 ≠ 9 by decide)]
    · rw [hp] at r4
      obtain ⟨r4, r5, r6, r8, r9, r10⟩ := r4
      subst r4
      refine jg_cmpeq_t (t := 17) rfl rfl ?_
      refine jg_sg tl_X11_text 2 (i' := 18) (fun kk => rfl) ?_
      refine jg_getS (i' := 19) (t := 0) (f := 3) (t' := 5) (g0 := fun _ => 0) (j := 0) (r := 0) (W := wX (w_nt w)) (KW.rf hKX) rfl rfl (fun z => by cases z) (by rw [h0]; exact Nat.one_pos) rfl ?_
      refine jg_sg tl_X11_text 4 (i' := 22) (fun kk => rfl) ?_
      refine jg_getS (i' := 23) (t := 0) (f := 4) (t' := 7) (g0 := fun _ => 0) (j := 0) (r := 0) (W := wX (w_nt w)) (KW.rf hKX) rfl rfl (fun z => by cases z) (by rw [h0]; exact Nat.one_pos) rfl ?_
      obtain ⟨t1, t2, t3, t4, t5⟩ := ht
      obtain ⟨S2, m1, m2, m3, m4, m5, m6, m7⟩ := x9_made (S := X) (c := ce_C S) (l0 := []) (j := w_nt w) (n := a.length + b.length + c.length) hKX (fun q hq => by cases hq) (fun k z => by cases z) (fun z => by cases z) (by rw [h7]; exact Nat.one_pos) t4.1 t4.2.1 t4.2.2 r9 (by rw [hX]; exact r8)
      refine jg_cr (i' := 24) (n := 1) (t := 13) (mc := 3) (ms := 324) (MC := 3) (MS := 324) (nn' := (3, 324)) (v := w_nt w) (F := F_X9_made) (a := [.inr (.inl (7, 0))]) (rest := [.inl (ce_I X 0 7 0), .inr (.inl (5, 0))]) rfl rfl rfl rfl rfl m1 ⟨Nat.le_of_ble_eq_true rfl, Nat.le_of_ble_eq_true rfl, Nat.le_of_ble_eq_true rfl, Nat.le_of_ble_eq_true rfl⟩ ?_
      rw [xI 0 7 0 (by decide), hn7]
      have hm2 : KW (wX (w_nt w)) X (kcv (kcv (kcv (ce_C S) 13 (w_nt w + 1)) 14 (w_nt w + 1)) 17 (w_nt w + 1)) [] S2 := m2.le (fun _ _ => Or.inl)
      refine jg_aastQ (i' := 25) (e := w_nt w) (v := w_nt w) (x := nI (w_nt w)) hm2 rfl rfl (nI_clamp (by omega)) (by rw [show (0 : Int32) = nI 0 from rfl, nJ_lt (by omega) (by omega)]; omega) h5 (fun z => by cases z) h6' (Or.inr (Or.inl rfl)) (fun hm3 => ?_)
      refine jg_sg tl_X11_text 6 (i' := 30) (fun kk => rfl) ?_
      have s2I : ∀ t k j, t < 100 → t ≠ 13 → t ≠ 14 → t ≠ 17 → ce_I S2 t k j = ce_I X t k j := fun t k j q1 q2 q3 q4 => (m2.2.1 t j q1 (fun z => by rcases z.1 with e | e | e <;> contradiction)).1 k
      have e7 : q_add (ce_I (ce_sQ S2 (w_nt w) (w_nt w)) 0 7 0) 1 = nI (w_nt w + 1) := by
        rw [r_I_sQ, s2I 0 7 0 (by decide) (by decide) (by decide) (by decide), xI 0 7 0 (by decide), hn7, q_add_eq, nJ_succ]
      rw [e7]
      refine jg_putI (i' := 31) (t := 0) (f := 7) (j := 0) (x := nI (w_nt w + 1)) hm3 rfl rfl (Or.inr (Or.inr rfl)) (fun hm4 => ?_)
      refine jg_sg tl_X11_text 5 (i' := 35) (fun kk => rfl) ?_
      have e8 : ce_I (ce_sI (ce_sQ S2 (w_nt w) (w_nt w)) 0 7 0 (nI (w_nt w + 1))) 0 7 0 = nI (w_nt w + 1) := by
        rw [r_I_sI, if_pos rfl, if_pos rfl, if_pos rfl]
      rw [e8]
      obtain ⟨S4, hS4⟩ : ∃ S4, S4 = ce_sI (ce_sQ S2 (w_nt w) (w_nt w)) 0 7 0 (nI (w_nt w + 1)) := ⟨_, rfl⟩
      rw [← hS4] at hm4 e8 ⊢
      have fI : ∀ t k j, ¬ (t = 0 ∧ k = 7) → ce_I S4 t k j = ce_I S2 t k j := fun t k j q => by
        rw [hS4, r_I_sI]
        by_cases z : t = 0
        · rw [if_pos z, if_neg (fun z2 => q ⟨z, z2⟩)]; rfl
        · rw [if_neg z]; rfl
      have nw : ∀ t j, t ≠ 13 → t ≠ 14 → t ≠ 17 → ¬ wT (w_nt w) t j := fun t j q1 q2 q3 z => by rcases z.1 with e | e | e <;> contradiction
      refine jg_end (x := some (.inl (q_sub (nI (w_nt w + 1)) 1))) (fun k => rfl) ⟨_, rfl, ?_, ?_, hmE S4 (fun t j q1 q2 => ?_) (fun t q => ?_), hm4.1.kfu, fun t q1 q2 q3 => ?_⟩
      · rw [q_sub_eq, ← nJ_succ]
        show nI (w_nt w) + 1 - 1 = nI (w_nt w)
        rw [Int32.add_sub_cancel]
      · have fA : ∀ t j e, t < 100 → t ≠ 13 → t ≠ 14 → t ≠ 17 → t ≠ 9 → ce_A S4 t j e = ce_A S t j e := fun t j e q0 q1 q2 q3 q4 => by
          rw [hS4]
          exact ((m2.2.1 t j q0 (nw t j q1 q2 q3)).2.2.1 e).trans (by rw [xA t q4])
        have f13 : ∀ j, j ≠ w_nt w → (∀ k, ce_I S4 13 k j = ce_I S 13 k j) ∧ (∀ e, ce_A S4 14 j e = ce_A S 14 j e) ∧ ce_L S4 14 j = ce_L S 14 j ∧ ce_L S4 17 j = ce_L S 17 j := fun j q => by
          have g13 := m2.2.1 13 j (by decide) (fun z => q z.2)
          have g14 := m2.2.1 14 j (by decide) (fun z => q z.2)
          have g17 := m2.2.1 17 j (by decide) (fun z => q z.2)
          refine ⟨fun k => ?_, fun e => ?_, ?_, ?_⟩
          · rw [fI 13 k j (fun z => absurd z.1 (by decide)), g13.1 k, xI 13 k j (by decide)]
          · rw [hS4]; exact (g14.2.2.1 e).trans (by rw [xA 14 (by decide)])
          · rw [hS4]; exact g14.2.2.2.trans (xL _ _)
          · rw [hS4]; exact g17.2.2.2.trans (xL _ _)
        refine CR_tx (T := (w_nt w + 1, fun k => if k = w_nt w then (a, b, c) else w_tx w k)) hC (fun t k j q => ?_) (fun t k j q => ?_) (fun j e => fA 16 j e (by decide) (by decide) (by decide) (by decide) (by decide)) ?_ (Nat.le_succ _) ?_
        · rw [fI t k j (by omega)]
          exact (s2I t k j (by omega) (by omega) (by omega) (by omega)).trans (xI t k j (by omega))
        · rw [hS4]
          exact ((m2.2.1 t j (by omega) (nw t j (by omega) (by omega) (by omega))).2.1 k).trans (xR t k j)
        · rw [fI 7 0 0 (fun z => absurd z.1 (by decide))]
          exact (s2I 7 0 0 (by decide) (by decide) (by decide) (by decide)).trans x7
        · refine ⟨e8, (by show w_nt w + 1 ≤ 6; omega), (by show w_ru w < w_nt w + 1; omega), ⟨?_, ?_, ?_⟩, fun k hk => ?_⟩
          · rw [hm4.1.1]; rfl
          · rw [hm4.1.1]; rfl
          · rw [hm4.1.1]; rfl
          have hk : k < w_nt w + 1 := hk
          show ce_Q S4 k = some k ∧ txok S4 k ∧ txt S4 k = (if k = w_nt w then (a, b, c) else w_tx w k)
          have hq : ce_Q S4 k = if k = w_nt w then some (w_nt w) else ce_Q S k := by
            rw [hS4, r_Q_sI, r_Q_sQ, m2.2.2 (nw 5 0 (by decide) (by decide) (by decide)), xQ]
          by_cases e : k = w_nt w
          · subst e
            rw [if_pos rfl] at hq ⊢
            have i1 : ce_I S4 13 1 (w_nt w) = nI a.length := by
              rw [fI 13 1 _ (fun z => absurd z.1 (by decide)), m3, hX]; exact r5
            have i2 : ce_I S4 13 2 (w_nt w) = nI (a.length + b.length) := by
              rw [fI 13 2 _ (fun z => absurd z.1 (by decide)), m4, hX]; exact r6
            have l1 : ce_L S4 14 (w_nt w) = a.length + b.length + c.length := by rw [hS4]; exact m5
            have l2 : ce_L S4 17 (w_nt w) = a.length + b.length + c.length := by rw [hS4]; exact m6
            have hA : ∀ e, e < a.length + b.length + c.length → ce_A S4 14 (w_nt w) e = (a ++ b ++ c).getD e 0 := fun e he => by
              rw [hS4]
              refine (m7 e he).trans ?_
              rw [hX]
              exact r10 e he
            refine ⟨hq, ⟨a.length, a.length + b.length, Nat.le_add_right _ _, by rw [l1]; exact Nat.le_add_right _ _, by rw [l1]; exact r9, i1, i2, by rw [l1, l2]⟩, ?_⟩
            unfold txt
            rw [i1, i2, l1, nI_clamp (by omega), nI_clamp (by omega), show a.length + b.length - a.length = b.length by omega, show a.length + b.length + c.length - (a.length + b.length) = c.length by omega]
            refine Prod.ext ?_ (Prod.ext ?_ ?_)
            · exact cds_is a 0 (fun e he => by rw [hA _ (by omega), List.append_assoc, Nat.zero_add, getD_l he])
            · exact cds_is b _ (fun e he => by rw [hA _ (by omega), List.append_assoc, getD_r, getD_l he])
            · exact cds_is c _ (fun e he => by
                rw [hA _ (by omega)]
                have := getD_r (x := a ++ b) (y := c) (e := e)
                rw [List.length_append] at this
                exact this)
          · rw [if_neg e] at hq ⊢
            obtain ⟨g1, g2, g3⟩ := t5 k (by omega)
            obtain ⟨k1, k2, k3, k4⟩ := f13 k e
            refine ⟨hq.trans g1, ?_, ?_⟩
            · unfold txok at g2 ⊢
              rw [k1, k1, k3, k4]; exact g2
            · refine Eq.trans ?_ g3
              unfold txt
              rw [k1, k1, k3, show ce_A S4 14 k = ce_A S 14 k from funext k2]
      · have g := m2.2.1 t j q2 (nw t j (by omega) (by omega) (by omega))
        exact ⟨fun k => (fI t k j (by omega)).trans (g.1 k), fun k => (by rw [hS4]; exact g.2.1 k), fun e => (by rw [hS4]; exact g.2.2.1 e), (by rw [hS4]; exact g.2.2.2)⟩
      · rw [hm4.1.1, xC]
        unfold kcv
        rw [if_neg (by omega), if_neg (by omega), if_neg (by omega)]
      · rw [hm4.1.1]
        unfold kcv
        rw [if_neg q3, if_neg q2, if_neg q1]
  obtain ⟨v, S', h1, h2, h3⟩ := key
  subst h2
  exact ⟨S', h1, h3⟩
