/-! the reference's reader of a row: deeds held, steps written -/
def tcs : List Int32 := [0, 1, 2, 3, 4, 5, 6, 7, 8, -1, -2, -3, -4, -5, -6, -7, -9, -10, -11, -12, -13, -14, -15]
def tcok (T : List tk) : Prop := ∀ u ∈ T, u.1 ∈ tcs
theorem x_sign_tc (c : Int32) : x_sign c ∈ tcs := by
  unfold x_sign
  repeat' split
  all_goals decide
theorem x_wc_tc (j : Nat) : x_wc j ∈ tcs := by
  unfold x_wc
  split
  all_goals decide
theorem x_tok_tc (l : List Int32) : (x_tok l).1 ∈ tcs := by
  cases l with
  | nil => exact (show (0 : Int32) ∈ tcs by decide)
  | cons c r =>
    unfold x_tok
    simp only
    by_cases h : x_sm c = true
    · rw [if_pos h]; exact x_wc_tc _
    · rw [if_neg h]
      by_cases h2 : x_dg c = true
      · rw [if_pos h2]
        by_cases h3 : x_run x_dg (c :: r) ≤ 4
        · rw [if_pos h3]; exact (show (1 : Int32) ∈ tcs by decide)
        · rw [if_neg h3]; exact (show (8 : Int32) ∈ tcs by decide)
      · rw [if_neg h2]; exact x_sign_tc c
theorem x_all_tc : ∀ n l, tcok (x_all n l) := by
  intro n
  induction n with
  | zero => intro l u hu; rw [List.mem_singleton.mp hu]; exact (show (0 : Int32) ∈ tcs by decide)
  | succ n ih =>
    intro l
    unfold x_all
    cases x_skip l with
    | nil => intro u hu; rw [List.mem_singleton.mp hu]; exact (show (0 : Int32) ∈ tcs by decide)
    | cons c r =>
      intro u hu
      rcases List.mem_cons.mp hu with q | q
      · rw [q]; exact x_tok_tc _
      · exact ih _ u q
def mgq (r : Nat) (S S' : ce_S) : Prop := (∀ t k i, ¬ (t = 20 ∧ 20 ≤ k ∧ k ≤ 25) → ce_I S' t k i = ce_I S t k i) ∧ ce_R S' = ce_R S ∧ (∀ t, t ≠ 29 → t ≠ 30 → t ≠ 31 → ce_A S' t = ce_A S t) ∧ (∀ e, e ≠ r → ce_A S' 30 0 e = ce_A S 30 0 e) ∧ (∀ e, e < 170 * r ∨ 170 * r + 170 ≤ e → ce_A S' 29 0 e = ce_A S 29 0 e) ∧ S'.2.2.2 = S.2.2.2
theorem mgq_refl (r : Nat) (S : ce_S) : mgq r S S := ⟨fun _ _ _ _ => rfl, rfl, fun _ _ _ _ => rfl, fun _ _ => rfl, fun _ _ => rfl, rfl⟩
theorem mgq_trans {r : Nat} {S S' S'' : ce_S} (h : mgq r S S') (g : mgq r S' S'') : mgq r S S'' := ⟨fun t k i q => (g.1 t k i q).trans (h.1 t k i q), g.2.1.trans h.2.1, fun t q1 q2 q3 => (g.2.2.1 t q1 q2 q3).trans (h.2.2.1 t q1 q2 q3), fun e q => (g.2.2.2.1 e q).trans (h.2.2.2.1 e q), fun e q => (g.2.2.2.2.1 e q).trans (h.2.2.2.2.1 e q), g.2.2.2.2.2.trans h.2.2.2.2.2⟩
theorem mgq_mdq {r : Nat} {S S' : ce_S} (h : mdq S S') : mgq r S S' := by
  have eA : ce_A S' = ce_A S := by unfold ce_A; rw [h.2]
  refine ⟨fun t k i q => h.1 t k i (fun z => q ⟨z.1, z.2.1, by omega⟩), by unfold ce_R; rw [h.2], fun t _ _ _ => by rw [eA], fun e _ => by rw [eA], fun e _ => by rw [eA], by rw [h.2]⟩
theorem mgq_sI (r : Nat) (S : ce_S) (k : Nat) (v : Int32) (h : 20 ≤ k ∧ k ≤ 25) : mgq r S (ce_sI S 20 k 0 v) := by
  refine ⟨fun t k' i q => ?_, rfl, fun _ _ _ _ => rfl, fun _ _ => rfl, fun _ _ => rfl, rfl⟩
  rw [r_I_sI]
  by_cases h1 : t = 20
  · have h2 : ¬ k' = k := fun e => q ⟨h1, by omega⟩
    rw [if_pos h1, if_neg h2]
  · rw [if_neg h1]
theorem mgq_31 (r : Nat) (S : ce_S) (e : Nat) (v : Int32) : mgq r S (ce_sA S 31 0 e v) := ⟨fun _ _ _ _ => rfl, rfl, fun t _ _ h => by funext i e'; rw [r_A_sA, if_neg h], fun _ _ => by rw [r_A_sA, if_neg (by decide)], fun _ _ => by rw [r_A_sA, if_neg (by decide)], rfl⟩
theorem mgq_30 (r : Nat) (S : ce_S) (v : Int32) : mgq r S (ce_sA S 30 0 r v) := ⟨fun _ _ _ _ => rfl, rfl, fun t _ h _ => by funext i e'; rw [r_A_sA, if_neg h], fun e h => by rw [r_A_sA, if_pos rfl, if_pos rfl, if_neg h], fun _ _ => by rw [r_A_sA, if_neg (by decide)], rfl⟩
theorem mgq_29 (r : Nat) (S : ce_S) (e : Nat) (v : Int32) (he : e < 170) : mgq r S (ce_sA S 29 0 (170 * r + e) v) := ⟨fun _ _ _ _ => rfl, rfl, fun t h _ _ => by funext i e'; rw [r_A_sA, if_neg h], fun e h => by rw [r_A_sA, if_neg (by decide)], fun e' h => by rw [r_A_sA, if_pos rfl, if_pos rfl, if_neg (by omega)], rfl⟩
theorem mTL_mgq {r : Nat} {p : List Int32} {S S' : ce_S} (h : mTL p S) (g : mgq r S S') : mTL p S' := by
  have eL : ce_L S' = ce_L S := by unfold ce_L; rw [g.2.2.2.2.2]
  refine ⟨⟨(g.1 20 18 0 (by omega)).trans h.1.1, h.1.2.1, ?_⟩, ?_⟩
  · rw [g.2.2.1 28 (by decide) (by decide) (by decide)]; exact h.1.2.2
  · have q := h.2
    unfold MXw at q ⊢
    rw [g.2.2.1 41 (by decide) (by decide) (by decide), eL]; exact q
def kc : List Nat → Nat
  | [] => 0
  | k :: K => (if 8 ≤ k then 1 else 0) + kc K
def kok (K : List Nat) (o : Nat) : Prop := (∀ k ∈ K, 1 ≤ k ∧ k ≤ 10) ∧ o = kc K
def MH (K : List Nat) (S : ce_S) : Prop := ce_I S 20 25 0 = nI K.length ∧ ∀ i, i < K.length → ce_A S 31 0 i = nI (K.getD (K.length - 1 - i) 0)
def MG (p : List Int32) (S0 : ce_S) (r : Nat) (T : List tk) (K : List Nat) (o : Nat) (out : List Int32) (S : ce_S) : Prop :=
  mgq r S0 S ∧ MTK p T S ∧ (tksok T ∧ tcok T) ∧ kok K o ∧ ce_I S 20 24 0 = nI o ∧ MH K S ∧ ce_A S 30 0 r = nI out.length ∧ ∀ e, e < out.length → ce_A S 29 0 (170 * r + e) = enc (out.getD e 0)
def mctx (p : List Int32) (S0 : ce_S) (r : Nat) : Prop := mTL p S0 ∧ r < 18 ∧ ce_I S0 20 26 0 = nI r
theorem MG_26 {p : List Int32} {S0 S : ce_S} {r : Nat} {T : List tk} {K : List Nat} {o : Nat} {out : List Int32} (hc : mctx p S0 r) (h : MG p S0 r T K o out S) : ce_I S 20 26 0 = nI r := (h.1.1 20 26 0 (by omega)).trans hc.2.2
theorem MTK_of {p : List Int32} {T : List tk} {S S' : ce_S} (h : MTK p T S) (g : ∀ k, 20 ≤ k → k ≤ 23 → ce_I S' 20 k 0 = ce_I S 20 k 0) : MTK p T S' := by
  obtain ⟨u, r, q, b1, b2, b3, b4, b5, b6, b7, b8, b9, b10⟩ := h
  refine ⟨u, r, q, b1, b2, b3, ?_, fun z => ?_, fun z1 z2 z3 => ?_, b7, ?_, ?_, b10⟩
  · rw [g 21 (by decide) (by decide)]; exact b4
  · rw [g 23 (by decide) (by decide)]; exact b5 z
  · rw [g 23 (by decide) (by decide)]; exact b6 z1 z2 z3
  · rw [g 22 (by decide) (by decide)]; exact b8
  · rw [g 20 (by decide) (by decide)]; exact b9
theorem m_writes {p : List Int32} {S0 S : ce_S} {r : Nat} {T : List tk} {K : List Nat} {o : Nat} {out : List Int32} (hc : mctx p S0 r) (h : MG p S0 r T K o out S) (hb : out.length < 170) {x y : Int32} (hx : x = enc y) : ∃ S', F_X12_writes [m20, .inl x] S = some S' ∧ MG p S0 r T K o (out ++ [y]) S' := by
  have h26 := MG_26 hc h
  obtain ⟨a1, a2, a3, a4, a5, a6, a7, a8⟩ := h
  have hr := hc.2.1
  refine ⟨ce_sA (ce_sA S 29 0 (170 * r + out.length) x) 30 0 r (nI (out.length + 1)), fV_by tl_X12_writes (gd_r rfl rfl) (fun kk => sg_X12_writes_0 x S kk) ?_, mgq_trans a1 (mgq_trans (mgq_29 r _ _ _ hb) (mgq_30 r _ _)), a2, a3, a4, a5, ⟨a6.1, fun i hi => ?_⟩, ?_, fun e he => ?_⟩
  · rw [h26, nI_clamp (by omega), if_neg (nJ_in hr (by decide)), a7, q_add_eq, q_mul_eq, show (170 : Int32) = nI 170 from rfl, nJ_mul, nJ_add, nI_clamp (by omega), if_neg (nJ_in (by omega) (by decide)), if_neg (nJ_in hr (by decide)), if_neg (nJ_in hr (by decide)), q_add_eq, nJ_succ]
  · rw [r_A_sA, if_neg (by decide), r_A_sA, if_neg (by decide)]; exact a6.2 i hi
  · rw [r_A_sA, if_pos rfl, if_pos rfl, if_pos rfl, List.length_append]; rfl
  · rw [List.length_append, List.length_cons, List.length_nil] at he
    rw [r_A_sA, if_neg (by decide), r_A_sA, if_pos rfl, if_pos rfl, List.getD_eq_getElem?_getD]
    by_cases e1 : e = out.length
    · rw [e1, if_pos rfl, List.getElem?_append_right (Nat.le_refl _), Nat.sub_self, hx]; rfl
    · rw [if_neg (by omega), List.getElem?_append_left (by omega), ← List.getD_eq_getElem?_getD]; exact a8 e (by omega)
theorem m_top {p : List Int32} {S0 S : ce_S} {r : Nat} {T : List tk} {K : List Nat} {o : Nat} {out : List Int32} (h : MG p S0 r T K o out S) (hk : K.length ≤ 200) : F_X12_top [m20] S = some (nI (K.headD 0), S) := by
  obtain ⟨a1, a2, a3, a4, a5, a6, a7, a8⟩ := h
  refine fI_by tl_X12_top (gd_r rfl rfl) (fun kk => sg_X12_top_0 S kk) ?_
  rw [a6.1]
  cases K with
  | nil => rw [if_pos (show nI ([] : List Nat).length = 0 from rfl)]; rfl
  | cons k K =>
    rw [List.length_cons] at hk ⊢
    rw [if_neg (by rw [show (0 : Int32) = nI 0 from rfl, nJ_inj (by omega) (by omega)]; omega), q_sub_eq, show (1 : Int32) = nI 1 from rfl, nK_sub (by omega), Nat.add_sub_cancel, nI_clamp (by omega), if_neg (nJ_in (by omega) (by decide)), a6.2 K.length (by rw [List.length_cons]; omega), List.length_cons, Nat.add_sub_cancel, Nat.sub_self]
    rfl
theorem m_ht (k : Nat) (hk : k ≤ 10) (S : ce_S) : F_X12_heightOf [.inl (nI k)] S = some (nI (ht k), S) := by
  refine fI_by tl_X12_heightOf (gd_n rfl rfl) (fun kk => sg_X12_heightOf_0 (nI k) S kk) ?_
  have : k = 0 ∨ k = 1 ∨ k = 2 ∨ k = 3 ∨ k = 4 ∨ k = 5 ∨ k = 6 ∨ k = 7 ∨ k = 8 ∨ k = 9 ∨ k = 10 := by omega
  rcases this with q | q | q | q | q | q | q | q | q | q | q <;> subst q <;> rfl
theorem enc_dc : ∀ k, k < 10 → 1 ≤ k → 30000 + nI k = enc (dcode k) := by decide
theorem m_holds {p : List Int32} {S0 S : ce_S} {r : Nat} {T : List tk} {K : List Nat} {o : Nat} {out : List Int32} (h : MG p S0 r T K o out S) (hb : K.length < 200) {k : Nat} (hk : 1 ≤ k ∧ k ≤ 10) (o' : Nat) (ho : o' = (if 8 ≤ k then 1 else 0) + o) (S1 : ce_S) (hS1 : S1 = if 8 ≤ k then ce_sI S 20 24 0 (nI o') else S) : ∃ S', F_X12_holds [m20, .inl (nI k)] S1 = some S' ∧ MG p S0 r T (k :: K) o' out S' := by
  obtain ⟨a1, a2, a3, a4, a5, a6, a7, a8⟩ := h
  have hq : mgq r S S1 ∧ (∀ j, j ≠ 24 → ce_I S1 20 j 0 = ce_I S 20 j 0) ∧ ce_A S1 = ce_A S ∧ ce_I S1 20 24 0 = nI o' := by
    by_cases h8 : 8 ≤ k
    · rw [if_pos h8] at hS1
      rw [hS1]
      refine ⟨mgq_sI r S 24 _ (by decide), fun j hj => by rw [r_I_sI, if_pos rfl, if_neg hj], rfl, by rw [r_I_sI, if_pos rfl, if_pos rfl, if_pos rfl]⟩
    · rw [if_neg h8] at hS1 ho
      rw [hS1]
      exact ⟨mgq_refl r S, fun _ _ => rfl, rfl, by rw [a5, ho, Nat.zero_add]⟩
  obtain ⟨q1, q2, q3, q4⟩ := hq
  refine ⟨ce_sI (ce_sA S1 31 0 K.length (nI k)) 20 25 0 (nI (K.length + 1)), fV_by tl_X12_holds (gd_r rfl rfl) (fun kk => sg_X12_holds_0 (nI k) S1 kk) ?_, mgq_trans a1 (mgq_trans q1 (mgq_trans (mgq_31 r _ _ _) (mgq_sI r _ 25 _ (by decide)))), MTK_of a2 (fun j j1 j2 => ?_), a3, ⟨fun k' hk' => ?_, ?_⟩, ?_, ⟨?_, fun i hi => ?_⟩, ?_, ?_⟩
  · rw [q2 25 (by decide), a6.1, nI_clamp (by omega), if_neg (nJ_in (by omega) (by decide)), q_add_eq, nJ_succ]
  · rw [r_I_sI, if_pos rfl, if_neg (by omega)]; exact q2 j (by omega)
  · rcases List.mem_cons.mp hk' with e | e
    · rw [e]; exact hk
    · exact a4.1 k' e
  · rw [ho, a4.2]; rfl
  · rw [r_I_sI, if_pos rfl, if_neg (by decide)]; exact q4
  · rw [r_I_sI, if_pos rfl, if_pos rfl, if_pos rfl]; rfl
  · rw [List.length_cons] at hi ⊢
    rw [r_A_sI, r_A_sA, if_pos rfl, if_pos rfl, q3]
    by_cases e : i = K.length
    · rw [if_pos e, e, Nat.add_sub_cancel, Nat.sub_self]; rfl
    · rw [if_neg e, a6.2 i (by omega), show K.length + 1 - 1 - i = (K.length - 1 - i) + 1 by omega]; rfl
  · rw [r_A_sI, r_A_sA, if_neg (by decide), q3]; exact a7
  · intro e he
    rw [r_A_sI, r_A_sA, if_neg (by decide), q3]; exact a8 e he
theorem kok_tail {k : Nat} {K : List Nat} {o : Nat} (h : kok (k :: K) o) : (k = 8 ∨ k = 9 ∨ k = 10 → 1 ≤ o ∧ kok K (o - 1)) ∧ (¬ 8 ≤ k → kok K o) := by
  obtain ⟨h1, h2⟩ := h
  have h3 : ∀ j ∈ K, 1 ≤ j ∧ j ≤ 10 := fun j hj => h1 j (List.mem_cons_of_mem _ hj)
  unfold kc at h2
  refine ⟨fun q => ?_, fun q => ?_⟩
  · rw [if_pos (by omega)] at h2
    exact ⟨by omega, h3, by omega⟩
  · rw [if_neg q] at h2
    exact ⟨h3, by omega⟩
theorem m_lets {p : List Int32} {S0 S : ce_S} {r : Nat} {T : List tk} {k : Nat} {K : List Nat} {o : Nat} {out : List Int32} (hc : mctx p S0 r) (h : MG p S0 r T (k :: K) o out S) (hb : out.length < 170) (hb2 : K.length < 200) (hk : k ≤ 9) : ∃ S', F_X12_lets [m20] S = some S' ∧ MG p S0 r T K (o_dn k o) (out ++ [dcode k]) S' := by
  obtain ⟨a1, a2, a3, a4, a5, a6, a7, a8⟩ := h
  have hk1 := (a4.1 k List.mem_cons_self).1
  obtain ⟨t1, t2⟩ := kok_tail a4
  have e1 : q_sub (ce_I S 20 25 0) 1 = nI K.length := by
    rw [a6.1, q_sub_eq, show (1 : Int32) = nI 1 from rfl, nK_sub (by rw [List.length_cons]; omega), List.length_cons, Nat.add_sub_cancel]
  have e2 : ce_A S 31 0 K.length = nI k := by
    rw [a6.2 K.length (by rw [List.length_cons]; omega), List.length_cons, Nat.add_sub_cancel, Nat.sub_self]; rfl
  have hmh : ∀ S1, ce_I S1 20 25 0 = nI K.length → ce_A S1 = ce_A S → MH K S1 := fun S1 g1 g2 => by
    refine ⟨g1, fun i hi => ?_⟩
    rw [g2, a6.2 i (by rw [List.length_cons]; omega), List.length_cons, show K.length + 1 - 1 - i = (K.length - 1 - i) + 1 by omega]; rfl
  have e5 := enc_dc k (by omega) hk1
  by_cases h8 : 8 ≤ k
  · have hk89 : k = 8 ∨ k = 9 := by omega
    obtain ⟨u1, u2⟩ := t1 (by omega)
    have eo : o_dn k o = o - 1 := by unfold o_dn; rw [if_pos hk89]
    have h1 : MG p S0 r T K (o_dn k o) out (ce_sI (ce_sI S 20 25 0 (nI K.length)) 20 24 0 (nI (o - 1))) := by
      refine ⟨mgq_trans a1 (mgq_trans (mgq_sI r _ 25 _ (by decide)) (mgq_sI r _ 24 _ (by decide))), MTK_of a2 (fun j j1 j2 => ?_), a3, ?_, ?_, hmh _ ?_ rfl, a7, a8⟩
      · rw [r_I_sI, if_pos rfl, if_neg (by omega), r_I_sI, if_pos rfl, if_neg (by omega)]
      · rw [eo]; exact u2
      · rw [r_I_sI, if_pos rfl, if_pos rfl, if_pos rfl, eo]
      · rw [r_I_sI, if_pos rfl, if_neg (by decide), r_I_sI, if_pos rfl, if_pos rfl, if_pos rfl]
    obtain ⟨S2, b1, b2⟩ := m_writes hc h1 hb e5
    refine ⟨S2, fV_by tl_X12_lets (gd_r rfl rfl) (fun kk => sg_X12_lets_0 S kk) ?_, b2⟩
    rw [e1, nI_clamp (by omega), if_neg (nJ_in (by omega) (by decide)), e2]
    have e6 : q_sub (ce_I S 20 24 0) 1 = nI (o - 1) := by
      rw [a5, q_sub_eq, show (1 : Int32) = nI 1 from rfl, nK_sub u1]
    rw [e6, q_add_eq, b1]
    rcases hk89 with q | q
    · rw [q, if_pos (by decide)]; rfl
    · rw [q, if_neg (by decide), if_pos (by decide)]; rfl
  · have eo : o_dn k o = o := by unfold o_dn; rw [if_neg (by omega)]
    have h1 : MG p S0 r T K (o_dn k o) out (ce_sI S 20 25 0 (nI K.length)) := by
      refine ⟨mgq_trans a1 (mgq_sI r _ 25 _ (by decide)), MTK_of a2 (fun j j1 j2 => ?_), a3, ?_, ?_, hmh _ ?_ rfl, a7, a8⟩
      · rw [r_I_sI, if_pos rfl, if_neg (by omega)]
      · rw [eo]; exact t2 h8
      · rw [r_I_sI, if_pos rfl, if_neg (by decide), eo]; exact a5
      · rw [r_I_sI, if_pos rfl, if_pos rfl, if_pos rfl]
    obtain ⟨S2, b1, b2⟩ := m_writes hc h1 hb e5
    refine ⟨S2, fV_by tl_X12_lets (gd_r rfl rfl) (fun kk => sg_X12_lets_0 S kk) ?_, b2⟩
    rw [e1, nI_clamp (by omega), if_neg (nJ_in (by omega) (by decide)), e2, if_neg (show ¬ nI k = 8 by rw [show (8 : Int32) = nI 8 from rfl, nJ_inj (by omega) (by omega)]; omega), if_neg (show ¬ nI k = 9 by rw [show (9 : Int32) = nI 9 from rfl, nJ_inj (by omega) (by omega)]; omega), q_add_eq, b1]
    rfl
theorem m_letsF {p : List Int32} {S0 : ce_S} {r : Nat} (hc : mctx p S0 r) {T : List tk} {h : Nat} (hh : 1 ≤ h ∧ h ≤ 7) : ∀ (K : List Nat) (o : Nat) (out : List Int32) (S : ce_S), MG p S0 r T K o out S → K.length + out.length ≤ 161 → ∃ S', F_X12_letsFrom [m20, .inl (nI h)] S = some S' ∧ MG p S0 r T (lets h K o out).1 (lets h K o out).2.1 (lets h K o out).2.2 S' := by
  have go : ∀ (K : List Nat) (o : Nat) (out : List Int32) (S : ce_S), MG p S0 r T K o out S → K.length + out.length ≤ 161 → ∃ S', ce_Ev tb_X12_letsFrom 0 (0, 0) [some m20, some (.inl (nI h))] [] S (none, S') ∧ MG p S0 r T (lets h K o out).1 (lets h K o out).2.1 (lets h K o out).2.2 S' := by
    intro K
    induction K with
    | nil =>
      intro o out S hM hb
      refine ⟨S, ce_by tl_X12_letsFrom (fun kk => sg_X12_letsFrom_0 (nI h) S kk) ?_, hM⟩
      rw [hM.2.2.2.2.2.1.1, if_pos (show nI ([] : List Nat).length ≤ 0 by decide)]
    | cons k K ih =>
      intro o out S hM hb
      rw [List.length_cons] at hb
      have hk10 := (hM.2.2.2.1.1 k List.mem_cons_self)
      have hpos : ¬ nI (k :: K).length ≤ 0 := by rw [List.length_cons, show (0 : Int32) = nI 0 from rfl, nJ_le (by omega) (by omega)]; omega
      have ht9 : ht k ≤ 7 := by
        have : ∀ j, j ≤ 10 → ht j ≤ 7 := by decide
        exact this k hk10.2
      by_cases hk : h ≤ ht k
      · have hk9 : k ≤ 9 := by
          rcases Nat.lt_or_ge k 10 with q | q
          · omega
          · have : k = 10 := by omega
            rw [this] at hk
            have : ht 10 = 0 := rfl
            omega
        obtain ⟨S1, a1, a2⟩ := m_lets hc hM (by omega) (by omega) hk9
        obtain ⟨S', b1, b2⟩ := ih (o_dn k o) (out ++ [dcode k]) S1 a2 (by simp only [List.length_append, List.length_cons, List.length_nil]; omega)
        rw [lets_pop K o out hk]
        refine ⟨S', ce_by tl_X12_letsFrom (fun kk => sg_X12_letsFrom_0 (nI h) S kk) ?_, b2⟩
        rw [hM.2.2.2.2.2.1.1, if_neg hpos, m_top hM (by rw [List.length_cons]; omega)]
        simp only [Option.bind_some]
        rw [show (k :: K).headD 0 = k from rfl, m_ht k hk10.2]
        simp only [Option.bind_some]
        rw [if_neg (by rw [nJ_lt (by omega) (by omega)]; omega), a1]
        simp only [Option.bind_some]
        exact ce_kk_of b1
      · rw [lets_stop o out (show htop (k :: K) < h from Nat.lt_of_not_le hk)]
        refine ⟨S, ce_by tl_X12_letsFrom (fun kk => sg_X12_letsFrom_0 (nI h) S kk) ?_, hM⟩
        rw [hM.2.2.2.2.2.1.1, if_neg hpos, m_top hM (by rw [List.length_cons]; omega)]
        simp only [Option.bind_some]
        rw [show (k :: K).headD 0 = k from rfl, m_ht k hk10.2]
        simp only [Option.bind_some]
        rw [if_pos (by rw [nJ_lt (by omega) (by omega)]; omega)]
  intro K o out S hM hb
  obtain ⟨S', a1, a2⟩ := go K o out S hM hb
  exact ⟨S', ce_fV_eq tl_X12_letsFrom (gd_r rfl rfl) a1, a2⟩
theorem lets_len (h : Nat) : ∀ (K : List Nat) (o : Nat) (out : List Int32), (lets h K o out).1.length + (lets h K o out).2.2.length = K.length + out.length := by
  intro K
  induction K with
  | nil => intro o out; rfl
  | cons k K ih =>
    intro o out
    by_cases hk : h ≤ ht k
    · rw [lets_pop K o out hk, ih]
      simp only [List.length_append, List.length_cons, List.length_nil]; omega
    · rw [lets_stop o out (show htop (k :: K) < h from Nat.lt_of_not_le hk)]
theorem lets_lets {h g : Nat} (hg : h ≤ g) : ∀ (K : List Nat) (o : Nat) (out : List Int32), lets h (lets g K o out).1 (lets g K o out).2.1 (lets g K o out).2.2 = lets h K o out := by
  intro K
  induction K with
  | nil => intro o out; rfl
  | cons k K ih =>
    intro o out
    by_cases hk : g ≤ ht k
    · rw [lets_pop K o out hk, ih, lets_pop (h := h) K o out (Nat.le_trans hg hk)]
    · rw [lets_stop (h := g) o out (show htop (k :: K) < g from Nat.lt_of_not_le hk)]
