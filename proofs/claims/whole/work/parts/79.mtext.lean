/-! the reference reads a row, and a text -/
theorem tc_nx : ∀ x ∈ tcs, (x = 1 ∨ i_nam x = true ∨ x = -7 ∨ x = -14 ∨ x = 5 ∨ ¬ ot x = 0 ∨ x = 7 ∨ x = 6 ∨ x = 2 ∨ x = 3 ∨ x = 4) → x ≠ 0 ∧ x ≠ 8 := by decide
theorem o_dd_x {x : Int32} {K : List Nat} (h : ¬ o_dd x K = 0) : x = -7 ∨ x = -14 ∨ x = 5 := by
  unfold o_dd at h
  by_cases h1 : x = -7 ∧ mayN K = true
  · exact Or.inl h1.1
  rw [if_neg h1] at h
  by_cases h2 : x = -14
  · exact Or.inr (Or.inl h2)
  rw [if_neg h2] at h
  by_cases h3 : x = 5
  · exact Or.inr (Or.inr h3)
  rw [if_neg h3] at h
  exact absurd rfl h
theorem mctx_mgq {p : List Int32} {S0 S : ce_S} {r : Nat} (hc : mctx p S0 r) (g : mgq r S0 S) : mTL p S := mTL_mgq hc.1 g
theorem m_next {p : List Int32} {S0 S : ce_S} {r : Nat} {u : tk} {T : List tk} {K : List Nat} {o : Nat} {out : List Int32} (hc : mctx p S0 r) (h : MG p S0 r (u :: T) K o out S) (hu : u.1 ≠ 0 ∧ u.1 ≠ 8) : ∃ S', F_X12_reads [m20] S = some S' ∧ MG p S0 r T K o out S' := by
  obtain ⟨a1, ⟨v, r', q, b1, b2, b3, b4, b5, b6, b7, b8, b9, b10⟩, a3, a4, a5, a6, a7, a8⟩ := h
  cases b2
  obtain ⟨S', c1, c2, c3⟩ := m_reads (mTL_mgq hc.1 a1) b9 b1
  rw [← b3 hu.1 hu.2] at c3
  have eA : ce_A S' = ce_A S := by unfold ce_A; rw [c2.2]
  refine ⟨S', c1, mgq_trans a1 (mgq_mdq c2), c3, ⟨fun x hx => a3.1 x (List.mem_cons_of_mem _ hx), fun x hx => a3.2 x (List.mem_cons_of_mem _ hx)⟩, a4, (c2.1 20 24 0 (by omega)).trans a5, ⟨(c2.1 20 25 0 (by omega)).trans a6.1, ?_⟩, ?_, ?_⟩
  · rw [eA]; exact a6.2
  · rw [eA]; exact a7
  · rw [eA]; exact a8
theorem MG_plc {p : List Int32} {S0 S : ce_S} {r : Nat} {T : List tk} (h : MGx p S0 r T S) : mgq r S0 S ∧ ce_I S 20 22 0 = nI (plc p T) ∧ plc p T ≤ p.length := by
  obtain ⟨K, o, out, a1, ⟨v, r', q, b1, b2, b3, b4, b5, b6, b7, b8, b9, b10⟩, _⟩ := h
  rw [b2]
  exact ⟨a1, b8, Nat.sub_le _ _⟩
/-- what a row's reading comes to -/
def MO (p : List Int32) (S0 : ce_S) (r : Nat) (b : Int32) (x : p_R) (S : ce_S) : Prop := mgq r S0 S ∧ (match x with
  | (T2, some c) => b = 1 ∧ MTK p T2 S ∧ (tksok T2 ∧ tcok T2) ∧ ce_A S 30 0 r = nI c.length ∧ ∀ e, e < c.length → ce_A S 29 0 (170 * r + e) = enc (c.getD e 0)
  | (T2, none) => b = 0 ∧ ce_I S 20 22 0 = nI (plc p T2) ∧ plc p T2 ≤ p.length)
theorem MO_x {p : List Int32} {S0 S : ce_S} {r : Nat} {T : List tk} (h : MGx p S0 r T S) : MO p S0 r 0 (T, none) S := by
  obtain ⟨a, b, c⟩ := MG_plc h
  exact ⟨a, rfl, b, c⟩
theorem m_op {p : List Int32} {S0 : ce_S} {r : Nat} (hc : mctx p S0 r) : ∀ (T : List tk) (K : List Nat) (o : Nat) (out : List Int32) (S : ce_S) (z2 z3 : Option ce_V), MG p S0 r T K o out S → K.length + out.length + T.length ≤ 162 →
    (∃ b S', ce_Ev tb_X12_readsRow 14 (0, 0) [some m20, some (.inl 1), z2, z3] [] S (some (.inl b), S') ∧ MO p S0 r b (op T true K o out) S') ∧
    (∃ b S', ce_Ev tb_X12_readsRow 14 (0, 0) [some m20, some (.inl 0), z2, z3] [] S (some (.inl b), S') ∧ MO p S0 r b (op T false K o out) S') := by
  intro T
  induction T with
  | nil =>
    intro K o out S z2 z3 hM hb
    obtain ⟨v, r', q, b1, b2, _⟩ := hM.2.1
    cases b2
  | cons u T ih =>
    intro K o out S z2 z3 hM hb
    rw [List.length_cons] at hb
    have hut := (MG_head hM).1
    have hnx := tc_nx u.1 hut
    constructor
    · -- ahead
      obtain ⟨h1, h2, h3, h4⟩ := m_ahead hc hM (by omega)
      have s33 : ∀ (x2 : Int32) S1, ce_Ev tb_X12_readsRow 33 (0, 0) [some m20, some (.inl 1), some (.inl x2), z3] [] S1 = ce_Ev tb_X12_readsRow 33 (0, 0) [some m20, some (.inl 1), some (.inl x2), z3] [] S1 := fun _ _ => rfl
      have one : ∀ y, (∃ S1, F_X12_ahead [m20] S = some (1, S1) ∧ MG p S0 r (u :: T) K o (out ++ [y]) S1) → u.1 ≠ 0 ∧ u.1 ≠ 8 → ∃ b S', ce_Ev tb_X12_readsRow 14 (0, 0) [some m20, some (.inl 1), z2, z3] [] S (some (.inl b), S') ∧ MO p S0 r b (op T false K o (out ++ [y])) S' := fun y hy hu => by
        obtain ⟨S1, a1, a2⟩ := hy
        obtain ⟨S2, b1, b2⟩ := m_next hc a2 hu
        obtain ⟨b, S', c1, c2⟩ := (ih K o (out ++ [y]) S2 (some (.inl 1)) (some (.inl 0)) b2 (by simp only [List.length_append, List.length_cons, List.length_nil]; omega)).2
        refine ⟨b, S', ce_by tl_X12_readsRow (fun kk => sg_X12_readsRow_14 1 z2 z3 S kk) ?_, c2⟩
        rw [if_neg (show ¬ (1 : Int32) = 0 by decide), a1]
        simp only [Option.bind_some]
        rw [if_pos (show (0 : Int32) ≤ 1 by decide), if_neg (show ¬ (1 : Int32) = 0 by decide)]
        refine ce_kk_of (ce_by tl_X12_readsRow (fun kk => sg_X12_readsRow_33 1 1 z3 S1 kk) ?_)
        rw [if_neg (show ¬ (1 : Int32) = 0 by decide), if_neg (show ¬ (1 : Int32) = 0 by decide), b1]
        simp only [Option.bind_some]
        exact ce_kk_of c1
      unfold op
      by_cases k1 : u.1 = 1
      · rw [if_pos k1]
        exact one _ (h1 k1) (hnx (Or.inl k1))
      rw [if_neg k1]
      by_cases k2 : i_nam u.1 = true
      · rw [if_pos k2]
        exact one _ (h2 k2) (hnx (Or.inr (Or.inl k2)))
      rw [if_neg k2]
      by_cases k3 : o_dd u.1 K = 0 ∨ o = 5
      · rw [if_pos k3]
        refine ⟨0, S, ce_by tl_X12_readsRow (fun kk => sg_X12_readsRow_14 1 z2 z3 S kk) ?_, MO_x ⟨_, _, _, hM⟩⟩
        rw [if_neg (show ¬ (1 : Int32) = 0 by decide), h3 k1 k2 k3]
        rfl
      · rw [if_neg k3]
        obtain ⟨S1, a1, a2⟩ := h4 k1 k2 k3
        have hx := o_dd_x (fun z => k3 (Or.inl z))
        obtain ⟨S2, b1, b2⟩ := m_next hc a2 (hnx (by rcases hx with q | q | q <;> simp only [q, true_or, or_true]))
        obtain ⟨b, S', c1, c2⟩ := (ih (o_dd u.1 K :: K) (o + 1) out S2 (some (.inl 0)) (some (.inl 0)) b2 (by simp only [List.length_cons]; omega)).1
        refine ⟨b, S', ce_by tl_X12_readsRow (fun kk => sg_X12_readsRow_14 1 z2 z3 S kk) ?_, c2⟩
        rw [if_neg (show ¬ (1 : Int32) = 0 by decide), a1]
        simp only [Option.bind_some]
        rw [if_pos (show (0 : Int32) ≤ 0 by decide), if_neg (show ¬ (1 : Int32) = 0 by decide)]
        refine ce_kk_of (ce_by tl_X12_readsRow (fun kk => sg_X12_readsRow_33 1 0 z3 S1 kk) ?_)
        rw [if_neg (show ¬ (1 : Int32) = 0 by decide), if_pos rfl, b1]
        simp only [Option.bind_some]
        exact ce_kk_of c1
    · -- behind
      obtain ⟨b, S1, a1, a2⟩ := m_behind hc hM (by omega)
      have bad : b = -1 → MGx p S0 r (u :: T) S1 → ∃ b S', ce_Ev tb_X12_readsRow 14 (0, 0) [some m20, some (.inl 0), z2, z3] [] S (some (.inl b), S') ∧ MO p S0 r b (u :: T, none) S' := fun e hx => by
        refine ⟨0, S1, ce_by tl_X12_readsRow (fun kk => sg_X12_readsRow_14 0 z2 z3 S kk) ?_, MO_x hx⟩
        rw [if_pos rfl, a1]
        simp only [Option.bind_some]
        rw [e, if_neg (show ¬ (0 : Int32) ≤ -1 by decide)]
      have deed : ∀ K' o' out', b = 1 → MG p S0 r (u :: T) K' o' out' S1 → u.1 ≠ 0 ∧ u.1 ≠ 8 → K'.length + out'.length ≤ K.length + out.length + 1 → ∃ b S', ce_Ev tb_X12_readsRow 14 (0, 0) [some m20, some (.inl 0), z2, z3] [] S (some (.inl b), S') ∧ MO p S0 r b (op T true K' o' out') S' := fun K' o' out' e hx hu hl => by
        obtain ⟨S2, b1, b2⟩ := m_next hc hx hu
        obtain ⟨b', S', c1, c2⟩ := (ih K' o' out' S2 (some (.inl 1)) (some (.inl 0)) b2 (by omega)).1
        refine ⟨b', S', ce_by tl_X12_readsRow (fun kk => sg_X12_readsRow_14 0 z2 z3 S kk) ?_, c2⟩
        rw [if_pos rfl, a1]
        simp only [Option.bind_some]
        rw [e, if_pos (show (0 : Int32) ≤ 1 by decide), if_pos rfl, if_neg (show ¬ (1 : Int32) = 2 by decide)]
        refine ce_kk_of (ce_by tl_X12_readsRow (fun kk => sg_X12_readsRow_33 0 1 z3 S1 kk) ?_)
        rw [if_pos rfl, if_pos rfl, b1]
        simp only [Option.bind_some]
        exact ce_kk_of c1
      unfold op
      by_cases k0 : ot u.1 = 0
      · simp only [if_pos k0] at a2 ⊢
        have hl1 := lets_len 1 K o out
        by_cases k7 : u.1 = 7
        · simp only [if_pos k7] at a2 ⊢
          generalize hL : lets 1 K o out = L at a2 hl1 ⊢
          obtain ⟨L1, L2, L3⟩ := L
          cases L1 with
          | cons k L1 => exact bad a2.1 a2.2
          | nil =>
            obtain ⟨e, hx⟩ := a2
            simp only at hx ⊢
            obtain ⟨S2, b1, b2⟩ := m_next hc hx (hnx (Or.inr (Or.inr (Or.inr (Or.inr (Or.inr (Or.inr (Or.inl k7))))))))
            refine ⟨1, S2, ce_by tl_X12_readsRow (fun kk => sg_X12_readsRow_14 0 z2 z3 S kk) ?_, b2.1, rfl, b2.2.1, b2.2.2.1, b2.2.2.2.2.2.2⟩
            rw [if_pos rfl, a1]
            simp only [Option.bind_some]
            rw [e, if_pos (show (0 : Int32) ≤ 2 by decide), if_pos rfl, if_pos trivial, if_pos trivial, if_neg (show ¬ (2 : Int32) = 1 by decide), b1]
            rfl
        · simp only [if_neg k7] at a2 ⊢
          by_cases k6 : u.1 = 6
          · simp only [if_pos k6] at a2 ⊢
            generalize hL : lets 1 K o out = L at a2 hl1 ⊢
            obtain ⟨L1, L2, L3⟩ := L
            cases L1 with
            | nil => exact bad a2.1 a2.2
            | cons k L1 =>
              obtain ⟨e, hx⟩ := a2
              simp only [List.length_cons] at hx hl1 ⊢
              obtain ⟨S2, b1, b2⟩ := m_next hc hx (hnx (Or.inr (Or.inr (Or.inr (Or.inr (Or.inr (Or.inr (Or.inr (Or.inl k6)))))))))
              obtain ⟨b', S', c1, c2⟩ := (ih L1 (L2 - 1) L3 S2 (some (.inl 0)) (some (.inl 0)) b2 (by omega)).2
              refine ⟨b', S', ce_by tl_X12_readsRow (fun kk => sg_X12_readsRow_14 0 z2 z3 S kk) ?_, c2⟩
              rw [if_pos rfl, a1]
              simp only [Option.bind_some]
              rw [e, if_pos (show (0 : Int32) ≤ 0 by decide), if_pos rfl, if_neg (show ¬ (0 : Int32) = 2 by decide)]
              refine ce_kk_of (ce_by tl_X12_readsRow (fun kk => sg_X12_readsRow_33 0 0 z3 S1 kk) ?_)
              rw [if_pos rfl, if_neg (show ¬ (0 : Int32) = 1 by decide), b1]
              simp only [Option.bind_some]
              exact ce_kk_of c1
          · simp only [if_neg k6] at a2 ⊢
            exact bad a2.1 a2.2
      · simp only [if_neg k0] at a2 ⊢
        have hu := hnx (Or.inr (Or.inr (Or.inr (Or.inr (Or.inr (Or.inl k0))))))
        by_cases kc' : i_cmp u.1 = true
        · simp only [if_pos kc'] at a2 ⊢
          have hl5 := lets_len 5 K o out
          by_cases kt : tcmp (lets 5 K o out).1 = true
          · simp only [if_pos kt] at a2 ⊢
            exact bad a2.1 a2.2
          · simp only [if_neg kt] at a2 ⊢
            exact deed _ _ _ a2.1 a2.2 hu (by simp only [List.length_cons]; omega)
        · simp only [if_neg kc'] at a2 ⊢
          have hlh := lets_len (ht (ot u.1)) K o out
          exact deed _ _ _ a2.1 a2.2 hu (by simp only [List.length_cons]; omega)
theorem m_rrow {p : List Int32} {S : ce_S} {r : Nat} (hc : mctx p S r) {T : List tk} (hT : MTK p T S) (hk : tksok T ∧ tcok T) (hl : T.length ≤ 162) : ∃ b S', F_X12_readsRow [m20] S = some (b, S') ∧ MO p S r b (p_clo 7 (pl_eit 5 T)) S' := by
  have hr := hc.2.1
  have h0 : MG p S r T [] 0 [] (ce_sI (ce_sI (ce_sA S 30 0 r 0) 20 25 0 0) 20 24 0 0) := by
    refine ⟨mgq_trans (mgq_30 r _ _) (mgq_trans (mgq_sI r _ 25 _ (by decide)) (mgq_sI r _ 24 _ (by decide))), MTK_of hT (fun k k1 k2 => by rw [r_I_sI, if_pos rfl, if_neg (by omega), r_I_sI, if_pos rfl, if_neg (by omega)]; rfl), hk, ⟨fun k hk => absurd hk List.not_mem_nil, rfl⟩, ?_, ⟨?_, fun i hi => absurd hi (Nat.not_lt_zero _)⟩, ?_, fun e he => absurd he (Nat.not_lt_zero _)⟩
    · rw [r_I_sI, if_pos rfl, if_pos rfl, if_pos rfl]; rfl
    · rw [r_I_sI, if_pos rfl, if_neg (by decide), r_I_sI, if_pos rfl, if_pos rfl, if_pos rfl]; rfl
    · rw [r_A_sI, r_A_sI, r_A_sA, if_pos rfl, if_pos rfl, if_pos rfl]; rfl
  obtain ⟨b, S', a1, a2⟩ := (m_op hc T [] 0 [] _ none none h0 (by simp only [List.length_nil]; omega)).1
  rw [op_eit] at a2
  refine ⟨b, S', fI_by tl_X12_readsRow (gd_r rfl rfl) (fun kk => sg_X12_readsRow_0 S kk) ?_, a2⟩
  rw [hc.2.2, nI_clamp (by omega), if_neg (nJ_in hr (by decide))]
  exact ce_kk_of a1
/-- what a text's reading leaves alone -/
def mtq (nt : Nat) (S S' : ce_S) : Prop := (∀ t k i, ¬ (t = 20 ∧ 20 ≤ k ∧ k ≤ 26) → ce_I S' t k i = ce_I S t k i) ∧ ce_R S' = ce_R S ∧ (∀ t, t ≠ 29 → t ≠ 30 → t ≠ 31 → ce_A S' t = ce_A S t) ∧ (∀ e, e < 3 * nt → ce_A S' 30 0 e = ce_A S 30 0 e) ∧ (∀ e, e < 510 * nt → ce_A S' 29 0 e = ce_A S 29 0 e) ∧ S'.2.2.2 = S.2.2.2
theorem mtq_trans {r : Nat} {S S' S'' : ce_S} (h : mtq r S S') (g : mtq r S' S'') : mtq r S S'' := ⟨fun t k i q => (g.1 t k i q).trans (h.1 t k i q), g.2.1.trans h.2.1, fun t q1 q2 q3 => (g.2.2.1 t q1 q2 q3).trans (h.2.2.1 t q1 q2 q3), fun e q => (g.2.2.2.1 e q).trans (h.2.2.2.1 e q), fun e q => (g.2.2.2.2.1 e q).trans (h.2.2.2.2.1 e q), g.2.2.2.2.2.trans h.2.2.2.2.2⟩
theorem mtq_mgq {r nt : Nat} {S S' : ce_S} (h : mgq r S S') (hr : 3 * nt ≤ r) : mtq nt S S' := ⟨fun t k i q => h.1 t k i (fun z => q ⟨z.1, z.2.1, by omega⟩), h.2.1, h.2.2.1, fun e he => h.2.2.2.1 e (by omega), fun e he => h.2.2.2.2.1 e (by omega), h.2.2.2.2.2⟩
theorem mtq_sI (nt : Nat) (S : ce_S) (k : Nat) (v : Int32) (h : 20 ≤ k ∧ k ≤ 26) : mtq nt S (ce_sI S 20 k 0 v) := by
  refine ⟨fun t k' i q => ?_, rfl, fun _ _ _ _ => rfl, fun _ _ => rfl, fun _ _ => rfl, rfl⟩
  rw [r_I_sI]
  by_cases h1 : t = 20
  · have h2 : ¬ k' = k := fun e => q ⟨h1, by omega⟩
    rw [if_pos h1, if_neg h2]
  · rw [if_neg h1]
theorem mtq_mdq {nt : Nat} {S S' : ce_S} (h : mdq S S') : mtq nt S S' := mtq_mgq (r := 3 * nt) (mgq_mdq h) (Nat.le_refl _)
theorem mTL_mtq {nt : Nat} {p : List Int32} {S S' : ce_S} (h : mTL p S) (g : mtq nt S S') : mTL p S' := by
  have eL : ce_L S' = ce_L S := by unfold ce_L; rw [g.2.2.2.2.2]
  refine ⟨⟨(g.1 20 18 0 (by omega)).trans h.1.1, h.1.2.1, ?_⟩, ?_⟩
  · rw [g.2.2.1 28 (by decide) (by decide) (by decide)]; exact h.1.2.2
  · have q := h.2
    unfold MXw at q ⊢
    rw [g.2.2.1 41 (by decide) (by decide) (by decide), eL]; exact q
def rowis (S : ce_S) (r : Nat) (c : List Int32) : Prop := ce_A S 30 0 r = nI c.length ∧ ∀ e, e < c.length → ce_A S 29 0 (170 * r + e) = enc (c.getD e 0)
theorem rowis_mgq {r r' : Nat} {S S' : ce_S} {c : List Int32} (h : rowis S r c) (g : mgq r' S S') (hr : r ≠ r') (hc : c.length ≤ 160) : rowis S' r c := by
  refine ⟨(g.2.2.2.1 r hr).trans h.1, fun e he => (g.2.2.2.2.1 _ ?_).trans (h.2 e he)⟩
  rcases Nat.lt_or_ge r r' with q | q <;> omega
theorem rowis_A {r : Nat} {S S' : ce_S} {c : List Int32} (h : rowis S r c) (g : ce_A S' = ce_A S) : rowis S' r c := by
  unfold rowis at h ⊢; rw [g]; exact h
def MTT (p : List Int32) (T : List tk) (S : ce_S) : Prop := MTK p T S ∧ tksok T ∧ tcok T
theorem f_bad (S : ce_S) (x2 : Int32) : ce_Ev tb_X12_text 15 (0, 0) [some m20, some (.inl 0), some (.inl x2)] [] S (some (.inl (q_sub (-100) (ce_I S 20 22 0))), ce_sI S 20 18 0 0) := by
  refine ce_by tl_X12_text (fun kk => sg_X12_text_15 0 x2 S kk) ?_
  by_cases h : (3 : Int32) ≤ x2
  · rw [if_pos h, if_pos rfl]
  · rw [if_neg h, if_pos rfl, if_pos rfl]
/-- one part -/
theorem m_part {p : List Int32} {nt j : Nat} (hnt : nt < 6) (hj : j < 3) {S : ce_S} (hL : mTL p S) (h19 : ce_I S 20 19 0 = nI nt) {T : List tk} (hT : MTT p T S) (hl : T.length ≤ 162) : ∃ S', (∀ res, (∃ b, ce_Ev tb_X12_text 15 (0, 0) [some m20, some (.inl b), some (.inl (nI (j + 1)))] [] S' res ∧ (b = 1 ↔ (p_part (2 + nI j) T).2.isSome = true) ∧ (b = 0 ∨ b = 1)) → ce_Ev tb_X12_text 15 (0, 0) [some m20, some (.inl 1), some (.inl (nI j))] [] S res) ∧ (∃ S1, mdq S S1 ∧ mgq (3 * nt + j) (ce_sI S1 20 26 0 (nI (3 * nt + j))) S' ∨ S' = S) ∧ mtq nt S S' ∧ (∀ i c, i < j → c.length ≤ 160 → rowis S (3 * nt + i) c → rowis S' (3 * nt + i) c) ∧ (match p_part (2 + nI j) T with
    | (T2, some c) => MTT p T2 S' ∧ rowis S' (3 * nt + j) c
    | (T2, none) => ce_I S' 20 22 0 = nI (plc p T2) ∧ plc p T2 ≤ p.length) := by
  have hkey : ∀ x ∈ tcs, ∀ j, j < 3 → ((mS x = 101 ∧ mV x = 6 + nI j) ↔ x = 2 + nI j) := by decide
  obtain ⟨⟨u, r', q, b1, b2, b3, b4, b5, b6, b7, b8, b9, b10⟩, hk, ht⟩ := id hT
  subst b2
  have hut := ht u List.mem_cons_self
  have h6 := (tc_ah u.1 hut).2.2.2.2.2.1
  have hkj := hkey u.1 hut j hj
  have hj3 : ¬ (3 : Int32) ≤ nI j := by rw [show (3 : Int32) = nI 3 from rfl, nJ_le (by omega) (by omega)]; omega
  unfold p_part
  simp only
  by_cases e : u.1 = 2 + nI j
  · rw [if_pos e]
    obtain ⟨k1, k2⟩ := hkj.mpr e
    obtain ⟨z1, z2, z3⟩ := h6 (Or.inl k1)
    obtain ⟨S1, c1, c2, c3⟩ := m_reads hL b9 b1
    rw [← b3 z1 z3] at c3
    have h19' : ce_I S1 20 19 0 = nI nt := (c2.1 20 19 0 (by omega)).trans h19
    have hc : mctx p (ce_sI S1 20 26 0 (nI (3 * nt + j))) (3 * nt + j) := ⟨mTL_mtq (nt := nt) (mTL_mdq hL c2) (mtq_sI nt _ 26 _ (by decide)), by omega, by rw [r_I_sI, if_pos rfl, if_pos rfl, if_pos rfl]⟩
    have hkr : tksok r' ∧ tcok r' := ⟨fun x hx => hk x (List.mem_cons_of_mem _ hx), fun x hx => ht x (List.mem_cons_of_mem _ hx)⟩
    obtain ⟨b, S', d1, d2, d3⟩ := m_rrow hc (MTK_of c3 (fun k g1 g2 => by rw [r_I_sI, if_pos rfl, if_neg (by omega)])) hkr (by rw [List.length_cons] at hl; omega)
    have hq : mtq nt S S' := mtq_trans (mtq_mdq c2) (mtq_trans (mtq_sI nt _ 26 _ (by decide)) (mtq_mgq d2 (by omega)))
    have hb : (b = 1 ↔ (p_clo 7 (pl_eit 5 r')).2.isSome = true) ∧ (b = 0 ∨ b = 1) := by
      revert d3
      rcases p_res (p_clo 7 (pl_eit 5 r')) with ⟨T2, hq⟩ | ⟨T2, c, hq⟩
      · rw [hq]; intro d3; rw [d3.1]; exact ⟨⟨fun z => absurd z (by decide), fun z => absurd z (show ¬ (none : Option (List Int32)).isSome = true by decide)⟩, Or.inl rfl⟩
      · rw [hq]; intro d3; rw [d3.1]; exact ⟨⟨fun z => rfl, fun z => rfl⟩, Or.inr rfl⟩
    refine ⟨S', fun res hr => ?_, ⟨S1, Or.inl ⟨c2, d2⟩⟩, hq, fun i c hi hcl hrow => ?_, ?_⟩
    · obtain ⟨b', g1, g2, g3⟩ := hr
      have hbb : b' = b := by
        rcases hb.2 with q | q
        · rcases g3 with q2 | q2
          · rw [q, q2]
          · exact absurd (hb.1.mpr (g2.mp q2)) (by rw [q]; decide)
        · exact (g2.mpr (hb.1.mp q)).trans q.symm
      rw [hbb] at g1
      refine ce_by tl_X12_text (fun kk => sg_X12_text_15 1 (nI j) S kk) ?_
      rw [if_neg hj3, if_neg (show ¬ (1 : Int32) = 0 by decide), b4, if_pos k1, b6 z1 z2 z3, q_add_eq, if_pos k2, c1]
      simp only [Option.bind_some]
      rw [h19', q_add_eq, q_mul_eq, show (3 : Int32) = nI 3 from rfl, nJ_mul, nJ_add, d1]
      simp only [Option.bind_some]
      rw [q_add_eq, nJ_succ]
      exact ce_kk_of g1
    · refine rowis_mgq (rowis_A hrow ?_) d2 (by omega) hcl
      show ce_A S1 = ce_A S
      unfold ce_A; rw [c2.2]
    · revert d3
      rcases p_res (p_clo 7 (pl_eit 5 r')) with ⟨T2, hq⟩ | ⟨T2, c, hq⟩
      · rw [hq]; intro d3; exact d3.2
      · rw [hq]; intro d3; exact ⟨⟨d3.2.1, d3.2.2.1⟩, d3.2.2.2⟩
  · rw [if_neg e]
    refine ⟨S, fun res hr => ?_, ⟨S, Or.inr rfl⟩, ⟨fun _ _ _ _ => rfl, rfl, fun _ _ _ _ => rfl, fun _ _ => rfl, fun _ _ => rfl, rfl⟩, fun _ _ _ _ z => z, b8, Nat.sub_le _ _⟩
    obtain ⟨b', g1, g2, g3⟩ := hr
    have hb0 : b' = 0 := by
      rcases g3 with q | q
      · exact q
      · exact absurd (g2.mp q) (show ¬ (none : Option (List Int32)).isSome = true by decide)
    rw [hb0] at g1
    refine ce_by tl_X12_text (fun kk => sg_X12_text_15 1 (nI j) S kk) ?_
    rw [if_neg hj3, if_neg (show ¬ (1 : Int32) = 0 by decide), b4]
    by_cases k1 : mS u.1 = 101
    · obtain ⟨z1, z2, z3⟩ := h6 (Or.inl k1)
      rw [if_pos k1, b6 z1 z2 z3, q_add_eq, if_neg (fun z => e (hkj.mp ⟨k1, z⟩)), q_add_eq, nJ_succ]
      exact ce_kk_of g1
    · rw [if_neg k1, q_add_eq, nJ_succ]
      exact ce_kk_of g1
