/-! the reference's first rule -/
def fz (S0 S : ce_S) : Prop := (∀ t k j, ¬ (t = 20 ∧ k = 26) → ce_I S t k j = ce_I S0 t k j) ∧ ce_R S = ce_R S0 ∧ (∀ t, t ≠ 29 → t ≠ 30 → ce_A S t = ce_A S0 t) ∧ S.2.2.2 = S0.2.2.2
theorem fz.tr {S0 S1 S2 : ce_S} (h : fz S0 S1) (g : fz S1 S2) : fz S0 S2 := ⟨fun t k j q => (g.1 t k j q).trans (h.1 t k j q), g.2.1.trans h.2.1, fun t q r => (g.2.2.1 t q r).trans (h.2.2.1 t q r), g.2.2.2.trans h.2.2.2⟩
theorem fz_sI (S : ce_S) (v : Int32) : fz S (ce_sI S 20 26 0 v) := ⟨fun t k j q => by
  rw [r_I_sI]
  by_cases e : t = 20
  · rw [if_pos e, if_neg (fun z => q ⟨e, z⟩)]
  · rw [if_neg e], rfl, fun _ _ _ => rfl, rfl⟩
def WR (S0 : ce_S) (r : Nat) (out : List Int32) (S : ce_S) : Prop := fz S0 S ∧ ce_I S 20 26 0 = nI r ∧ ce_A S 30 0 r = nI out.length ∧ (∀ e, e < out.length → ce_A S 29 0 (170 * r + e) = enc (out.getD e 0)) ∧ (∀ q, q ≠ r → ce_A S 30 0 q = ce_A S0 30 0 q) ∧ ∀ i, i < 170 * r → ce_A S 29 0 i = ce_A S0 29 0 i
theorem w_writes {S0 S : ce_S} {r : Nat} {out : List Int32} (h : WR S0 r out S) (hr : r < 18) (hb : out.length < 160) {x y : Int32} (hx : x = enc y) : ∃ S', F_X12_writes [m20, .inl x] S = some S' ∧ WR S0 r (out ++ [y]) S' := by
  obtain ⟨a1, a2, a3, a4, a5, a6⟩ := h
  refine ⟨ce_sA (ce_sA S 29 0 (170 * r + out.length) x) 30 0 r (nI (out.length + 1)), fV_by tl_X12_writes (gd_r rfl rfl) (fun kk => sg_X12_writes_0 x S kk) ?_, ⟨a1.1, a1.2.1, fun t q1 q2 => ?_, a1.2.2.2⟩, a2, ?_, fun e he => ?_, fun q hq => ?_, fun i hi => ?_⟩
  · rw [a2, nI_clamp (by omega), if_neg (nJ_in hr (by decide)), a3, q_add_eq, q_mul_eq, show (170 : Int32) = nI 170 from rfl, nJ_mul, nJ_add, nI_clamp (by omega), if_neg (nJ_in (by omega) (by decide)), if_neg (nJ_in hr (by decide)), if_neg (nJ_in hr (by decide)), q_add_eq, nJ_succ]
  · funext a b
    rw [r_A_sA, if_neg q2, r_A_sA, if_neg q1, a1.2.2.1 t q1 q2]
  · rw [r_A_sA, if_pos rfl, if_pos rfl, if_pos rfl, List.length_append]; rfl
  · rw [List.length_append, List.length_cons, List.length_nil] at he
    rw [r_A_sA, if_neg (by decide), r_A_sA, if_pos rfl, if_pos rfl, List.getD_eq_getElem?_getD]
    by_cases e1 : e = out.length
    · rw [e1, if_pos rfl, List.getElem?_append_right (Nat.le_refl _), Nat.sub_self, hx]; rfl
    · rw [if_neg (by omega), List.getElem?_append_left (by omega), ← List.getD_eq_getElem?_getD]; exact a4 e (by omega)
  · rw [r_A_sA, if_pos rfl, if_pos rfl, if_neg hq, r_A_sA, if_neg (by decide)]; exact a5 q hq
  · rw [r_A_sA, if_neg (by decide), r_A_sA, if_pos rfl, if_pos rfl, if_neg (by omega)]; exact a6 i hi
theorem WR_new {S : ce_S} {r : Nat} (h : ce_A S 30 0 r = 0) : WR (ce_sI S 20 26 0 (nI r)) r [] (ce_sI S 20 26 0 (nI r)) := ⟨⟨fun _ _ _ _ => rfl, rfl, fun _ _ _ => rfl, rfl⟩, by rw [r_I_sI, if_pos rfl, if_pos rfl, if_pos rfl], h, fun e he => absurd he (Nat.not_lt_zero _), fun _ _ => rfl, fun _ _ => rfl⟩
theorem tx_w1 : cwf tx0.1 := ⟨fun n => rfl, by decide⟩
theorem tx_w2 : cwf tx0.2.1 := ⟨fun n => rfl, by decide⟩
theorem tx_w3 : cwf tx0.2.2 := ⟨fun n => rfl, by decide⟩
set_option maxHeartbeats 1000000 in
theorem m_first {S : ce_S} (h : ∀ e, ce_A S 30 0 e = 0) : ∃ S', F_X12_firstRule [m20] S = some S' ∧ fz S S' ∧ m_row S' 0 tx0.1 ∧ m_row S' 1 tx0.2.1 ∧ m_row S' 2 tx0.2.2 := by
  have k0' : WR (ce_sI S 20 26 0 (nI 0)) 0 [] (ce_sI S 20 26 0 (nI 0)) := WR_new (h 0)
  obtain ⟨q1, e1, k1⟩ := w_writes k0' (by decide) (by decide) (show 20000 = enc (-1) by decide)
  obtain ⟨q2, e2, k2⟩ := w_writes k1 (by decide) (by decide) (show 20001 = enc (-2) by decide)
  obtain ⟨q3, e3, k3⟩ := w_writes k2 (by decide) (by decide) (show 2 = enc 2 by decide)
  obtain ⟨q4, e4, k4⟩ := w_writes k3 (by decide) (by decide) (show 30003 = enc (-15) by decide)
  obtain ⟨q5, e5, k5⟩ := w_writes k4 (by decide) (by decide) (show 30001 = enc (-13) by decide)
  obtain ⟨q6, e6, k6⟩ := w_writes k5 (by decide) (by decide) (show 20002 = enc (-3) by decide)
  obtain ⟨q7, e7, k7⟩ := w_writes k6 (by decide) (by decide) (show 9 = enc 9 by decide)
  obtain ⟨q8, e8, k8⟩ := w_writes k7 (by decide) (by decide) (show 30004 = enc (-11) by decide)
  obtain ⟨q9, e9, k9⟩ := w_writes k8 (by decide) (by decide) (show 10 = enc 10 by decide)
  obtain ⟨q10, e10, k10⟩ := w_writes k9 (by decide) (by decide) (show 30003 = enc (-15) by decide)
  obtain ⟨q11, e11, k11⟩ := w_writes k10 (by decide) (by decide) (show 30002 = enc (-14) by decide)
  have k11' : WR (ce_sI q11 20 26 0 (nI 1)) 1 [] (ce_sI q11 20 26 0 (nI 1)) := WR_new ((k11.2.2.2.2.1 1 (by decide)).trans (h 1))
  obtain ⟨q12, e12, k12⟩ := w_writes k11' (by decide) (by decide) (show 2 = enc 2 by decide)
  obtain ⟨q13, e13, k13⟩ := w_writes k12 (by decide) (by decide) (show 20000 = enc (-1) by decide)
  obtain ⟨q14, e14, k14⟩ := w_writes k13 (by decide) (by decide) (show 30003 = enc (-15) by decide)
  obtain ⟨q15, e15, k15⟩ := w_writes k14 (by decide) (by decide) (show 20001 = enc (-2) by decide)
  obtain ⟨q16, e16, k16⟩ := w_writes k15 (by decide) (by decide) (show 20 = enc 20 by decide)
  obtain ⟨q17, e17, k17⟩ := w_writes k16 (by decide) (by decide) (show 30003 = enc (-15) by decide)
  obtain ⟨q18, e18, k18⟩ := w_writes k17 (by decide) (by decide) (show 30001 = enc (-13) by decide)
  have k18' : WR (ce_sI q18 20 26 0 (nI 2)) 2 [] (ce_sI q18 20 26 0 (nI 2)) := WR_new ((k18.2.2.2.2.1 2 (by decide)).trans ((k11.2.2.2.2.1 2 (by decide)).trans (h 2)))
  obtain ⟨q19, e19, k19⟩ := w_writes k18' (by decide) (by decide) (show 0 = enc 0 by decide)
  refine ⟨q19, fV_by tl_X12_firstRule (gd_r rfl rfl) (fun kk => sg_X12_firstRule_0 S kk) ?_, ?_, ?_, ?_, ?_⟩
  · rw [show ce_sI S 20 26 0 0 = ce_sI S 20 26 0 (nI 0) from rfl, e1]
    simp only [Option.bind_some]
    rw [e2]
    simp only [Option.bind_some]
    rw [e3]
    simp only [Option.bind_some]
    rw [e4]
    simp only [Option.bind_some]
    rw [e5]
    simp only [Option.bind_some]
    rw [e6]
    simp only [Option.bind_some]
    rw [e7]
    simp only [Option.bind_some]
    rw [e8]
    simp only [Option.bind_some]
    rw [e9]
    simp only [Option.bind_some]
    rw [e10]
    simp only [Option.bind_some]
    rw [e11]
    simp only [Option.bind_some]
    rw [show ce_sI q11 20 26 0 1 = ce_sI q11 20 26 0 (nI 1) from rfl, e12]
    simp only [Option.bind_some]
    rw [e13]
    simp only [Option.bind_some]
    rw [e14]
    simp only [Option.bind_some]
    rw [e15]
    simp only [Option.bind_some]
    rw [e16]
    simp only [Option.bind_some]
    rw [e17]
    simp only [Option.bind_some]
    rw [e18]
    simp only [Option.bind_some]
    rw [show ce_sI q18 20 26 0 2 = ce_sI q18 20 26 0 (nI 2) from rfl, e19]
    simp only [Option.bind_some]
  · exact (fz_sI _ _).tr (k11.1.tr ((fz_sI _ _).tr (k18.1.tr ((fz_sI _ _).tr k19.1))))
  · refine ⟨?_, by decide, tx_w1, fun e he => ?_⟩
    · exact (k19.2.2.2.2.1 0 (by decide)).trans ((k18.2.2.2.2.1 0 (by decide)).trans k11.2.2.1)
    · have he : e < 11 := he
      exact (k19.2.2.2.2.2 _ (by omega)).trans ((k18.2.2.2.2.2 _ (by omega)).trans (k11.2.2.2.1 e he))
  · refine ⟨?_, by decide, tx_w2, fun e he => ?_⟩
    · exact (k19.2.2.2.2.1 1 (by decide)).trans k18.2.2.1
    · have he : e < 7 := he
      exact (k19.2.2.2.2.2 _ (by omega)).trans (k18.2.2.2.1 e he)
  · exact ⟨k19.2.2.1, by decide, tx_w3, fun e he => k19.2.2.2.1 e he⟩
