/-! the reference, new: what its constructor comes to -/
def cM : Nat → Nat := lgd [1, 1, 1, 1, 1, 1, 1, 1, 1, 1, 6, 19, 3, 1, 1, 4, 4, 1, 0, 0, 1, 1, 1, 1, 1, 1, 1, 1, 1, 1, 1, 1, 1, 1, 1, 1, 1, 1, 0, 0, 1, 12]
theorem so_0 {t : Nat} (h : ce_so t = 0) : t < 20 ∨ t = 20 := by
  rcases Nat.lt_or_ge t 42 with q | q
  · revert h
    exact (show ∀ t, t < 42 → ce_so t = 0 → t < 20 ∨ t = 20 by decide) t q
  · obtain ⟨n, e⟩ : ∃ n, t = n + 42 := ⟨t - 42, by omega⟩
    subst e
    cases h
theorem so_2 {t : Nat} (h : ce_so t = 2) : t < 20 ∨ t = 40 := by
  rcases Nat.lt_or_ge t 42 with q | q
  · revert h
    exact (show ∀ t, t < 42 → ce_so t = 2 → t < 20 ∨ t = 40 by decide) t q
  · obtain ⟨n, e⟩ : ∃ n, t = n + 42 := ⟨t - 42, by omega⟩
    subst e
    cases h
theorem fk_20 {k : Nat} {q : Nat × (Nat → Nat)} (h : ce_fk 20 k = .inr (.inl q)) : (∀ i, q.2 i = 0) ∧ 0 < cM q.1 := by
  match k, h with
  | 0, h => cases h; exact ⟨fun _ => rfl, by decide⟩
  | 1, h => cases h; exact ⟨fun _ => rfl, by decide⟩
  | 2, h => cases h; exact ⟨fun _ => rfl, by decide⟩
  | 3, h => cases h; exact ⟨fun _ => rfl, by decide⟩
  | 4, h => cases h; exact ⟨fun _ => rfl, by decide⟩
  | 5, h => cases h; exact ⟨fun _ => rfl, by decide⟩
  | 6, h => cases h; exact ⟨fun _ => rfl, by decide⟩
  | 7, h => cases h
  | 8, h => cases h
  | 9, h => cases h
  | 10, h => cases h
  | 11, h => cases h
  | 12, h => cases h; exact ⟨fun _ => rfl, by decide⟩
  | 13, h => cases h; exact ⟨fun _ => rfl, by decide⟩
  | 14, h => cases h; exact ⟨fun _ => rfl, by decide⟩
  | 15, h => cases h; exact ⟨fun _ => rfl, by decide⟩
  | 16, h => cases h; exact ⟨fun _ => rfl, by decide⟩
  | 17, h => cases h; exact ⟨fun _ => rfl, by decide⟩
  | 18, h => cases h
  | 19, h => cases h
  | 20, h => cases h
  | 21, h => cases h
  | 22, h => cases h
  | 23, h => cases h
  | 24, h => cases h
  | 25, h => cases h
  | 26, h => cases h
  | 27, h => cases h; exact ⟨fun _ => rfl, by decide⟩
  | 28, h => cases h
  | 29, h => cases h
  | 30, h => cases h
  | 31, h => cases h
  | 32, h => cases h
  | 33, h => cases h
  | 34, h => cases h
  | 35, h => cases h
  | 36, h => cases h
  | 37, h => cases h
  | 38, h => cases h
  | 39, h => cases h
  | 40, h => cases h
  | 41, h => cases h; exact ⟨fun _ => rfl, by decide⟩
  | 42, h => cases h; exact ⟨fun _ => rfl, by decide⟩
  | 43, h => cases h; exact ⟨fun _ => rfl, by decide⟩
  | 44, h => cases h; exact ⟨fun _ => rfl, by decide⟩
  | _ + 45, h => cases h
theorem fk_20' {k t' : Nat} (h : ce_fk 20 k = .inr (.inr t')) : False := by
  match k, h with
  | 0, h => cases h
  | 1, h => cases h
  | 2, h => cases h
  | 3, h => cases h
  | 4, h => cases h
  | 5, h => cases h
  | 6, h => cases h
  | 7, h => cases h
  | 8, h => cases h
  | 9, h => cases h
  | 10, h => cases h
  | 11, h => cases h
  | 12, h => cases h
  | 13, h => cases h
  | 14, h => cases h
  | 15, h => cases h
  | 16, h => cases h
  | 17, h => cases h
  | 18, h => cases h
  | 19, h => cases h
  | 20, h => cases h
  | 21, h => cases h
  | 22, h => cases h
  | 23, h => cases h
  | 24, h => cases h
  | 25, h => cases h
  | 26, h => cases h
  | 27, h => cases h
  | 28, h => cases h
  | 29, h => cases h
  | 30, h => cases h
  | 31, h => cases h
  | 32, h => cases h
  | 33, h => cases h
  | 34, h => cases h
  | 35, h => cases h
  | 36, h => cases h
  | 37, h => cases h
  | 38, h => cases h
  | 39, h => cases h
  | 40, h => cases h
  | 41, h => cases h
  | 42, h => cases h
  | 43, h => cases h
  | 44, h => cases h
  | _ + 45, h => cases h
/-- the component's references are cells' -/
def okB (S : ce_S) : Prop := (∀ t k i, t < 20 → i < ce_C S t → ce_so t = 0 → (∀ q, ce_fk t k = .inr (.inl q) → q.2 i < ce_C S q.1) ∧ (∀ t', ce_fk t k = .inr (.inr t') → ce_R S t k i < ce_C S t')) ∧ (∀ t i e x, t < 20 → i < ce_C S t → ce_so t = 2 → e < ce_len S t i → ce_el S t e = some x → x < ce_C S (ce_et t))
theorem okB_of {S : ce_S} (h : ce_okS S) : okB S := ⟨fun t k i _ hi ht => h.1 t k i hi ht, fun t i e x _ hi ht he hx => h.2 t i e x hi ht he hx⟩
theorem okB_kg {W : Nat → Nat → Prop} {S S' : ce_S} (h : okB S) (g : kg W S S') (hW : ∀ t j, W t j → 20 ≤ t) (hC : ∀ t, t < 20 → ce_C S' t = ce_C S t) (hm : ∀ t, ce_C S t ≤ ce_C S' t) : okB S' := by
  have hw : ∀ t j, t < 20 → ¬ W t j := fun t j q z => by have := hW t j z; omega
  refine ⟨fun t k i ht hi hs => ?_, fun t i e x ht hi hs he hx => ?_⟩
  · rw [hC t ht] at hi
    obtain ⟨a, b⟩ := h.1 t k i ht hi hs
    refine ⟨fun q hq => Nat.lt_of_lt_of_le (a q hq) (hm _), fun t' hq => ?_⟩
    rw [g.R (by omega) (hw t i ht)]
    exact Nat.lt_of_lt_of_le (b t' hq) (hm _)
  · rw [hC t ht] at hi
    rw [ce_len_kept (g.L (by omega) (hw t i ht))] at he
    refine Nat.lt_of_lt_of_le (h.2 t i e x ht hi hs he ?_) (hm _)
    unfold ce_el at hx ⊢
    rw [g.2 (hw 5 0 (by decide))] at hx
    exact hx
theorem okS_M {S : ce_S} (h : okB S) (hC : ∀ t, ce_C S t = cM t) : ce_okS S := by
  refine ⟨fun t k i hi ht => ?_, fun t i e x hi ht he hx => ?_⟩
  · rcases so_0 ht with q | q
    · exact h.1 t k i q hi ht
    · subst q
      refine ⟨fun q hq => ?_, fun t' hq => absurd hq (fun z => fk_20' z)⟩
      obtain ⟨a, b⟩ := fk_20 hq
      rw [a, hC]; exact b
  · rcases so_2 ht with q | q
    · exact h.2 t i e x q hi ht he hx
    · subst q
      have hx : some (ce_k0 e) = some x := hx
      cases hx
      have he : e < 12 := he
      rw [hC]; exact he
theorem ksub_a (S : ce_S) : ksub S kPa = S := by
  have e : (fun t => if kPa t = true then ce_C S t else 0) = ce_C S := funext fun t => if_pos rfl
  unfold ksub
  rw [e]
  rfl
set_option maxRecDepth 20000 in
set_option maxHeartbeats 1000000 in
theorem m_init {S : ce_S} (hK : KN (lgd [1, 1, 1, 1, 1, 1, 1, 1, 1, 1, 6, 19, 3, 1, 1, 4, 4, 1, 0, 0, 1, 0, 0, 0, 0, 0, 0, 0, 0, 0, 0, 0, 0, 0, 0, 0, 0, 0, 0, 0, 0, 0]) [(20, 0, 0), (20, 1, 0), (20, 2, 0), (20, 3, 0), (20, 4, 0), (20, 5, 0), (20, 6, 0), (20, 12, 0), (20, 13, 0), (20, 14, 0), (20, 15, 0), (20, 16, 0), (20, 17, 0), (20, 27, 0), (20, 41, 0), (20, 42, 0), (20, 43, 0), (20, 44, 0)] S) (hI : ∀ k, ce_I S 20 k 0 = 0) (hB : okB S) : ∃ S', F_X12_init [m20] S = some S' ∧ MR w0 S' ∧ KN cM [] S' ∧ kg (fun t _ => 20 ≤ t) S S' := by
  refine fV_jg tl_X12_init (gd_r rfl rfl) ?_
  refine x12_A hK (fun S1 k1 iA i8 i9 i10 => ?_)
  refine x12_W0 k1.1 (fun T0 t0 l0 a0 => ?_)
  refine x12_W1 t0.1 (fun T1 t1 l1 a1 => ?_)
  refine x12_W2 t1.1 (fun T2 t2 l2 a2 => ?_)
  refine x12_W3 t2.1 (fun T3 t3 l3 a3 => ?_)
  refine x12_W4 t3.1 (fun T4 t4 l4 a4 => ?_)
  refine x12_W5 t4.1 (fun T5 t5 l5 a5 => ?_)
  refine x12_W6 t5.1 (fun T6 t6 l6 a6 => ?_)
  refine x12_W7 t6.1 (fun T7 t7 l7 a7 => ?_)
  refine x12_W8 t7.1 (fun T8 t8 l8 a8 => ?_)
  refine x12_W9 t8.1 (fun T9 t9 l9 a9 => ?_)
  refine x12_W10 t9.1 (fun T10 t10 l10 a10 => ?_)
  refine x12_W11 t10.1 (fun T11 t11 l11 a11 => ?_)
  refine x12_R1 t11.1 (fun U1 u1 => ?_)
  refine x12_R2 u1.1 (fun U2 u2 z30 => ?_)
  refine x12_R3 u2.1 (fun U3 u3 iB i19 => ?_)
  refine x12_R4 u3.1 (fun U4 u4 z35 => ?_)
  refine x12_R5 u4.1 (fun U5 u5 => ?_)
  refine x12_R6 u5.1 (fun U6 u6 z34 => ?_)
  have G6 : kg (fun t _ => t = 34) U5 U6 := u6.2
  have hw41 : ∀ e, ∀ t j : Nat, (t = 41 ∧ j = e) → 20 ≤ t := fun e t j h => by omega
  have HR : kg (fun t _ => 20 ≤ t ∧ ¬ t = 41) T11 U6 := ((((u1.2.le (fun t j h => by omega)).tr (u2.2.le (fun t j h => by omega))).tr (u3.2.le (fun t j h => by omega))).tr (u4.2.le (fun t j h => by omega))).tr ((u5.2.le (fun t j h => by omega)).tr (u6.2.le (fun t j h => by omega)))
  have H11 : kg (fun t j => 20 ≤ t ∧ ¬ (t = 41 ∧ j ≤ 11)) T11 U6 := HR.le (fun t j h => by omega)
  have H10 : kg (fun t j => 20 ≤ t ∧ ¬ (t = 41 ∧ j ≤ 10)) T10 U6 := kg.tr (t11.2.le (fun t j h => by omega)) (H11.le (fun t j h => by omega))
  have H9 : kg (fun t j => 20 ≤ t ∧ ¬ (t = 41 ∧ j ≤ 9)) T9 U6 := kg.tr (t10.2.le (fun t j h => by omega)) (H10.le (fun t j h => by omega))
  have H8 : kg (fun t j => 20 ≤ t ∧ ¬ (t = 41 ∧ j ≤ 8)) T8 U6 := kg.tr (t9.2.le (fun t j h => by omega)) (H9.le (fun t j h => by omega))
  have H7 : kg (fun t j => 20 ≤ t ∧ ¬ (t = 41 ∧ j ≤ 7)) T7 U6 := kg.tr (t8.2.le (fun t j h => by omega)) (H8.le (fun t j h => by omega))
  have H6 : kg (fun t j => 20 ≤ t ∧ ¬ (t = 41 ∧ j ≤ 6)) T6 U6 := kg.tr (t7.2.le (fun t j h => by omega)) (H7.le (fun t j h => by omega))
  have H5 : kg (fun t j => 20 ≤ t ∧ ¬ (t = 41 ∧ j ≤ 5)) T5 U6 := kg.tr (t6.2.le (fun t j h => by omega)) (H6.le (fun t j h => by omega))
  have H4 : kg (fun t j => 20 ≤ t ∧ ¬ (t = 41 ∧ j ≤ 4)) T4 U6 := kg.tr (t5.2.le (fun t j h => by omega)) (H5.le (fun t j h => by omega))
  have H3 : kg (fun t j => 20 ≤ t ∧ ¬ (t = 41 ∧ j ≤ 3)) T3 U6 := kg.tr (t4.2.le (fun t j h => by omega)) (H4.le (fun t j h => by omega))
  have H2 : kg (fun t j => 20 ≤ t ∧ ¬ (t = 41 ∧ j ≤ 2)) T2 U6 := kg.tr (t3.2.le (fun t j h => by omega)) (H3.le (fun t j h => by omega))
  have H1 : kg (fun t j => 20 ≤ t ∧ ¬ (t = 41 ∧ j ≤ 1)) T1 U6 := kg.tr (t2.2.le (fun t j h => by omega)) (H2.le (fun t j h => by omega))
  have H0 : kg (fun t j => 20 ≤ t ∧ ¬ (t = 41 ∧ j ≤ 0)) T0 U6 := kg.tr (t1.2.le (fun t j h => by omega)) (H1.le (fun t j h => by omega))
  have HA : kg (fun t j => t = 41 ∨ (28 ≤ t ∧ t ≤ 30)) S1 U2 := kg.tr (kg.tr (kg.tr (kg.tr (kg.tr (kg.tr (kg.tr (kg.tr (kg.tr (kg.tr (kg.tr (kg.tr (kg.tr (t0.2.le (fun t j h => by omega)) (t1.2.le (fun t j h => by omega))) (t2.2.le (fun t j h => by omega))) (t3.2.le (fun t j h => by omega))) (t4.2.le (fun t j h => by omega))) (t5.2.le (fun t j h => by omega))) (t6.2.le (fun t j h => by omega))) (t7.2.le (fun t j h => by omega))) (t8.2.le (fun t j h => by omega))) (t9.2.le (fun t j h => by omega))) (t10.2.le (fun t j h => by omega))) (t11.2.le (fun t j h => by omega))) (u1.2.le (fun t j h => by omega))) (u2.2.le (fun t j h => by omega))
  have HB : kg (fun t j => 34 ≤ t ∧ t ≤ 37) U3 U6 := kg.tr (u4.2.le (fun t j h => by omega)) (kg.tr (u5.2.le (fun t j h => by omega)) (u6.2.le (fun t j h => by omega)))
  have HC : kg (fun t j => 20 ≤ t) S U6 := kg.tr (k1.2.le (fun t j h => by omega)) (kg.tr (HA.le (fun t j h => by omega)) (kg.tr (u3.2.le (fun t j h => by omega)) (HB.le (fun t j h => by omega))))
  have I20 : ∀ k, k ≠ 8 → k ≠ 9 → k ≠ 10 → k ≠ 19 → ce_I U6 20 k 0 = 0 := fun k h8 h9 h10 h19 => (HB.I (by decide) (by omega) k).trans ((iB k h19).trans ((HA.I (by decide) (by omega) k).trans ((iA k h8 h9 h10).trans (hI k))))
  have I20' : ∀ k, k ≠ 19 → ce_I U6 20 k 0 = ce_I S1 20 k 0 := fun k h19 => (HB.I (by decide) (by omega) k).trans ((iB k h19).trans (HA.I (by decide) (by omega) k))
  have I19 : ce_I U6 20 19 0 = 1 := (HB.I (by decide) (by omega) 19).trans i19
  have h30 : ∀ e, ce_A U6 30 0 e = 0 := fun e => by
    rw [HB.A (by decide) (by omega), u3.2.A (by decide) (by omega)]
    exact z30 e
  have h35 : ∀ e, ce_A U6 35 0 e = 0 := fun e => by
    rw [u6.2.A (by decide) (by omega), u5.2.A (by decide) (by omega)]
    exact z35 e
  obtain ⟨F, f1, f2, r0, r1, r2⟩ := m_first h30
  have hCF : ∀ t, ce_C F t = ce_C U6 t := fun t => by show F.2.2.2.2.1 t = _; rw [f2.2.2.2]; rfl
  have hLF : ∀ t j, ce_L F t j = ce_L U6 t j := fun t j => by show F.2.2.2.1 t j = _; rw [f2.2.2.2]; rfl
  have hQF : ce_Q F = ce_Q U6 := by show F.2.2.2.2.2 = _; rw [f2.2.2.2]; rfl
  have hC20 : ∀ t, t < 20 → cM t = lgd [1, 1, 1, 1, 1, 1, 1, 1, 1, 1, 6, 19, 3, 1, 1, 4, 4, 1, 0, 0, 1, 0, 0, 0, 0, 0, 0, 0, 0, 0, 0, 0, 0, 0, 0, 0, 0, 0, 0, 0, 0, 0] t := by decide
  have hok : ce_okS U6 := okS_M (okB_kg hB HC (fun _ _ h => h) (fun t ht => by rw [u6.1.1, hK.1]; exact hC20 t ht) (fun t => by
    rw [u6.1.1, hK.1]
    rcases Nat.lt_or_ge t 63 with q | q
    · exact (show ∀ t, t < 63 → lgd [1, 1, 1, 1, 1, 1, 1, 1, 1, 1, 6, 19, 3, 1, 1, 4, 4, 1, 0, 0, 1, 0, 0, 0, 0, 0, 0, 0, 0, 0, 0, 0, 0, 0, 0, 0, 0, 0, 0, 0, 0, 0] t ≤ cM t by decide) t q
    · have e : ∀ l : List Nat, l.length ≤ 63 → lgd l t = 0 := fun l hl => by
        unfold lgd
        rw [if_neg (by omega), List.getD_eq_getElem?_getD, List.getElem?_eq_none (by omega)]
        rfl
      rw [e _ (by decide)]
      exact Nat.zero_le _)) u6.1.1
  have hfull : kfu U6 := u6.1.kfu
  have hF : kg (fun t _ => 20 ≤ t) U6 F := ⟨fun t j _ hw => ⟨fun k => f2.1 t k j (fun z => by omega), fun k => by rw [f2.2.1], fun e => by rw [f2.2.2.1 t (by omega) (by omega)], hLF t j⟩, fun _ => hQF⟩
  refine jg_sg tl_X12_init 2 (i' := 343) (fun kk => rfl) ?_
  refine jg_kp (i' := 344) (P := kPa) (n := 1) (F := ce_wV F_X12_firstRule) (a := [m20]) (rest := []) (st' := []) (r := none) (S1 := F) (S2 := F) rfl rfl rfl rfl (by rw [ksub_a]; unfold ce_wV; rw [f1]; rfl) ⟨Nat.zero_le _, Nat.le_refl _⟩ ?_ rfl ?_ ?_
  · rw [show kpre kPa U6 F [m20] = (kfullP U6 kPa (ce_C U6) ∧ ce_okS (ksub U6 kPa) ∧ ce_okT (ksub U6 kPa) [m20] ∧ (kPa 61 = true ∧ kPa 62 = true) ∧ (∀ t, ce_C F t = ce_C (ksub U6 kPa) t) ∧ kothers U6 F kPa ∧ kfullP F kPa (ce_C U6)) from rfl, ksub_a]
    refine ⟨fun t k i _ _ => hfull t k i, hok, fun v hv => ?_, ⟨rfl, rfl⟩, hCF, fun t i hP => absurd rfl hP, fun t k i _ _ => by rw [f2.2.1]; exact hfull t k i⟩
    rcases List.mem_cons.mp hv with e | hv
    · subst e
      show 0 < ce_C U6 20
      rw [u6.1.1]; decide
    · cases hv
  · show (F.1, F.2.1, F.2.2.1, F.2.2.2.1, U6.2.2.2.2.1, F.2.2.2.2.2) = F
    have : U6.2.2.2.2.1 = F.2.2.2.2.1 := (funext hCF).symm
    rw [this]
  refine jg_end (x := none) (fun k => rfl) ⟨rfl, ?_, ⟨fun t => (hCF t).trans (u6.1.1 t), fun t k j _ => by rw [f2.2.1]; exact hfull t k j⟩, HC.tr hF⟩
  have J20 : ∀ k, k ≠ 26 → ce_I F 20 k 0 = ce_I U6 20 k 0 := fun k hk => f2.1 20 k 0 (fun z => hk z.2)
  refine ⟨⟨⟨(J20 7 (by decide)).trans (I20 7 (by decide) (by decide) (by decide) (by decide)), by decide⟩, ⟨(J20 8 (by decide)).trans ((I20' 8 (by decide)).trans i8), (J20 9 (by decide)).trans ((I20' 9 (by decide)).trans i9), (J20 10 (by decide)).trans ((I20' 10 (by decide)).trans i10), (J20 11 (by decide)).trans (I20 11 (by decide) (by decide) (by decide) (by decide)), by decide, by decide⟩, ⟨(J20 19 (by decide)).trans I19, by decide, by decide, fun k hk => ?_⟩, ⟨(J20 18 (by decide)).trans (I20 18 (by decide) (by decide) (by decide) (by decide)), Nat.zero_le _, fun e he => absurd he (Nat.not_lt_zero _)⟩, fun i hi => ?_, ⟨fun _ => (J20 33 (by decide)).trans (I20 33 (by decide) (by decide) (by decide) (by decide)), fun m f c e => by cases e⟩, fun k hk => ?_⟩, fun i hi => absurd hi (Nat.not_lt_zero _)⟩
  · have hk : k = 0 := by
      have hk : k < 1 := hk
      omega
    subst hk
    exact ⟨r0, r1, r2⟩
  · refine ⟨?_, ?_, Nat.zero_le _, Or.inl rfl, fun e he => absurd he (Nat.not_lt_zero _)⟩
    · rw [f2.2.2.1 34 (by decide) (by decide)]; exact z34 i hi
    · rw [f2.2.2.1 35 (by decide) (by decide)]; exact h35 i
  · rw [hLF, f2.2.2.1 41 (by decide) (by decide)]
    match k, hk with
    | 0, _ => exact ⟨(H0.L (by decide) (by omega)).trans l0, fun e he => by rw [H0.A (by decide) (by omega)]; exact a0 e he⟩
    | 1, _ => exact ⟨(H1.L (by decide) (by omega)).trans l1, fun e he => by rw [H1.A (by decide) (by omega)]; exact a1 e he⟩
    | 2, _ => exact ⟨(H2.L (by decide) (by omega)).trans l2, fun e he => by rw [H2.A (by decide) (by omega)]; exact a2 e he⟩
    | 3, _ => exact ⟨(H3.L (by decide) (by omega)).trans l3, fun e he => by rw [H3.A (by decide) (by omega)]; exact a3 e he⟩
    | 4, _ => exact ⟨(H4.L (by decide) (by omega)).trans l4, fun e he => by rw [H4.A (by decide) (by omega)]; exact a4 e he⟩
    | 5, _ => exact ⟨(H5.L (by decide) (by omega)).trans l5, fun e he => by rw [H5.A (by decide) (by omega)]; exact a5 e he⟩
    | 6, _ => exact ⟨(H6.L (by decide) (by omega)).trans l6, fun e he => by rw [H6.A (by decide) (by omega)]; exact a6 e he⟩
    | 7, _ => exact ⟨(H7.L (by decide) (by omega)).trans l7, fun e he => by rw [H7.A (by decide) (by omega)]; exact a7 e he⟩
    | 8, _ => exact ⟨(H8.L (by decide) (by omega)).trans l8, fun e he => by rw [H8.A (by decide) (by omega)]; exact a8 e he⟩
    | 9, _ => exact ⟨(H9.L (by decide) (by omega)).trans l9, fun e he => by rw [H9.A (by decide) (by omega)]; exact a9 e he⟩
    | 10, _ => exact ⟨(H10.L (by decide) (by omega)).trans l10, fun e he => by rw [H10.A (by decide) (by omega)]; exact a10 e he⟩
    | 11, _ => exact ⟨(H11.L (by decide) (by omega)).trans l11, fun e he => by rw [H11.A (by decide) (by omega)]; exact a11 e he⟩
