/-! odds -/
theorem rem_31 : ∀ a b : Fin 31, nI a.1 - nI a.1 / nI b.1 * nI b.1 = nI (a.1 % b.1) := by decide +kernel
theorem div_31 : ∀ a b : Fin 31, nI a.1 / nI b.1 = nI (a.1 / b.1) := by decide +kernel
theorem c_gcd6 (x0 x1 : Int32) (S : ce_S) : ∀ (b a i : Nat) (z : Option ce_V), a ≤ 30 → b ≤ 30 → i + b ≤ 31 → 0 < Nat.gcd a b → ce_Ev tb_X11_commonDivisor 6 (0, 0) [some (.inl x0), some (.inl x1), some (.inl (nI a)), some (.inl (nI b)), some (.inl (nI i)), z] [] S (some (.inl (nI (Nat.gcd a b))), S) := by
  intro b
  induction b using Nat.strongRecOn with
  | ind b ih =>
    intro a i z ha hb hi hg
    refine ce_by tl_X11_commonDivisor (fun kk => sg_X11_commonDivisor_6 x0 x1 (nI a) (nI b) (nI i) z S kk) ?_
    have h1 : ¬ (64 : Int32) ≤ nI i := by rw [show (64 : Int32) = nI 64 from rfl, nJ_le (by omega) (by omega)]; omega
    rw [if_neg h1]
    by_cases h0 : b = 0
    · subst h0
      have e0 : nI 0 = 0 := rfl
      rw [if_pos e0, Nat.gcd_zero_right]
      rw [Nat.gcd_zero_right] at hg
      by_cases h2 : (1 : Int32) < nI a
      · rw [if_pos h2]
      · rw [if_neg h2]
        rw [show (1 : Int32) = nI 1 from rfl, nJ_lt (by omega) (by omega)] at h2
        rw [show a = 1 by omega]; rfl
    · have e0 : ¬ nI b = 0 := by rw [show (0 : Int32) = nI 0 from rfl, nJ_inj (by omega) (by omega)]; exact h0
      have hr : q_rem (nI a) (nI b) = nI (a % b) := by
        rw [q_rem_eq]; exact rem_31 ⟨a, by omega⟩ ⟨b, by omega⟩
      have hlt : a % b < b := Nat.mod_lt _ (by omega)
      have e1 : nI i + 1 = nI (i + 1) := nJ_succ i
      have hgg : Nat.gcd b (a % b) = Nat.gcd a b := by
        rw [Nat.gcd_comm b (a % b), Nat.gcd_comm a b]
        exact (Nat.gcd_rec b a).symm
      rw [if_neg e0, if_neg e0]
      simp only [hr, q_add_eq, e1]
      have := ih (a % b) hlt b (i + 1) (some (.inl (nI (a % b)))) hb (by omega) (by omega) (by rw [hgg]; exact hg)
      rw [hgg] at this
      exact ce_kk_of this
theorem c_gcd (a b : Nat) (S : ce_S) (ha : a ≤ 30) (hb : b ≤ 30) (hg : 0 < Nat.gcd a b) : F_X11_commonDivisor [.inl (nI a), .inl (nI b)] S = some (nI (Nat.gcd a b), S) := by
  refine fI_by tl_X11_commonDivisor (gd_n rfl rfl) (fun kk => sg_X11_commonDivisor_0 (nI a) (nI b) S kk) ?_
  exact ce_kk_of (c_gcd6 (nI a) (nI b) S b a 0 none ha hb (by omega) hg)
theorem sp_odd_le (E : sp_E) (r : sp_R) (seed : Int32) (N : Nat) : ∀ m acc, sp_odd E r seed N m acc ≤ acc + m := by
  intro m
  induction m with
  | zero => intro acc; exact Nat.le_refl _
  | succ m ih =>
    intro acc
    unfold sp_odd
    have := ih (if sp_dr E r (seed + nI (N - (m + 1))) = 1 then acc + 1 else acc)
    split at this <;> rename_i h <;> simp only [h, if_true, if_false] <;> omega
def sp_oddr (y : Int32) (n N : Nat) : Int64 := if y = 0 then (nI (n / Nat.gcd n N)).toInt64 else (nI (N / Nat.gcd n N)).toInt64
theorem c_odds21 {w : sp_W} {x : Int32} (y z : Int32) {s : Nat} (e2 : x.toNatClampNeg = s) (hin : ¬ (x < 0 ∨ 6 ≤ s)) (hs : s < w_n w) (N : Nat) (h0 : 0 < N) (h30 : N ≤ 30) : ∀ m, m ≤ N → ∀ (acc : Nat) (S : ce_S), CR w S → acc + m ≤ 30 → ∃ S1, qt S S1 ∧ ce_Ev tb_X11_odds 21 (0, 0) [some (.inr (.inl (0, 0))), some (.inl x), some (.inl y), some (.inl (nI N)), some (.inl z), some (.inl (nI acc)), some (.inl (nI (N - m)))] [] S (some (.inr (.inr (sp_oddr z (sp_odd (w_E w) (w_r w s) y N m acc) N))), S1) := by
  intro m
  induction m with
  | zero =>
    intro _ acc S hC ha
    refine ⟨S, qt_refl S, ce_by tl_X11_odds (fun kk => sg_X11_odds_21 x y (nI N) z (nI acc) (nI (N - 0)) S kk) ?_⟩
    have h1 : nI N ≤ nI (N - 0) := Int32.le_refl _
    have hgp : 0 < Nat.gcd N acc := Nat.gcd_pos_of_pos_left _ h0
    have hgl : Nat.gcd N acc ≤ N := Nat.gcd_le_left _ h0
    have hne : ¬ nI (Nat.gcd N acc) = 0 := by rw [show (0 : Int32) = nI 0 from rfl, nJ_inj (by omega) (by omega)]; omega
    have d1 : nI acc / nI (Nat.gcd N acc) = nI (acc / Nat.gcd N acc) := div_31 ⟨acc, by omega⟩ ⟨Nat.gcd N acc, by omega⟩
    have d2 : nI N / nI (Nat.gcd N acc) = nI (N / Nat.gcd N acc) := div_31 ⟨N, by omega⟩ ⟨Nat.gcd N acc, by omega⟩
    rw [if_pos h1, c_gcd N acc S h30 (by omega) hgp]
    simp only [Option.bind_some, if_neg hne, q_div_eq, d1, d2]
    unfold sp_odd sp_oddr
    rw [Nat.gcd_comm N acc]
    by_cases z0 : z = 0
    · rw [if_pos z0, if_pos z0]
    · rw [if_neg z0, if_neg z0]
  | succ m ih =>
    intro hm acc S hC ha
    have h1 : ¬ nI N ≤ nI (N - (m + 1)) := by rw [nJ_le (by omega) (by omega)]; omega
    have e1 : nI (N - (m + 1)) + 1 = nI (N - m) := by rw [nJ_succ, show N - (m + 1) + 1 = N - m by omega]
    obtain ⟨S1, g1, g2⟩ := c_seed hC e2 hin hs (y + nI (N - (m + 1)))
    unfold sp_odd
    by_cases hd : sp_dr (w_E w) (w_r w s) (y + nI (N - (m + 1))) = 1
    · obtain ⟨S2, j1, j2⟩ := ih (by omega) (acc + 1) S1 (CR_qt hC g2) (by omega)
      refine ⟨S2, qt_trans g2 j1, ce_by tl_X11_odds (fun kk => sg_X11_odds_21 x y (nI N) z (nI acc) (nI (N - (m + 1))) S kk) ?_⟩
      simp only [if_neg h1, q_add_eq, g1, Option.bind_some, if_pos hd, e1, nJ_succ]
      exact ce_kk_of j2
    · obtain ⟨S2, j1, j2⟩ := ih (by omega) acc S1 (CR_qt hC g2) (by omega)
      refine ⟨S2, qt_trans g2 j1, ce_by tl_X11_odds (fun kk => sg_X11_odds_21 x y (nI N) z (nI acc) (nI (N - (m + 1))) S kk) ?_⟩
      simp only [if_neg h1, q_add_eq, g1, Option.bind_some, if_neg hd, e1]
      exact ce_kk_of j2
theorem many_nat {x : Int32} (h : 1 ≤ x ∧ x ≤ 30) : ∃ N, 0 < N ∧ N ≤ 30 ∧ x = nI N ∧ x.toNatClampNeg = N := by
  have h0 : 0 ≤ x := by
    have := h.1
    rw [i_le] at *
    have e0 : ((0 : Int32)).toInt = 0 := by decide
    have e1 : ((1 : Int32)).toInt = 1 := by decide
    omega
  have e := nJ_of h0
  have h3 : x.toInt < 2 ^ 31 := Int32.toInt_lt x
  have h4 : x.toNatClampNeg < 2 ^ 31 := by rw [show x.toNatClampNeg = x.toInt.toNat from rfl]; omega
  refine ⟨x.toNatClampNeg, ?_, ?_, e, rfl⟩
  · have := h.1
    rw [e, show (1 : Int32) = nI 1 from rfl, nJ_le (by omega) h4] at this; omega
  · have := h.2
    rw [e, show (30 : Int32) = nI 30 from rfl, nJ_le h4 (by omega)] at this; exact this
theorem c_odds {w : sp_W} {S : ce_S} (hC : CR w S) (x y n z : Int32) : ∃ S', F_X11_odds [.inr (.inl (0, 0)), .inl x, .inl y, .inl n, .inl z] S = some (s_odds w x y n z, S') ∧ qt S S' := by
  unfold s_odds
  by_cases h : isS w x ∧ (1 ≤ n ∧ n ≤ 30) ∧ 0 ≤ z ∧ z ≤ 1
  · obtain ⟨h1, h2, h3, h4⟩ := id h
    obtain ⟨s, hs, h6, e, e2, hin, hsel, hrc⟩ := c_sel hC h1
    obtain ⟨N, n0, n30, rfl, en⟩ := many_nat h2
    obtain ⟨S1, j1, j2⟩ := c_odds21 (w := w) y z e2 hin hs N n0 n30 N (Nat.le_refl _) 0 S hC (by omega)
    rw [Nat.sub_self] at j2
    refine ⟨S1, fL_by tl_X11_odds (gd_r rfl rfl) (fun kk => sg_X11_odds_0 x y (nI N) z S kk) ?_, j1⟩
    simp only [c_isS1 hC h1, Option.bind_some, i_10, if_false, if_neg (i_le_not h2.1), if_neg (i_le_not h2.2), if_neg (i_le_not h3), if_pos h4, if_pos h, hsel, en]
    exact ce_kk_of j2
  · refine ⟨S, fL_by tl_X11_odds (gd_r rfl rfl) (fun kk => sg_X11_odds_0 x y n z S kk) ?_, qt_refl S⟩
    simp only [if_neg h]
    by_cases h1 : isS w x
    · by_cases a1 : n < 1
      · simp only [c_isS1 hC h1, Option.bind_some, i_10, if_false, if_pos a1]
      by_cases a2 : (30 : Int32) < n
      · simp only [c_isS1 hC h1, Option.bind_some, i_10, if_false, if_neg a1, if_pos a2]
      by_cases h3 : z < 0
      · simp only [c_isS1 hC h1, Option.bind_some, i_10, if_false, if_neg a1, if_neg a2, if_pos h3]
      · have h4 : ¬ z ≤ 1 := fun q => h ⟨h1, ⟨i_not_lt a1, i_not_lt a2⟩, i_not_lt h3, q⟩
        simp only [c_isS1 hC h1, Option.bind_some, i_10, if_false, if_neg a1, if_neg a2, if_neg h3, if_neg h4]
    · simp only [c_isS0 hC h1, Option.bind_some, if_true]
/-! the market -/
def K1 (w : sp_W) (L : Int32) (f : Nat → sp_R) (S : ce_S) : Prop := ce_R S 12 4 1 = w_ru w ∧ ce_I S 12 0 1 = w_sh w ∧ ce_I S 12 1 1 = w_ho w ∧ ce_I S 12 2 1 = L ∧ ∀ i, i < w_n w → rc S (3 * i + 1) = f i
theorem K1_E {w : sp_W} {L : Int32} {f : Nat → sp_R} {S : ce_S} (hC : CR w S) (h : K1 w L f S) : scE S 1 = sp_El (w_E w) L := by
  unfold scE sp_El w_E
  rw [(qt_txt1 hC h.1).2, h.2.1, h.2.2.1, h.2.2.2.1]
theorem K1_tA {w : sp_W} {L : Int32} {f : Nat → sp_R} {S : ce_S} (h : K1 w L f S) (g : Nat → Nat → Int32) : K1 w L f (ce_tA S 17 g) := h
theorem K1_u {w : sp_W} {L : Int32} {f : Nat → sp_R} {S : ce_S} (h : K1 w L f S) (i : Nat) (r : sp_R) (g : Nat → Nat → Int32) : K1 w L (w_put f i r) (ce_tA (wS S (3 * i + 1) r) 17 g) := by
  refine ⟨?_, ?_, ?_, ?_, fun i' hi' => ?_⟩
  · rw [r_R_tA, wS_R _ _ _ _ _ _ (by decide)]; exact h.1
  · rw [r_I_tA, wS_I _ _ _ _ _ _ (by decide)]; exact h.2.1
  · rw [r_I_tA, wS_I _ _ _ _ _ _ (by decide)]; exact h.2.2.1
  · rw [r_I_tA, wS_I _ _ _ _ _ _ (by decide)]; exact h.2.2.2.1
  · rw [rc_tA]
    unfold w_put
    by_cases e : i' = i
    · subst e; rw [if_pos rfl, rc_wS]
    · rw [if_neg e, rc_wS_ne _ _ _ _ (by omega)]; exact h.2.2.2.2 i' hi'
theorem c_hop2 {w : sp_W} (L : Int32) (f : Nat → sp_R) : ∀ m, m ≤ w_n w → ∀ (S : ce_S), CR w S → K1 w L f S → ∃ S1, qt S S1 ∧ K1 w L f S1 ∧ ce_Ev tb_X11_crowdHasHope 2 (0, 0) [some (.inr (.inl (0, 0))), some (.inl (nI (w_n w - m)))] [] S (some (.inl (sp_b (sp_hop (sp_El (w_E w) L) f (w_n w) m))), S1) := by
  intro m
  induction m with
  | zero =>
    intro _ S hC hK
    refine ⟨S, qt_refl S, hK, ce_by tl_X11_crowdHasHope (fun kk => sg_X11_crowdHasHope_2 (nI (w_n w - 0)) S kk) ?_⟩
    have h1 : ce_I S 0 6 0 ≤ nI (w_n w - 0) := by rw [hC.1.1]; exact Int32.le_refl _
    rw [if_pos h1]; rfl
  | succ m ih =>
    intro hm S hC hK
    have hn : w_n w ≤ 6 := hC.1.2
    have hi : w_n w - (m + 1) < w_n w := by omega
    have e2 : (nI (w_n w - (m + 1))).toNatClampNeg = w_n w - (m + 1) := nI_clamp (by omega)
    have hin : ¬ (nI (w_n w - (m + 1)) < 0 ∨ 6 ≤ w_n w - (m + 1)) := nJ_in (by omega) (by decide)
    have h1 : ¬ ce_I S 0 6 0 ≤ nI (w_n w - (m + 1)) := by rw [hC.1.1, nJ_le (by omega) (by omega)]; omega
    have h6 : ¬ (6 : Int32) ≤ nI (w_n w - (m + 1)) := by rw [show (6 : Int32) = nI 6 from rfl, nJ_le (by omega) (by omega)]; omega
    have e1 : nI (w_n w - (m + 1)) + 1 = nI (w_n w - m) := by rw [nJ_succ, show w_n w - (m + 1) + 1 = w_n w - m by omega]
    have hrc := hK.2.2.2.2 _ hi
    unfold sp_hop
    by_cases ho : sp_st (f (w_n w - (m + 1))) = 0
    · obtain ⟨g, el⟩ := f_least S 1 (3 * (w_n w - (m + 1)) + 1) 0 (qt_txt1 hC hK.1).1
      rw [K1_E hC hK, hrc] at el
      by_cases hl : sp_lea (sp_El (w_E w) L) (f (w_n w - (m + 1))) 0 ≤ L
      · have hl' : ¬ L < sp_lea (sp_El (w_E w) L) (f (w_n w - (m + 1))) 0 := i_le_not hl
        refine ⟨_, qt_tA S g, K1_tA hK g, ce_by tl_X11_crowdHasHope (fun kk => sg_X11_crowdHasHope_2 (nI (w_n w - (m + 1))) S kk) ?_⟩
        simp only [if_neg h1, if_neg h6, e2, if_neg hin, k31_eq, rc_6, hrc, if_pos ho, el, Option.bind_some, r_I_tA, hK.2.2.2.1, if_neg hl']
        rw [if_pos (show sp_st (f (w_n w - (m + 1))) = 0 ∧ sp_lea (sp_El (w_E w) L) (f (w_n w - (m + 1))) 0 ≤ (sp_El (w_E w) L).2.2.2 from ⟨ho, hl⟩)]; rfl
      · have hl' : L < sp_lea (sp_El (w_E w) L) (f (w_n w - (m + 1))) 0 := i_not_le hl
        obtain ⟨S2, j1, jk, j2⟩ := ih (by omega) (ce_tA S 17 g) (CR_tA hC g) (K1_tA hK g)
        refine ⟨S2, qt_trans (qt_tA S g) j1, jk, ce_by tl_X11_crowdHasHope (fun kk => sg_X11_crowdHasHope_2 (nI (w_n w - (m + 1))) S kk) ?_⟩
        simp only [if_neg h1, if_neg h6, e2, if_neg hin, k31_eq, rc_6, hrc, if_pos ho, el, Option.bind_some, r_I_tA, hK.2.2.2.1, if_pos hl', q_add_eq, e1]
        rw [if_neg (show ¬ (sp_st (f (w_n w - (m + 1))) = 0 ∧ sp_lea (sp_El (w_E w) L) (f (w_n w - (m + 1))) 0 ≤ (sp_El (w_E w) L).2.2.2) from fun q => hl q.2)]
        exact ce_kk_of j2
    · obtain ⟨S2, j1, jk, j2⟩ := ih (by omega) S hC hK
      refine ⟨S2, j1, jk, ce_by tl_X11_crowdHasHope (fun kk => sg_X11_crowdHasHope_2 (nI (w_n w - (m + 1))) S kk) ?_⟩
      simp only [if_neg h1, if_neg h6, e2, if_neg hin, k31_eq, rc_6, hrc, if_neg ho, q_add_eq, e1]
      rw [if_neg (show ¬ (sp_st (f (w_n w - (m + 1))) = 0 ∧ sp_lea (sp_El (w_E w) L) (f (w_n w - (m + 1))) 0 ≤ (sp_El (w_E w) L).2.2.2) from fun q => ho q.1)]
      exact ce_kk_of j2
theorem c_hop {w : sp_W} {L : Int32} {f : Nat → sp_R} {S : ce_S} (hC : CR w S) (hK : K1 w L f S) : ∃ S1, F_X11_crowdHasHope [.inr (.inl (0, 0))] S = some (sp_b (sp_hop (sp_El (w_E w) L) f (w_n w) (w_n w)), S1) ∧ qt S S1 ∧ K1 w L f S1 := by
  obtain ⟨S1, j1, jk, j2⟩ := c_hop2 (w := w) L f (w_n w) (Nat.le_refl _) S hC hK
  rw [Nat.sub_self] at j2
  exact ⟨S1, fI_by tl_X11_crowdHasHope (gd_r rfl rfl) (fun kk => sg_X11_crowdHasHope_0 S kk) (ce_kk_of j2), j1, jk⟩
theorem c_buy2 {w : sp_W} (L a p : Int32) : ∀ m, m ≤ w_n w → ∀ (f : Nat → sp_R) (S : ce_S), CR w S → K1 w L f S → ∃ S1, qt S S1 ∧ K1 w L (sp_buy (sp_El (w_E w) L) a p (w_n w) m f).2 S1 ∧ ce_Ev tb_X11_crowdSells 2 (0, 0) [some (.inr (.inl (0, 0))), some (.inl a), some (.inl p), some (.inl (nI (w_n w - m)))] [] S (some (.inl (sp_buy (sp_El (w_E w) L) a p (w_n w) m f).1), S1) := by
  intro m
  induction m with
  | zero =>
    intro _ f S hC hK
    refine ⟨S, qt_refl S, hK, ce_by tl_X11_crowdSells (fun kk => sg_X11_crowdSells_2 a p (nI (w_n w - 0)) S kk) ?_⟩
    have h1 : ce_I S 0 6 0 ≤ nI (w_n w - 0) := by rw [hC.1.1]; exact Int32.le_refl _
    rw [if_pos h1]; rfl
  | succ m ih =>
    intro hm f S hC hK
    have hn : w_n w ≤ 6 := hC.1.2
    have hi : w_n w - (m + 1) < w_n w := by omega
    have e2 : (nI (w_n w - (m + 1))).toNatClampNeg = w_n w - (m + 1) := nI_clamp (by omega)
    have hin : ¬ (nI (w_n w - (m + 1)) < 0 ∨ 6 ≤ w_n w - (m + 1)) := nJ_in (by omega) (by decide)
    have h1 : ¬ ce_I S 0 6 0 ≤ nI (w_n w - (m + 1)) := by rw [hC.1.1, nJ_le (by omega) (by omega)]; omega
    have h6 : ¬ (6 : Int32) ≤ nI (w_n w - (m + 1)) := by rw [show (6 : Int32) = nI 6 from rfl, nJ_le (by omega) (by omega)]; omega
    have e1 : nI (w_n w - (m + 1)) + 1 = nI (w_n w - m) := by rw [nJ_succ, show w_n w - (m + 1) + 1 = w_n w - m by omega]
    have hrc := hK.2.2.2.2 _ hi
    unfold sp_buy
    by_cases ho : sp_st (f (w_n w - (m + 1))) = 0
    · obtain ⟨g, el⟩ := f_go S (3 * (w_n w - (m + 1)) + 1) 1 a p (qt_txt1 hC hK.1).1
      rw [K1_E hC hK, hrc] at el
      have hq := qt_u S (3 * (w_n w - (m + 1)) + 1) (sp_go (sp_El (w_E w) L) (f (w_n w - (m + 1))) a p) g (jk_crowd _)
      have hK2 := K1_u hK (w_n w - (m + 1)) (sp_go (sp_El (w_E w) L) (f (w_n w - (m + 1))) a p) g
      by_cases hs : sp_st (sp_go (sp_El (w_E w) L) (f (w_n w - (m + 1))) a p) = 1
      · simp only [if_pos ho, if_pos hs]
        refine ⟨_, hq, hK2, ce_by tl_X11_crowdSells (fun kk => sg_X11_crowdSells_2 a p (nI (w_n w - (m + 1))) S kk) ?_⟩
        simp only [if_neg h1, if_neg h6, e2, if_neg hin, k31_eq, rc_6, rc_7, hrc, if_pos ho, el, Option.bind_some, rc_tA, rc_wS, if_pos hs]
      · obtain ⟨S2, j1, jk, j2⟩ := ih (by omega) _ _ (CR_qt hC hq) hK2
        simp only [if_pos ho, if_neg hs]
        refine ⟨S2, qt_trans hq j1, jk, ce_by tl_X11_crowdSells (fun kk => sg_X11_crowdSells_2 a p (nI (w_n w - (m + 1))) S kk) ?_⟩
        simp only [if_neg h1, if_neg h6, e2, if_neg hin, k31_eq, rc_6, rc_7, hrc, if_pos ho, el, Option.bind_some, rc_tA, rc_wS, if_neg hs, q_add_eq, e1]
        exact ce_kk_of j2
    · obtain ⟨S2, j1, jk, j2⟩ := ih (by omega) f S hC hK
      simp only [if_neg ho]
      refine ⟨S2, j1, jk, ce_by tl_X11_crowdSells (fun kk => sg_X11_crowdSells_2 a p (nI (w_n w - (m + 1))) S kk) ?_⟩
      simp only [if_neg h1, if_neg h6, e2, if_neg hin, k31_eq, rc_6, hrc, if_neg ho, q_add_eq, e1]
      exact ce_kk_of j2
theorem c_buy {w : sp_W} {L : Int32} {f : Nat → sp_R} {S : ce_S} (hC : CR w S) (hK : K1 w L f S) (a p : Int32) : ∃ S1, F_X11_crowdSells [.inr (.inl (0, 0)), .inl a, .inl p] S = some ((sp_buy (sp_El (w_E w) L) a p (w_n w) (w_n w) f).1, S1) ∧ qt S S1 ∧ K1 w L (sp_buy (sp_El (w_E w) L) a p (w_n w) (w_n w) f).2 S1 := by
  obtain ⟨S1, j1, jk, j2⟩ := c_buy2 (w := w) L a p (w_n w) (Nat.le_refl _) f S hC hK
  rw [Nat.sub_self] at j2
  exact ⟨S1, fI_by tl_X11_crowdSells (gd_r rfl rfl) (fun kk => sg_X11_crowdSells_0 a p S kk) (ce_kk_of j2), j1, jk⟩
theorem c_mk57 {w : sp_W} (x a p y : Int32) (j n : Nat) (g : Nat → Int32) (h40 : n ≤ 40) : ∀ m, m ≤ n → ∀ (f : Nat → sp_R) (L : Int32) (acc : Int32 × Int32 × Int32) (S : ce_S) (z10 z11 : Option ce_V), CR w S → K1 w L f S → ce_I S 15 2 j = nI n → (∀ e, e < n → ce_A S 16 j e = g e) → ∃ S1, qt S S1 ∧ ce_Ev tb_X11_market 57 (0, 0) [some (.inr (.inl (0, 0))), some (.inl x), some (.inl a), some (.inl p), some (.inl y), some (.inr (.inl (15, j))), some (.inl acc.1), some (.inl acc.2.1), some (.inl acc.2.2), some (.inl (nI (n - m))), z10, z11] [] S (some (.inl (sp_t3 y (sp_mkt (w_E w) (w_n w) g a p n m f acc))), S1) := by
  intro m
  induction m with
  | zero =>
    intro _ f L acc S z10 z11 hC hK hn hg
    refine ⟨S, qt_refl S, ce_by tl_X11_market (fun kk => sg_X11_market_57 x a p y j acc.1 acc.2.1 acc.2.2 (nI (n - 0)) z10 z11 S kk) ?_⟩
    have h1 : ce_I S 15 2 j ≤ nI (n - 0) := by rw [hn]; exact Int32.le_refl _
    rw [if_pos h1]
    unfold sp_mkt sp_t3
    by_cases y0 : y = 0
    · simp only [if_pos y0]
    by_cases y1 : y = 1
    · simp only [if_neg y0, if_pos y1]
    · simp only [if_neg y0, if_neg y1]
  | succ m ih =>
    intro hm f L acc S z10 z11 hC hK hn hg
    have hi : n - (m + 1) < n := by omega
    have h1 : ¬ ce_I S 15 2 j ≤ nI (n - (m + 1)) := by rw [hn, nJ_le (by omega) (by omega)]; omega
    have e1 : nI (n - (m + 1)) + 1 = nI (n - m) := by rw [nJ_succ, show n - (m + 1) + 1 = n - m by omega]
    have ea := f_at (S := S) hn h40 hi
    rw [hg _ hi] at ea
    have q0 : qt S (ce_sI S 12 2 1 (sp_cl 0 1999 (g (n - (m + 1))))) := qt_sI _ _ _ _ _ jk_s1
    have hK0 : K1 w (sp_cl 0 1999 (g (n - (m + 1)))) f (ce_sI S 12 2 1 (sp_cl 0 1999 (g (n - (m + 1))))) := ⟨hK.1, hK.2.1, hK.2.2.1, by rw [r_I_sI]; simp only [if_true], hK.2.2.2.2⟩
    obtain ⟨S1, u1, u2, u3⟩ := c_hop (CR_qt hC q0) hK0
    obtain ⟨S2, v1, v2, v3⟩ := c_buy (CR_qt (CR_qt hC q0) u2) u3 a p
    have q2 := qt_trans q0 (qt_trans u2 v2)
    obtain ⟨r1, r2, r3⟩ := qt_sh q2 j
    unfold sp_mkt
    by_cases hp : (sp_buy (sp_El (w_E w) (sp_cl 0 1999 (g (n - (m + 1))))) a p (w_n w) (w_n w) f).1 = -1
    · by_cases hh : sp_hop (sp_El (w_E w) (sp_cl 0 1999 (g (n - (m + 1))))) f (w_n w) (w_n w) = true
      · obtain ⟨S3, j1, j2⟩ := ih (by omega) _ _ (acc.1, acc.2.1, acc.2.2 + 1) S2 (some (.inl (sp_b (sp_hop (sp_El (w_E w) (sp_cl 0 1999 (g (n - (m + 1))))) f (w_n w) (w_n w))))) (some (.inl (sp_buy (sp_El (w_E w) (sp_cl 0 1999 (g (n - (m + 1))))) a p (w_n w) (w_n w) f).1)) (CR_qt hC q2) v3 (r2.trans hn) (fun e he => (r3 e).trans (hg e he))
        refine ⟨S3, qt_trans q2 j1, ce_by tl_X11_market (fun kk => sg_X11_market_57 x a p y j acc.1 acc.2.1 acc.2.2 (nI (n - (m + 1))) z10 z11 S kk) ?_⟩
        simp only [if_neg h1, ea, Option.bind_some, f_within _ _ _ _ (show (0 : Int32) ≤ 1999 by decide), u1, v1, if_pos hp, sp_b_0, hh, q_add_eq, e1, if_true]
        rw [if_neg (by decide)]
        rw [hh] at j2
        exact ce_kk_of j2
      · have hh' : sp_hop (sp_El (w_E w) (sp_cl 0 1999 (g (n - (m + 1))))) f (w_n w) (w_n w) = false := by simpa using hh
        obtain ⟨S3, j1, j2⟩ := ih (by omega) _ _ acc S2 (some (.inl (sp_b (sp_hop (sp_El (w_E w) (sp_cl 0 1999 (g (n - (m + 1))))) f (w_n w) (w_n w))))) (some (.inl (sp_buy (sp_El (w_E w) (sp_cl 0 1999 (g (n - (m + 1))))) a p (w_n w) (w_n w) f).1)) (CR_qt hC q2) v3 (r2.trans hn) (fun e he => (r3 e).trans (hg e he))
        refine ⟨S3, qt_trans q2 j1, ce_by tl_X11_market (fun kk => sg_X11_market_57 x a p y j acc.1 acc.2.1 acc.2.2 (nI (n - (m + 1))) z10 z11 S kk) ?_⟩
        simp only [if_neg h1, ea, Option.bind_some, f_within _ _ _ _ (show (0 : Int32) ≤ 1999 by decide), u1, v1, if_pos hp, sp_b_0, hh', q_add_eq, e1, if_true, if_neg (show ¬ (false = true) by decide)]
        rw [hh'] at j2
        exact ce_kk_of j2
    · obtain ⟨S3, j1, j2⟩ := ih (by omega) _ _ (acc.1 + 1, acc.2.1 + (sp_buy (sp_El (w_E w) (sp_cl 0 1999 (g (n - (m + 1))))) a p (w_n w) (w_n w) f).1, acc.2.2) S2 (some (.inl (sp_b (sp_hop (sp_El (w_E w) (sp_cl 0 1999 (g (n - (m + 1))))) f (w_n w) (w_n w))))) (some (.inl (sp_buy (sp_El (w_E w) (sp_cl 0 1999 (g (n - (m + 1))))) a p (w_n w) (w_n w) f).1)) (CR_qt hC q2) v3 (r2.trans hn) (fun e he => (r3 e).trans (hg e he))
      refine ⟨S3, qt_trans q2 j1, ce_by tl_X11_market (fun kk => sg_X11_market_57 x a p y j acc.1 acc.2.1 acc.2.2 (nI (n - (m + 1))) z10 z11 S kk) ?_⟩
      simp only [if_neg h1, ea, Option.bind_some, f_within _ _ _ _ (show (0 : Int32) ≤ 1999 by decide), u1, v1, if_neg hp, q_add_eq, e1]
      exact ce_kk_of j2
theorem c_mk26 {w : sp_W} (x a p y : Int32) (j : Nat) (z7 z8 z9 z10 z11 : Option ce_V) : ∀ m, m ≤ w_n w → ∀ (S : ce_S), CR w S → (∀ i, i < w_n w - m → rc S (3 * i + 1) = w_r w i) → ∃ S1, qt S S1 ∧ K1 w (w_li w) (w_r w) S1 ∧ ∀ res, ce_Ev tb_X11_market 57 (0, 0) [some (.inr (.inl (0, 0))), some (.inl x), some (.inl a), some (.inl p), some (.inl y), some (.inr (.inl (15, j))), some (.inl 0), some (.inl 0), some (.inl 0), some (.inl 0), z10, z11] [] S1 res → ce_Ev tb_X11_market 26 (0, 0) [some (.inr (.inl (0, 0))), some (.inl x), some (.inl a), some (.inl p), some (.inl y), some (.inr (.inl (15, j))), some (.inl (nI (w_n w - m))), z7, z8, z9, z10, z11] [] S res := by
  intro m
  induction m with
  | zero =>
    intro _ S hC hr
    obtain ⟨S1, t1, t2, t3, t4, t5, t6⟩ := c_scene1 hC
    refine ⟨S1, t2, ⟨t3, t4, t5, t6, fun i hi => ?_⟩, fun res h => ?_⟩
    · have e : F_X4_take [.inr (.inl (12, 1)), .inr (.inl (12, 0))] S = _ := f_sceneTake S 1 0
      rw [t1] at e
      cases e
      exact hr i (by omega)
    · refine ce_by tl_X11_market (fun kk => sg_X11_market_26 x a p y j (nI (w_n w - 0)) z7 z8 z9 z10 z11 S kk) ?_
      have h1 : ce_I S 0 6 0 ≤ nI (w_n w - 0) := by rw [hC.1.1]; exact Int32.le_refl _
      simp only [if_pos h1, t1, Option.bind_some]
      exact ce_kk_of h
  | succ m ih =>
    intro hm S hC hr
    have hn : w_n w ≤ 6 := hC.1.2
    have hi : w_n w - (m + 1) < w_n w := by omega
    have e2 : (nI (w_n w - (m + 1))).toNatClampNeg = w_n w - (m + 1) := nI_clamp (by omega)
    have hin : ¬ (nI (w_n w - (m + 1)) < 0 ∨ 6 ≤ w_n w - (m + 1)) := nJ_in (by omega) (by decide)
    have h1 : ¬ ce_I S 0 6 0 ≤ nI (w_n w - (m + 1)) := by rw [hC.1.1, nJ_le (by omega) (by omega)]; omega
    have h6 : ¬ (6 : Int32) ≤ nI (w_n w - (m + 1)) := by rw [show (6 : Int32) = nI 6 from rfl, nJ_le (by omega) (by omega)]; omega
    have e1 : nI (w_n w - (m + 1)) + 1 = nI (w_n w - m) := by rw [nJ_succ, show w_n w - (m + 1) + 1 = w_n w - m by omega]
    have t := f_take S (3 * (w_n w - (m + 1)) + 1) (3 * (w_n w - (m + 1))) (by omega)
    have q : qt S (wS (ce_sI S 11 1 (3 * (w_n w - (m + 1)) + 1) (ce_I S 11 1 (3 * (w_n w - (m + 1))))) (3 * (w_n w - (m + 1)) + 1) (rc S (3 * (w_n w - (m + 1))))) := qt_trans (qt_sI _ _ _ _ _ (jk_crowd _)) (qt_wS _ _ _ (jk_crowd _))
    obtain ⟨S2, j1, jk, j2⟩ := ih (by omega) _ (CR_qt hC q) (fun i hi' => by
      by_cases e : i = w_n w - (m + 1)
      · subst e; rw [rc_wS]; exact (hC.2.1 _ hi).1
      · rw [rc_wS_ne _ _ _ _ (by omega)]; exact hr i (by omega))
    refine ⟨S2, qt_trans q j1, jk, fun res h => ?_⟩
    refine ce_by tl_X11_market (fun kk => sg_X11_market_26 x a p y j (nI (w_n w - (m + 1))) z7 z8 z9 z10 z11 S kk) ?_
    simp only [if_neg h1, if_neg h6, e2, if_neg hin, k31_eq, k3_eq, t, Option.bind_some, q_add_eq, e1]
    exact ce_kk_of (j2 res h)
theorem c_market {w : sp_W} {S : ce_S} (hC : CR w S) (x a p y : Int32) : ∃ S', F_X11_market [.inr (.inl (0, 0)), .inl x, .inl a, .inl p, .inl y] S = some (s_market w x a p y, S') ∧ qt S S' := by
  unfold s_market
  by_cases h : is4 x ∧ isR a p ∧ 0 ≤ y ∧ y ≤ 2
  · obtain ⟨h1, h2, h3, h4⟩ := id h
    obtain ⟨j, hj, f2, fin, fsh, f3, f4, f5, f6⟩ := c_sh hC h1
    by_cases hm : (w_h w j).1 = -1
    · refine ⟨S, fI_by tl_X11_market (gd_r rfl rfl) (fun kk => sg_X11_market_0 x a p y S kk) ?_, qt_refl S⟩
      simp only [c_is41 S h1, c_isR1 S h2, Option.bind_some, i_10, if_false, if_neg (i_le_not h3), if_pos h4, f2, if_neg fin, f_miss, f3, if_pos hm, if_pos h, fsh]
    · obtain ⟨S1, k1, kK, k2⟩ := c_mk26 (w := w) x a p y j none none none none none (w_n w) (Nat.le_refl _) S hC (fun i hi => absurd hi (by omega))
      obtain ⟨r1, r2, r3⟩ := qt_sh k1 j
      obtain ⟨S2, j1, j2⟩ := c_mk57 (w := w) x a p y j (w_h w j).2.1 (w_h w j).2.2 f5 _ (Nat.le_refl _) (w_r w) (w_li w) (0, 0, 0) S1 none none (CR_qt hC k1) kK (r2.trans f4) (fun e he => (r3 e).trans (f6 e he))
      rw [Nat.sub_self] at j2 k2
      refine ⟨S2, fI_by tl_X11_market (gd_r rfl rfl) (fun kk => sg_X11_market_0 x a p y S kk) ?_, qt_trans k1 j1⟩
      simp only [c_is41 S h1, c_isR1 S h2, Option.bind_some, i_10, if_false, if_neg (i_le_not h3), if_pos h4, f2, if_neg fin, f_miss, f3, if_neg hm, if_true, if_pos h, fsh]
      exact ce_kk_of (k2 _ j2)
  · refine ⟨S, fI_by tl_X11_market (gd_r rfl rfl) (fun kk => sg_X11_market_0 x a p y S kk) ?_, qt_refl S⟩
    simp only [if_neg h]
    by_cases h1 : is4 x
    · by_cases h2 : isR a p
      · by_cases h3 : y < 0
        · simp only [c_is41 S h1, c_isR1 S h2, Option.bind_some, i_10, if_false, if_pos h3]
        · have h4 : ¬ y ≤ 2 := fun q => h ⟨h1, h2, i_not_lt h3, q⟩
          simp only [c_is41 S h1, c_isR1 S h2, Option.bind_some, i_10, if_false, if_neg h3, if_neg h4]
      · simp only [c_is41 S h1, c_isR0 S h2, Option.bind_some, i_10, if_false, if_true]
    · simp only [c_is40 S h1, Option.bind_some, if_true]
