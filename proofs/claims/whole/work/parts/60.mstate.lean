/-! what the reference's cells say -/
/-- a code as the reference writes it -/
def enc (c : Int32) : Int32 := if 0 ≤ c then c else if -6 ≤ c then 19999 - c else if c = -7 then 30008 else if c = -8 then 30009 else if c = -9 then 30007 else if c = -10 then 30006 else if c = -11 then 30004 else if c = -12 then 30005 else if c = -13 then 30001 else if c = -14 then 30002 else 30003
def m_row (S : ce_S) (r : Nat) (c : List Int32) : Prop := ce_A S 30 0 r = nI c.length ∧ c.length ≤ 160 ∧ cwf c ∧ ∀ e, e < c.length → ce_A S 29 0 (170 * r + e) = enc (c.getD e 0)
def MXn (w : sp_W) (S : ce_S) : Prop := ce_I S 20 7 0 = nI (w_n w) ∧ w_n w ≤ 6
def MXc (w : sp_W) (S : ce_S) : Prop := ce_I S 20 8 0 = w_sh w ∧ ce_I S 20 9 0 = w_ho w ∧ ce_I S 20 10 0 = w_li w ∧ ce_I S 20 11 0 = nI (w_ru w) ∧ 0 ≤ w_li w ∧ w_li w ≤ 1999
def MXt (w : sp_W) (S : ce_S) : Prop := ce_I S 20 19 0 = nI (w_nt w) ∧ w_nt w ≤ 6 ∧ w_ru w < w_nt w ∧ ∀ k, k < w_nt w → m_row S (3 * k) (w_tx w k).1 ∧ m_row S (3 * k + 1) (w_tx w k).2.1 ∧ m_row S (3 * k + 2) (w_tx w k).2.2
def MXp (w : sp_W) (S : ce_S) : Prop := ce_I S 20 18 0 = nI (w_p w).length ∧ (w_p w).length ≤ 160 ∧ ∀ e, e < (w_p w).length → ce_A S 28 0 e = (w_p w).getD e 0
def MXh (w : sp_W) (S : ce_S) : Prop := ∀ i, i < 4 → ce_A S 34 0 i = (w_h w i).1 ∧ ce_A S 35 0 i = nI (w_h w i).2.1 ∧ (w_h w i).2.1 ≤ 40 ∧ ((w_h w i).1 = -1 ∨ 0 ≤ (w_h w i).1) ∧ ∀ e, e < (w_h w i).2.1 → ce_A S 36 0 (40 * i + e) = (w_h w i).2.2 e
/-- what he has said, and how he stands, within bounds -/
def tkk (r : sp_R) : Prop := (0 ≤ sp_sa r ∧ sp_sa r ≤ 1999) ∧ (sp_st r = 1 → 0 ≤ sp_pr r ∧ sp_pr r ≤ 1999) ∧ (¬ sp_st r = 1 → sp_pr r = -1)
def rok (r : sp_R) : Prop := sp_k r < 6 ∧ tkk r
/-- four cells of what is kept, from place a on -/
def kpt (S : ce_S) (a : Nat) (r : sp_R) : Prop := ce_A S 33 0 a = sp_sa r ∧ ce_A S 33 0 (a + 1) = sp_cu r ∧ ce_A S 33 0 (a + 2) = sp_st r ∧ ce_A S 33 0 (a + 3) = sp_pr r
def MXi (w : sp_W) (S : ce_S) : Prop := (w_i w = none → ce_I S 20 33 0 = 0) ∧ ∀ m f c, w_i w = some (m, f, c) → ce_I S 20 33 0 = 1 ∧ ce_I S 20 28 0 = nI m ∧ m ≤ w_n w ∧ (∀ i, i < m → kpt S (5 * i) (f i) ∧ tkk (f i)) ∧ ce_I S 20 29 0 = c.2.1 ∧ ce_I S 20 30 0 = c.2.2.1 ∧ ce_I S 20 31 0 = c.2.2.2 ∧ ce_I S 20 32 0 = nI c.1 ∧ c.1 < w_nt w ∧ 0 ≤ c.2.2.2 ∧ c.2.2.2 ≤ 1999
def m_wd : List (List Int32) := [[99, 111, 115, 116], [115, 104, 111, 101, 115], [104, 111, 117, 114], [98, 105, 100], [115, 97, 105, 100], [99, 117, 112, 115], [108, 101, 97, 115, 116], [102, 105, 114, 115, 116], [112, 117, 108, 108], [111, 114], [97, 110, 100], [110, 111, 116]]
def MXw (S : ce_S) : Prop := ∀ k, k < 12 → ce_L S 41 k = (m_wd.getD k []).length ∧ ∀ e, e < (m_wd.getD k []).length → ce_A S 41 k e = (m_wd.getD k []).getD e 0
def MX (w : sp_W) (S : ce_S) : Prop := MXn w S ∧ MXc w S ∧ MXt w S ∧ MXp w S ∧ MXh w S ∧ MXi w S ∧ MXw S
/-- a seller's cells -/
def mr (S : ce_S) (s : Nat) (r : sp_R) : Prop := ce_A S 21 0 s = nI (sp_k r) ∧ ce_A S 22 0 s = sp_co r ∧ ce_A S 23 0 s = sp_nu r ∧ ce_A S 24 0 s = sp_sa r ∧ ce_A S 25 0 s = sp_cu r ∧ ce_A S 26 0 s = sp_st r ∧ ce_A S 27 0 s = sp_pr r
def MSr (n : Nat) (f : Nat → sp_R) (S : ce_S) : Prop := ∀ i, i < n → mr S i (f i) ∧ rok (f i)
def MKg (n : Nat) (g : Nat → sp_R) (S : ce_S) : Prop := ∀ i, i < n → kpt S (60 + 5 * i) (g i) ∧ tkk (g i)
def MS (w : sp_W) (f : Nat → sp_R) (S : ce_S) : Prop := MX w S ∧ MSr (w_n w) f S
def MR (w : sp_W) (S : ce_S) : Prop := MS w (w_r w) S
/-- only cells that are thought with change -/
def mq (S S' : ce_S) : Prop := (∀ t k i, ¬ (t = 20 ∧ 34 ≤ k) → ce_I S' t k i = ce_I S t k i) ∧ ce_R S' = ce_R S ∧ (∀ t, ¬ (21 ≤ t ∧ t ≤ 27) → t ≠ 32 → t ≠ 33 → ce_A S' t = ce_A S t) ∧ (∀ e, e < 60 → ce_A S' 33 0 e = ce_A S 33 0 e) ∧ S'.2.2.2 = S.2.2.2
theorem mq_refl (S : ce_S) : mq S S := ⟨fun _ _ _ _ => rfl, rfl, fun _ _ _ _ => rfl, fun _ _ => rfl, rfl⟩
theorem mq_trans {S S' S'' : ce_S} (h : mq S S') (g : mq S' S'') : mq S S'' := ⟨fun t k i q => (g.1 t k i q).trans (h.1 t k i q), g.2.1.trans h.2.1, fun t q q2 q3 => (g.2.2.1 t q q2 q3).trans (h.2.2.1 t q q2 q3), fun e q => (g.2.2.2.1 e q).trans (h.2.2.2.1 e q), g.2.2.2.2.trans h.2.2.2.2⟩
theorem mq_sI (S : ce_S) (k : Nat) (v : Int32) (h : 34 ≤ k) : mq S (ce_sI S 20 k 0 v) := by
  refine ⟨fun t k' i q => ?_, rfl, fun _ _ _ _ => rfl, fun _ _ => rfl, rfl⟩
  rw [r_I_sI]
  by_cases h1 : t = 20
  · rw [if_pos h1, if_neg (fun q2 => q ⟨h1, by omega⟩)]
  · rw [if_neg h1]
theorem mq_sA (S : ce_S) (t i e : Nat) (v : Int32) (h : 21 ≤ t ∧ t ≤ 27) : mq S (ce_sA S t i e v) := by
  refine ⟨fun _ _ _ _ => rfl, rfl, fun t' q _ _ => ?_, fun e' _ => ?_, rfl⟩
  · funext i' e'
    rw [r_A_sA, if_neg (fun q2 => q (by rw [q2]; exact h))]
  · rw [r_A_sA, if_neg (by omega)]
theorem mq_k (S : ce_S) (e : Nat) (v : Int32) (h : 60 ≤ e) : mq S (ce_sA S 33 0 e v) := by
  refine ⟨fun _ _ _ _ => rfl, rfl, fun t' q _ q3 => ?_, fun e' q => ?_, rfl⟩
  · funext i' e'
    rw [r_A_sA, if_neg q3]
  · rw [r_A_sA, if_pos rfl, if_pos rfl, if_neg (by omega)]
theorem mq_tA (S : ce_S) (f : Nat → Nat → Int32) : mq S (ce_tA S 32 f) := ⟨fun _ _ _ _ => rfl, rfl, fun t _ q _ => by rw [r_A_tA, if_neg q], fun e _ => by rw [r_A_tA, if_neg (by decide)], rfl⟩
theorem mq_I {S S' : ce_S} (h : mq S S') (k : Nat) (hk : k < 34) : ce_I S' 20 k 0 = ce_I S 20 k 0 := h.1 20 k 0 (fun q => by omega)
theorem mq_A {S S' : ce_S} (h : mq S S') (t : Nat) (ht : 28 ≤ t) (h2 : t ≠ 32) (h3 : t ≠ 33) : ce_A S' t = ce_A S t := h.2.2.1 t (fun q => by omega) h2 h3
theorem mq_L {S S' : ce_S} (h : mq S S') : ce_L S' = ce_L S := by unfold ce_L; rw [h.2.2.2.2]
theorem mq_C {S S' : ce_S} (h : mq S S') : ce_C S' = ce_C S := by unfold ce_C; rw [h.2.2.2.2]
theorem mq_Q {S S' : ce_S} (h : mq S S') : ce_Q S' = ce_Q S := by unfold ce_Q; rw [h.2.2.2.2]
theorem mq_row {S S' : ce_S} (h : mq S S') (r : Nat) (c : List Int32) : m_row S' r c = m_row S r c := by
  unfold m_row
  rw [mq_A h 30 (by decide) (by decide) (by decide), mq_A h 29 (by decide) (by decide) (by decide)]
theorem MX_mq {w : sp_W} {S S' : ce_S} (hM : MX w S) (h : mq S S') : MX w S' := by
  obtain ⟨hn, ⟨c1, c2, c3, c4, c5⟩, ⟨t1, t2, t3, t4⟩, ⟨p1, p2, p3⟩, hh, ⟨i1, i2⟩, hw⟩ := hM
  refine ⟨⟨(mq_I h 7 (by decide)).trans hn.1, hn.2⟩, ⟨(mq_I h 8 (by decide)).trans c1, (mq_I h 9 (by decide)).trans c2, (mq_I h 10 (by decide)).trans c3, (mq_I h 11 (by decide)).trans c4, c5⟩, ⟨(mq_I h 19 (by decide)).trans t1, t2, t3, fun k hk => ?_⟩, ⟨(mq_I h 18 (by decide)).trans p1, p2, fun e he => ?_⟩, fun i hi => ?_, ⟨fun e => (mq_I h 33 (by decide)).trans (i1 e), fun m f c e => ?_⟩, fun k hk => ?_⟩
  · rw [mq_row h, mq_row h, mq_row h]; exact t4 k hk
  · rw [mq_A h 28 (by decide) (by decide) (by decide)]; exact p3 e he
  · rw [mq_A h 34 (by decide) (by decide) (by decide), mq_A h 35 (by decide) (by decide) (by decide), mq_A h 36 (by decide) (by decide) (by decide)]; exact hh i hi
  · obtain ⟨a1, a2, a3, a4, a5, a6, a7, a8, a9⟩ := i2 m f c e
    refine ⟨(mq_I h 33 (by decide)).trans a1, (mq_I h 28 (by decide)).trans a2, a3, fun i hi => ?_, (mq_I h 29 (by decide)).trans a5, (mq_I h 30 (by decide)).trans a6, (mq_I h 31 (by decide)).trans a7, (mq_I h 32 (by decide)).trans a8, a9⟩
    have := a4 i hi
    unfold kpt at this ⊢
    have hn6 := hn.2
    rw [h.2.2.2.1 _ (by omega), h.2.2.2.1 _ (by omega), h.2.2.2.1 _ (by omega), h.2.2.2.1 _ (by omega)]; exact this
  · rw [mq_L h, mq_A h 41 (by decide) (by decide) (by decide)]; exact hw k hk
theorem cEq_mq {S S' : ce_S} (h : mq S S') : cEq S S' := ⟨fun t q => ⟨funext fun k => funext fun i => h.1 t k i (fun q2 => by omega), by rw [h.2.1], h.2.2.1 t (fun q2 => by omega) (by omega) (by omega), by rw [mq_L h], by rw [mq_C h]⟩, mq_Q h⟩
/-- a stack's cells change: sellers, what is kept stay -/
def msame (S S' : ce_S) : Prop := ∀ t, 21 ≤ t → t ≤ 27 → ce_A S' t = ce_A S t
theorem mr_same {S S' : ce_S} (h : msame S S') (s : Nat) (r : sp_R) : mr S' s r = mr S s r := by
  unfold mr
  rw [h 21 (by decide) (by decide), h 22 (by decide) (by decide), h 23 (by decide) (by decide), h 24 (by decide) (by decide), h 25 (by decide) (by decide), h 26 (by decide) (by decide), h 27 (by decide) (by decide)]
theorem msame_tA (S : ce_S) (f : Nat → Nat → Int32) : msame S (ce_tA S 32 f) := fun t h1 h2 => by rw [r_A_tA, if_neg (by omega)]
theorem msame_sI (S : ce_S) (t k i : Nat) (v : Int32) : msame S (ce_sI S t k i v) := fun _ _ _ => rfl
/-! the texts' evaluation, reference -/
theorem i32_9 {x : Int32} (h : -15 ≤ x) (h2 : x < -8) : x = -15 ∨ x = -14 ∨ x = -13 ∨ x = -12 ∨ x = -11 ∨ x = -10 ∨ x = -9 := by
  rw [i_le] at h; rw [i_lt] at h2
  simp only [i_eq]
  have e8 : ((-8 : Int32)).toInt = -8 := by decide
  have e9 : ((-9 : Int32)).toInt = -9 := by decide
  have e10 : ((-10 : Int32)).toInt = -10 := by decide
  have e11 : ((-11 : Int32)).toInt = -11 := by decide
  have e12 : ((-12 : Int32)).toInt = -12 := by decide
  have e13 : ((-13 : Int32)).toInt = -13 := by decide
  have e14 : ((-14 : Int32)).toInt = -14 := by decide
  have e15 : ((-15 : Int32)).toInt = -15 := by decide
  omega
theorem i32_6 {x : Int32} (h : -6 ≤ x) (h2 : x < 0) : x = -6 ∨ x = -5 ∨ x = -4 ∨ x = -3 ∨ x = -2 ∨ x = -1 := by
  rw [i_le] at h; rw [i_lt] at h2
  simp only [i_eq]
  have e0 : ((0 : Int32)).toInt = 0 := by decide
  have e1 : ((-1 : Int32)).toInt = -1 := by decide
  have e2 : ((-2 : Int32)).toInt = -2 := by decide
  have e3 : ((-3 : Int32)).toInt = -3 := by decide
  have e4 : ((-4 : Int32)).toInt = -4 := by decide
  have e5 : ((-5 : Int32)).toInt = -5 := by decide
  have e6 : ((-6 : Int32)).toInt = -6 := by decide
  omega
theorem f_done (x : Int32) (h : -15 ≤ x) (h2 : x < -8) (a b : Int32) (S : ce_S) : F_X12_done [.inl (enc x - 30000), .inl a, .inl b] S = some (sp_join x a b, S) := by
  refine fI_by tl_X12_done (gd_n rfl rfl) (fun kk => sg_X12_done_0 (enc x - 30000) a b S kk) ?_
  simp only [q_add_eq, q_sub_eq, q_mul_eq, q_and_eq, q_div_eq, q_rem_eq, q_ushr_eq, q_neg_eq, q_i2b_eq, q_i2s_eq]
  rcases i32_9 h h2 with rfl | rfl | rfl | rfl | rfl | rfl | rfl
  · rw [show enc (-15) - 30000 = 3 by decide]; simp (decide := true) only [sp_join, if_false, if_true]
  · rw [show enc (-14) - 30000 = 2 by decide]; simp (decide := true) only [sp_join, if_false, if_true]
  · rw [show enc (-13) - 30000 = 1 by decide]; simp (decide := true) only [sp_join, if_false, if_true]
  · rw [show enc (-12) - 30000 = 5 by decide]; simp (decide := true) only [sp_join, if_false, if_true]
    by_cases c : a = b
    · simp only [if_pos c]
    · simp only [if_neg c]
  · rw [show enc (-11) - 30000 = 4 by decide]; simp (decide := true) only [sp_join, if_false, if_true]
    by_cases c : b ≤ a
    · simp only [if_pos c, if_neg (i_le_not c)]
    · simp only [if_neg c, if_pos (i_not_le c)]
  · rw [show enc (-10) - 30000 = 6 by decide]; simp (decide := true) only [sp_join, if_false, if_true]
    by_cases c : a = 0
    · simp only [if_pos c, if_pos (Or.inl c)]
    · by_cases d : b = 0
      · simp only [if_neg c, if_pos d, if_pos (Or.inr d)]
      · simp only [if_neg c, if_neg d, if_neg (show ¬ (a = 0 ∨ b = 0) from fun q => by rcases q with q | q; exact c q; exact d q)]
  · rw [show enc (-9) - 30000 = 7 by decide]; simp (decide := true) only [sp_join, if_false, if_true]
    by_cases c : a = 0
    · by_cases d : b = 0
      · simp only [if_pos c, if_pos d, if_pos (And.intro c d)]
      · simp only [if_pos c, if_neg d, if_neg (show ¬ (a = 0 ∧ b = 0) from fun q => d q.2)]
    · simp only [if_neg c, if_neg (show ¬ (a = 0 ∧ b = 0) from fun q => c q.1)]
def sp_ws (r : sp_R) (sa : Int32) : sp_R := (sp_k r, sp_co r, sp_nu r, sa, sp_cu r, sp_st r, sp_pr r)
theorem f_mname (x : Int32) (h : -6 ≤ x) (h2 : x < 0) {s : Nat} (hs : s < 6) {r : sp_R} {S : ce_S} (h22 : ce_A S 22 0 s = sp_co r) (h25 : ce_A S 25 0 s = sp_cu r) (bid sa : Int32) : F_X12_named [.inr (.inl (20, 0)), .inl (enc x - 20000), .inl (nI s), .inl bid, .inl sa] S = some (sp_name (sp_ws r sa) (ce_I S 20 8 0) (ce_I S 20 9 0) bid x, S) := by
  refine fI_by tl_X12_named (gd_r rfl rfl) (fun kk => sg_X12_named_0 (enc x - 20000) (nI s) bid sa S kk) ?_
  have e2 : (nI s).toNatClampNeg = s := nI_clamp (by omega)
  have hin : ¬ (nI s < 0 ∨ 6 ≤ s) := nJ_in hs (by decide)
  simp only [e2, if_neg hin, h22, h25]
  rcases i32_6 h h2 with rfl | rfl | rfl | rfl | rfl | rfl
  · rw [show enc (-6) - 20000 = 5 by decide]; simp (decide := true) only [sp_name, if_false, if_true]; rfl
  · rw [show enc (-5) - 20000 = 4 by decide]; simp (decide := true) only [sp_name, if_false, if_true]; rfl
  · rw [show enc (-4) - 20000 = 3 by decide]; simp (decide := true) only [sp_name, if_false, if_true]
  · rw [show enc (-3) - 20000 = 2 by decide]; simp (decide := true) only [sp_name, if_false, if_true]
  · rw [show enc (-2) - 20000 = 1 by decide]; simp (decide := true) only [sp_name, if_false, if_true]
  · rw [show enc (-1) - 20000 = 0 by decide]; simp (decide := true) only [sp_name, if_false, if_true]; rfl
theorem enc_num {x : Int32} (h : 0 ≤ x) (h2 : x ≤ 9999) : enc x = x ∧ ¬ (20000 : Int32) ≤ x := by
  unfold enc
  rw [if_pos h]
  refine ⟨rfl, ?_⟩
  rw [i_le] at h2 ⊢
  have e2 : ((9999 : Int32)).toInt = 9999 := by decide
  have e3 : ((20000 : Int32)).toInt = 20000 := by decide
  omega
theorem enc_nam {x : Int32} (h : -6 ≤ x) (h2 : x < 0) : (20000 : Int32) ≤ enc x ∧ ¬ (30000 : Int32) ≤ enc x := by
  rcases i32_6 h h2 with rfl | rfl | rfl | rfl | rfl | rfl <;> decide
theorem enc_bin {x : Int32} (h : -15 ≤ x) (h2 : x < -8) : (20000 : Int32) ≤ enc x ∧ (30000 : Int32) ≤ enc x ∧ ¬ enc x = 30008 ∧ ¬ enc x = 30009 := by
  rcases i32_9 h h2 with rfl | rfl | rfl | rfl | rfl | rfl | rfl <;> decide
theorem drop_cons {c : List Int32} {k : Nat} (h : k < c.length) : c.drop k = c.getD k 0 :: c.drop (k + 1) := by
  rw [List.drop_eq_getElem_cons h]
  congr 1
  simp [List.getD_eq_getElem?_getD, List.getElem?_eq_getElem h]
theorem m_says11 (S : ce_S) (x1 bid sa : Int32) {s : Nat} (hs : s < 6) {q : sp_R} (h22 : ce_A S 22 0 s = sp_co q) (h25 : ce_A S 25 0 s = sp_cu q) {r : Nat} (hr : r < 18) {c : List Int32} (hrow : m_row S r c) : ∀ (m k : Nat) (st : List Int32) (f : Nat → Nat → Int32) (z8 : Option ce_V), k + m = c.length → st.length ≤ k → skv (f 0) st → dpt (c.drop k) st.length = some 1 → ∃ f', ce_Ev tb_X12_says 11 (0, 0) [some (.inr (.inl (20, 0))), some (.inl x1), some (.inl (nI s)), some (.inl bid), some (.inl sa), some (.inl (nI r)), some (.inl (nI st.length)), some (.inl (nI k)), z8] [] (ce_tA S 32 f) (some (.inl (((c.drop k).foldl (sp_step (sp_name (sp_ws q sa) (ce_I S 20 8 0) (ce_I S 20 9 0) bid)) st).headD 0)), ce_tA S 32 f') := by
  obtain ⟨r1, r2, r3, r4⟩ := hrow
  have er : (nI r).toNatClampNeg = r := nI_clamp (by omega)
  have hrin : ¬ (nI r < 0 ∨ 18 ≤ r) := nJ_in hr (by decide)
  intro m
  induction m with
  | zero =>
    intro k st f z8 hk hl hf hd
    have hk : k = c.length := hk
    subst hk
    rw [List.drop_length] at hd ⊢
    refine ⟨f, ce_by tl_X12_says (fun kk => sg_X12_says_11 x1 (nI s) bid sa (nI r) (nI st.length) (nI c.length) z8 (ce_tA S 32 f) kk) ?_⟩
    have h30 : ce_A (ce_tA S 32 f) 30 0 r = nI c.length := r1
    simp only [er, if_neg hrin, h30, if_pos (Int32.le_refl (nI c.length)), List.foldl_nil]
    unfold dpt at hd
    cases hd' : st with
    | nil => rw [hd'] at hd; cases hd
    | cons v l =>
      rw [hd'] at hd hf
      have h0 : l.length = 0 := by simpa using hd
      have h1 : f 0 l.length = v := hf.1
      rw [h0] at h1
      rw [r_A_tA, if_pos rfl, h1]; rfl
  | succ m ih =>
    intro k st f z8 hk hl hf hd
    have hkc : k < c.length := by omega
    rw [drop_cons hkc] at hd ⊢
    have h30 : ce_A (ce_tA S 32 f) 30 0 r = nI c.length := r1
    have h29 : ce_A (ce_tA S 32 f) 29 0 (170 * r + k) = enc (c.getD k 0) := r4 k hkc
    have h1 : ¬ nI c.length ≤ nI k := by rw [nJ_le (by omega) (by omega)]; omega
    have e170 : 170 * nI r + nI k = nI (170 * r + k) := by rw [show (170 : Int32) = nI 170 from rfl, nJ_mul, nJ_add]
    have h4 : (nI (170 * r + k)).toNatClampNeg = 170 * r + k := nI_clamp (by omega)
    have h3 : ¬ (nI (170 * r + k) < 0 ∨ 3060 ≤ 170 * r + k) := nJ_in (by omega) (by decide)
    have hm : c.getD k 0 ∈ c := by
      rw [show c.getD k 0 = c[k] by simp [List.getD_eq_getElem?_getD, List.getElem?_eq_getElem hkc]]
      exact List.getElem_mem hkc
    obtain ⟨b1, b2⟩ := r3.2 _ hm
    generalize c.getD k 0 = x at hd h29 b1 b2 ⊢
    rw [List.foldl_cons]
    unfold dpt at hd
    have em1 : ∀ n : Nat, nI (n + 1) + (-1) = nI n := fun n => by
      rw [← nJ_succ, Int32.add_assoc, show (1 : Int32) + -1 = 0 by decide, Int32.add_zero]
    have em2 : ∀ n : Nat, nI (n + 1) - 1 = nI n := fun n => by
      rw [Int32.sub_eq_add_neg]; exact em1 n
    by_cases g6 : x < -6
    · simp only [if_pos g6] at hd
      by_cases g8 : x < -8
      · simp only [if_pos g8] at hd
        obtain ⟨n1, n2, n3, n4⟩ := enc_bin b1 g8
        match st, hl, hf, hd with
        | w :: v :: l, hl, hf, hd =>
          have hl : l.length + 1 + 1 ≤ k := hl
          have hw : f 0 (l.length + 1) = w := hf.1
          have hv : f 0 l.length = v := hf.2.1
          have hr' : skv (f 0) l := hf.2.2
          have hd : dpt (c.drop (k + 1)) (l.length + 1) = some 1 := hd
          obtain ⟨f', e⟩ := ih (k + 1) (sp_join x v w :: l) (ce_put3 f 0 l.length (sp_join x v w)) (some (.inl (enc x))) (by omega) (by simp only [List.length_cons]; omega) (skv_push hr') hd
          refine ⟨f', ce_by tl_X12_says (fun kk => sg_X12_says_11 x1 (nI s) bid sa (nI r) (nI (l.length + 1 + 1)) (nI k) z8 (ce_tA S 32 f) kk) ?_⟩
          have h6 : ¬ (nI l.length < 0 ∨ 200 ≤ l.length) := nJ_in (by omega) (by omega)
          have h7 : ¬ (nI (l.length + 1) < 0 ∨ 200 ≤ (l.length + 1)) := nJ_in (by omega) (by omega)
          have h8 : (nI l.length).toNatClampNeg = l.length := nI_clamp (by omega)
          have h9 : (nI (l.length + 1)).toNatClampNeg = l.length + 1 := nI_clamp (by omega)
          have hA1 : ce_A (ce_tA S 32 f) 32 0 (l.length + 1) = w := hw
          have hA0 : ce_A (ce_tA S 32 f) 32 0 l.length = v := hv
          simp only [er, if_neg hrin, h30, if_neg h1, q_add_eq, q_sub_eq, q_mul_eq, q_and_eq, q_div_eq, q_rem_eq, q_ushr_eq, q_neg_eq, q_i2b_eq, q_i2s_eq, e170, h4, if_neg h3, h29, if_pos n1, if_pos n2, if_neg n3, if_neg n4, em1, em2, h8, h9, if_neg h6, if_neg h7, hA1, hA0, f_done x b1 g8, Option.bind_some, nJ_succ, tA_sA]
          have es : sp_step (sp_name (sp_ws q sa) (ce_I S 20 8 0) (ce_I S 20 9 0) bid) (w :: v :: l) x = sp_join x v w :: l := by
            unfold sp_step; simp only [if_pos g6, if_pos g8]
          rw [es]
          exact ce_kk_of e
        | [v], hl, hf, hd => cases hd
        | [], hl, hf, hd => cases hd
      · simp only [if_neg g8] at hd
        match st, hl, hf, hd with
        | v :: l, hl, hf, hd =>
          have hl : l.length + 1 ≤ k := hl
          have hv : f 0 l.length = v := hf.1
          have hr' : skv (f 0) l := hf.2
          have hd : dpt (c.drop (k + 1)) (l.length + 1) = some 1 := hd
          have h6 : ¬ (nI l.length < 0 ∨ 200 ≤ l.length) := nJ_in (by omega) (by omega)
          have h8 : (nI l.length).toNatClampNeg = l.length := nI_clamp (by omega)
          have hA0 : ce_A (ce_tA S 32 f) 32 0 l.length = v := hv
          by_cases g7 : x = -8
          · subst g7
            have n1 : (20000 : Int32) ≤ enc (-8) := by decide
            have n2 : (30000 : Int32) ≤ enc (-8) := by decide
            have n3 : ¬ enc (-8) = 30008 := by decide
            have n4 : enc (-8) = 30009 := by decide
            obtain ⟨f', e⟩ := ih (k + 1) (-v :: l) (ce_put3 f 0 l.length (-v)) (some (.inl (enc (-8)))) (by omega) (by simp only [List.length_cons]; omega) (skv_push hr') hd
            refine ⟨f', ce_by tl_X12_says (fun kk => sg_X12_says_11 x1 (nI s) bid sa (nI r) (nI (l.length + 1)) (nI k) z8 (ce_tA S 32 f) kk) ?_⟩
            simp only [er, if_neg hrin, h30, if_neg h1, q_add_eq, q_sub_eq, q_mul_eq, q_and_eq, q_div_eq, q_rem_eq, q_ushr_eq, q_neg_eq, q_i2b_eq, q_i2s_eq, e170, h4, if_neg h3, h29, if_pos n1, if_pos n2, if_neg n3, if_pos n4, em2, h8, if_neg h6, hA0, nJ_succ, tA_sA]
            have es : sp_step (sp_name (sp_ws q sa) (ce_I S 20 8 0) (ce_I S 20 9 0) bid) (v :: l) (-8) = -v :: l := by
              unfold sp_step; simp only [if_pos g6, if_neg g8, if_true]
            rw [es]
            exact ce_kk_of e
          · have g77 : x = -7 := by
              have e8 : ((-8 : Int32)).toInt = -8 := by decide
              have e7 : ((-7 : Int32)).toInt = -7 := by decide
              have e6 : ((-6 : Int32)).toInt = -6 := by decide
              rw [i_lt, e6] at g6; rw [i_lt, e8] at g8; rw [i_eq, e8] at g7; rw [i_eq, e7]; omega
            subst g77
            have n1 : (20000 : Int32) ≤ enc (-7) := by decide
            have n2 : (30000 : Int32) ≤ enc (-7) := by decide
            have n3 : enc (-7) = 30008 := by decide
            by_cases gv : v = 0
            · obtain ⟨f', e⟩ := ih (k + 1) (1 :: l) (ce_put3 f 0 l.length 1) (some (.inl (enc (-7)))) (by omega) (by simp only [List.length_cons]; omega) (skv_push hr') hd
              refine ⟨f', ce_by tl_X12_says (fun kk => sg_X12_says_11 x1 (nI s) bid sa (nI r) (nI (l.length + 1)) (nI k) z8 (ce_tA S 32 f) kk) ?_⟩
              simp only [er, if_neg hrin, h30, if_neg h1, q_add_eq, q_sub_eq, q_mul_eq, q_and_eq, q_div_eq, q_rem_eq, q_ushr_eq, q_neg_eq, q_i2b_eq, q_i2s_eq, e170, h4, if_neg h3, h29, if_pos n1, if_pos n2, if_pos n3, em2, h8, if_neg h6, hA0, if_pos gv, nJ_succ, tA_sA]
              have es : sp_step (sp_name (sp_ws q sa) (ce_I S 20 8 0) (ce_I S 20 9 0) bid) (v :: l) (-7) = 1 :: l := by
                unfold sp_step; simp only [if_pos g6, if_neg g8, if_neg g7, if_pos gv]
              rw [es]
              exact ce_kk_of e
            · obtain ⟨f', e⟩ := ih (k + 1) (0 :: l) (ce_put3 f 0 l.length 0) (some (.inl (enc (-7)))) (by omega) (by simp only [List.length_cons]; omega) (skv_push hr') hd
              refine ⟨f', ce_by tl_X12_says (fun kk => sg_X12_says_11 x1 (nI s) bid sa (nI r) (nI (l.length + 1)) (nI k) z8 (ce_tA S 32 f) kk) ?_⟩
              simp only [er, if_neg hrin, h30, if_neg h1, q_add_eq, q_sub_eq, q_mul_eq, q_and_eq, q_div_eq, q_rem_eq, q_ushr_eq, q_neg_eq, q_i2b_eq, q_i2s_eq, e170, h4, if_neg h3, h29, if_pos n1, if_pos n2, if_pos n3, em2, h8, if_neg h6, hA0, if_neg gv, nJ_succ, tA_sA]
              have es : sp_step (sp_name (sp_ws q sa) (ce_I S 20 8 0) (ce_I S 20 9 0) bid) (v :: l) (-7) = 0 :: l := by
                unfold sp_step; simp only [if_pos g6, if_neg g8, if_neg g7, if_neg gv]
              rw [es]
              exact ce_kk_of e
        | [], hl, hf, hd => cases hd
    · simp only [if_neg g6] at hd
      have g6' : -6 ≤ x := i_not_lt g6
      have h6 : ¬ (nI st.length < 0 ∨ 200 ≤ st.length) := nJ_in (by omega) (by omega)
      have h8 : (nI st.length).toNatClampNeg = st.length := nI_clamp (by omega)
      by_cases g0 : x < 0
      · obtain ⟨n1, n2⟩ := enc_nam g6' g0
        obtain ⟨f', e⟩ := ih (k + 1) (sp_name (sp_ws q sa) (ce_I S 20 8 0) (ce_I S 20 9 0) bid x :: st) (ce_put3 f 0 st.length (sp_name (sp_ws q sa) (ce_I S 20 8 0) (ce_I S 20 9 0) bid x)) (some (.inl (enc x))) (by omega) (by simp only [List.length_cons]; omega) (skv_push hf) hd
        refine ⟨f', ce_by tl_X12_says (fun kk => sg_X12_says_11 x1 (nI s) bid sa (nI r) (nI st.length) (nI k) z8 (ce_tA S 32 f) kk) ?_⟩
        have hnm := f_mname x g6' g0 hs (S := ce_tA S 32 f) (r := q) h22 h25 bid sa
        simp only [er, if_neg hrin, h30, if_neg h1, q_add_eq, q_sub_eq, q_mul_eq, q_and_eq, q_div_eq, q_rem_eq, q_ushr_eq, q_neg_eq, q_i2b_eq, q_i2s_eq, e170, h4, if_neg h3, h29, if_pos n1, if_neg n2, hnm, Option.bind_some, h8, if_neg h6, nJ_succ, tA_sA]
        have es : sp_step (sp_name (sp_ws q sa) (ce_I S 20 8 0) (ce_I S 20 9 0) bid) st x = sp_name (sp_ws q sa) (ce_I S 20 8 0) (ce_I S 20 9 0) bid x :: st := by
          unfold sp_step; simp only [if_neg g6, if_pos g0]
        rw [es]
        exact ce_kk_of e
      · obtain ⟨n1, n2⟩ := enc_num (i_not_lt g0) b2
        obtain ⟨f', e⟩ := ih (k + 1) (x :: st) (ce_put3 f 0 st.length x) (some (.inl x)) (by omega) (by simp only [List.length_cons]; omega) (skv_push hf) hd
        refine ⟨f', ce_by tl_X12_says (fun kk => sg_X12_says_11 x1 (nI s) bid sa (nI r) (nI st.length) (nI k) z8 (ce_tA S 32 f) kk) ?_⟩
        simp only [er, if_neg hrin, h30, if_neg h1, q_add_eq, q_sub_eq, q_mul_eq, q_and_eq, q_div_eq, q_rem_eq, q_ushr_eq, q_neg_eq, q_i2b_eq, q_i2s_eq, e170, h4, if_neg h3, h29, n1, if_neg n2, h8, if_neg h6, nJ_succ, tA_sA]
        have es : sp_step (sp_name (sp_ws q sa) (ce_I S 20 8 0) (ce_I S 20 9 0) bid) st x = x :: st := by
          unfold sp_step; simp only [if_neg g6, if_neg g0]
        rw [es]
        exact ce_kk_of e
theorem m_says {w : sp_W} {S : ce_S} (hM : MX w S) {s : Nat} (hs : s < 6) {q : sp_R} (h22 : ce_A S 22 0 s = sp_co q) (h25 : ce_A S 25 0 s = sp_cu q) (j : Nat) (hj : j < 3) {c : List Int32} (hrow : m_row S (3 * w_ru w + j) c) (bid sa : Int32) : ∃ f', F_X12_says [.inr (.inl (20, 0)), .inl (nI j), .inl (nI s), .inl bid, .inl sa] S = some (sp_ev (sp_name (sp_ws q sa) (w_sh w) (w_ho w) bid) c, ce_tA S 32 f') := by
  obtain ⟨hn, ⟨c1, c2, c3, c4, c5⟩, ⟨t1, t2, t3, t4⟩, _⟩ := hM
  obtain ⟨f', e⟩ := m_says11 S (nI j) bid sa hs h22 h25 (r := 3 * w_ru w + j) (by omega) hrow c.length 0 [] (ce_A S 32) none (by omega) (Nat.le_refl _) trivial (by rw [List.drop_zero]; exact hrow.2.2.1.1 0)
  rw [tA_self, List.drop_zero, c1, c2] at e
  refine ⟨f', fI_by tl_X12_says (gd_r rfl rfl) (fun kk => sg_X12_says_0 (nI j) (nI s) bid sa S kk) ?_⟩
  have e3 : q_add (q_mul 3 (ce_I S 20 11 0)) (nI j) = nI (3 * w_ru w + j) := by
    rw [q_add_eq, q_mul_eq, c4, show (3 : Int32) = nI 3 from rfl, nJ_mul, nJ_add]
  rw [e3]
  exact ce_kk_of e
theorem f_bounded (v lo hi : Int32) (S : ce_S) : F_X12_bounded [.inl v, .inl lo, .inl hi] S = some (sp_cl lo hi v, S) := by
  refine fI_by tl_X12_bounded (gd_n rfl rfl) (fun kk => sg_X12_bounded_0 v lo hi S kk) ?_
  unfold sp_cl
  by_cases h : lo ≤ v
  · rw [if_pos h, if_neg (i_le_not h)]
    by_cases h2 : v ≤ hi
    · rw [if_pos h2, if_neg (i_le_not h2)]
    · rw [if_neg h2, if_pos (i_not_le h2)]
  · rw [if_neg h, if_pos (i_not_le h)]
theorem MX_rows {w : sp_W} {S : ce_S} (hM : MX w S) : m_row S (3 * w_ru w + 0) (w_E w).1.1 ∧ m_row S (3 * w_ru w + 1) (w_E w).1.2.1 ∧ m_row S (3 * w_ru w + 2) (w_E w).1.2.2 := hM.2.2.1.2.2.2 (w_ru w) hM.2.2.1.2.2.1
theorem m_least {w : sp_W} {S : ce_S} (hM : MX w S) {s : Nat} (hs : s < 6) {q : sp_R} (h22 : ce_A S 22 0 s = sp_co q) (h25 : ce_A S 25 0 s = sp_cu q) (bid sa : Int32) : ∃ f', F_X12_leastOf [.inr (.inl (20, 0)), .inl (nI s), .inl bid, .inl sa] S = some (sp_lea (w_E w) (sp_ws q sa) bid, ce_tA S 32 f') := by
  obtain ⟨f', e⟩ := m_says hM hs h22 h25 0 (by decide) (MX_rows hM).1 bid sa
  refine ⟨f', fI_by tl_X12_leastOf (gd_r rfl rfl) (fun kk => sg_X12_leastOf_0 (nI s) bid sa S kk) ?_⟩
  rw [show (.inl 0 : ce_V) = .inl (nI 0) from rfl, e]
  simp only [Option.bind_some]
  rw [show (.inl (nI 0) : ce_V) = .inl 0 from rfl, f_bounded]
  rfl
