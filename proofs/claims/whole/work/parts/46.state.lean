/-! what both sides stand for -/
abbrev sp_H : Type := Int32 × Nat × (Nat → Int32)
abbrev sp_C : Type := Nat × Int32 × Int32 × Int32
abbrev sp_W : Type := (Nat × (Nat → sp_R)) × sp_C × (Nat × (Nat → sp_T)) × List Int32 × (Nat → sp_H) × Option (Nat × (Nat → sp_R) × sp_C)
def w_n (w : sp_W) : Nat := w.1.1
def w_r (w : sp_W) : Nat → sp_R := w.1.2
def w_c (w : sp_W) : sp_C := w.2.1
def w_ru (w : sp_W) : Nat := w.2.1.1
def w_sh (w : sp_W) : Int32 := w.2.1.2.1
def w_ho (w : sp_W) : Int32 := w.2.1.2.2.1
def w_li (w : sp_W) : Int32 := w.2.1.2.2.2
def w_nt (w : sp_W) : Nat := w.2.2.1.1
def w_tx (w : sp_W) : Nat → sp_T := w.2.2.1.2
def w_p (w : sp_W) : List Int32 := w.2.2.2.1
def w_h (w : sp_W) : Nat → sp_H := w.2.2.2.2.1
def w_i (w : sp_W) : Option (Nat × (Nat → sp_R) × sp_C) := w.2.2.2.2.2
def w_E (w : sp_W) : sp_E := (w_tx w (w_ru w), w_sh w, w_ho w, w_li w)
/-- seller i's record is put -/
def w_put (f : Nat → sp_R) (i : Nat) (r : sp_R) : Nat → sp_R := fun i' => if i' = i then r else f i'
/-! the component's cells -/
def CRn (w : sp_W) (S : ce_S) : Prop := ce_I S 0 6 0 = nI (w_n w) ∧ w_n w ≤ 6
def CRr (w : sp_W) (S : ce_S) : Prop := ∀ i, i < w_n w → rc S (3 * i) = w_r w i ∧ ce_I S 11 1 (3 * i) = nI (sp_k (w_r w i))
def CRc (w : sp_W) (S : ce_S) : Prop := ce_I S 12 0 0 = w_sh w ∧ ce_I S 12 1 0 = w_ho w ∧ ce_I S 12 2 0 = w_li w ∧ ce_I S 12 3 0 = nI (w_ru w) ∧ ce_R S 12 4 0 = w_ru w
def CRt (w : sp_W) (S : ce_S) : Prop := ce_I S 0 7 0 = nI (w_nt w) ∧ w_nt w ≤ 6 ∧ w_ru w < w_nt w ∧ (ce_C S 13 = w_nt w ∧ ce_C S 14 = w_nt w ∧ ce_C S 17 = w_nt w) ∧ ∀ k, k < w_nt w → ce_Q S k = some k ∧ txok S k ∧ txt S k = w_tx w k
def CRp (w : sp_W) (S : ce_S) : Prop := ce_I S 7 0 0 = nI (w_p w).length ∧ (w_p w).length ≤ 160 ∧ ∀ e, e < (w_p w).length → ce_A S 8 0 e = (w_p w).getD e 0
def CRh (w : sp_W) (S : ce_S) : Prop := ∀ i, i < 4 → ce_I S 15 1 i = (w_h w i).1 ∧ ce_I S 15 2 i = nI (w_h w i).2.1 ∧ (w_h w i).2.1 ≤ 40 ∧ ∀ e, e < (w_h w i).2.1 → ce_A S 16 i e = (w_h w i).2.2 e
def CRi (w : sp_W) (S : ce_S) : Prop := (w_i w = none → ce_I S 0 13 0 = -1) ∧ ∀ m r c, w_i w = some (m, r, c) → ce_I S 0 13 0 = nI m ∧ m ≤ w_n w ∧ (∀ i, i < m → sp_sa (rc S (3 * i + 2)) = sp_sa (r i) ∧ sp_cu (rc S (3 * i + 2)) = sp_cu (r i) ∧ sp_st (rc S (3 * i + 2)) = sp_st (r i) ∧ sp_pr (rc S (3 * i + 2)) = sp_pr (r i)) ∧ ce_I S 12 0 2 = c.2.1 ∧ ce_I S 12 1 2 = c.2.2.1 ∧ ce_I S 12 2 2 = c.2.2.2 ∧ ce_I S 12 3 2 = nI c.1 ∧ ce_R S 12 4 2 = c.1 ∧ c.1 < w_nt w
def CR (w : sp_W) (S : ce_S) : Prop := CRn w S ∧ CRr w S ∧ CRc w S ∧ CRt w S ∧ CRp w S ∧ CRh w S ∧ CRi w S
/-- cells that are only thought with -/
def jk (t i : Nat) : Prop := (t = 11 ∧ (i % 3 = 1 ∨ i = 18)) ∨ (t = 12 ∧ i = 1)
def qt (S S' : ce_S) : Prop := (∀ t k i, ¬ jk t i → ce_I S' t k i = ce_I S t k i) ∧ (∀ t k i, ¬ jk t i → ce_R S' t k i = ce_R S t k i) ∧ (∀ t, t ≠ 17 → ce_A S' t = ce_A S t) ∧ S'.2.2.2 = S.2.2.2
theorem qt_refl (S : ce_S) : qt S S := ⟨fun _ _ _ _ => rfl, fun _ _ _ _ => rfl, fun _ _ => rfl, rfl⟩
theorem qt_trans {S S' S'' : ce_S} (h : qt S S') (g : qt S' S'') : qt S S'' := ⟨fun t k i q => (g.1 t k i q).trans (h.1 t k i q), fun t k i q => (g.2.1 t k i q).trans (h.2.1 t k i q), fun t q => (g.2.2.1 t q).trans (h.2.2.1 t q), g.2.2.2.trans h.2.2.2⟩
theorem qt_sI (S : ce_S) (t k i : Nat) (v : Int32) (h : jk t i) : qt S (ce_sI S t k i v) := by
  refine ⟨fun t' k' i' q => ?_, fun _ _ _ _ => rfl, fun _ _ => rfl, rfl⟩
  rw [r_I_sI]
  by_cases h1 : t' = t
  · by_cases h2 : i' = i
    · subst h1; subst h2; exact absurd h q
    · simp only [if_neg h2, ite_self]
  · simp only [if_neg h1]
theorem qt_sR (S : ce_S) (t k i v : Nat) (h : jk t i) : qt S (ce_sR S t k i v) := by
  refine ⟨fun _ _ _ _ => rfl, fun t' k' i' q => ?_, fun _ _ => rfl, rfl⟩
  rw [r_R_sR]
  by_cases h1 : t' = t
  · by_cases h2 : i' = i
    · subst h1; subst h2; exact absurd h q
    · simp only [if_neg h2, ite_self]
  · simp only [if_neg h1]
theorem qt_tA (S : ce_S) (f : Nat → Nat → Int32) : qt S (ce_tA S 17 f) := ⟨fun _ _ _ _ => rfl, fun _ _ _ _ => rfl, fun t q => by rw [r_A_tA, if_neg q], rfl⟩
theorem qt_wS (S : ce_S) (j : Nat) (r : sp_R) (h : jk 11 j) : qt S (wS S j r) := by
  unfold wS
  exact qt_trans (qt_trans (qt_trans (qt_trans (qt_trans (qt_trans (qt_sR _ _ _ _ _ h) (qt_sI _ _ _ _ _ h)) (qt_sI _ _ _ _ _ h)) (qt_sI _ _ _ _ _ h)) (qt_sI _ _ _ _ _ h)) (qt_sI _ _ _ _ _ h)) (qt_sI _ _ _ _ _ h)
theorem jk_18 : jk 11 18 := Or.inl ⟨rfl, Or.inr rfl⟩
theorem jk_crowd (i : Nat) : jk 11 (3 * i + 1) := Or.inl ⟨rfl, Or.inl (by omega)⟩
theorem jk_s1 : jk 12 1 := Or.inr ⟨rfl, rfl⟩
theorem jk_t {t i : Nat} (h1 : t ≠ 11) (h2 : t ≠ 12) : ¬ jk t i := fun h => by
  rcases h with ⟨e, _⟩ | ⟨e, _⟩
  · exact h1 e
  · exact h2 e
theorem jk_f {i : Nat} (h : i < 6) : ¬ jk 11 (3 * i) := fun q => by
  rcases q with ⟨_, e | e⟩ | ⟨e, _⟩
  · omega
  · omega
  · omega
theorem jk_k {i : Nat} (h : i < 6) : ¬ jk 11 (3 * i + 2) := fun q => by
  rcases q with ⟨_, e | e⟩ | ⟨e, _⟩
  · omega
  · omega
  · omega
theorem jk_s {i : Nat} (h : i ≠ 1) : ¬ jk 12 i := fun q => by
  rcases q with ⟨e, _⟩ | ⟨_, e⟩
  · omega
  · exact h e
theorem qt_I {S S' : ce_S} (h : qt S S') (t k i : Nat) (h1 : t ≠ 11) (h2 : t ≠ 12) : ce_I S' t k i = ce_I S t k i := h.1 t k i (jk_t h1 h2)
theorem qt_L {S S' : ce_S} (h : qt S S') : ce_L S' = ce_L S := by unfold ce_L; rw [h.2.2.2]
theorem qt_C {S S' : ce_S} (h : qt S S') : ce_C S' = ce_C S := by unfold ce_C; rw [h.2.2.2]
theorem qt_Q {S S' : ce_S} (h : qt S S') : ce_Q S' = ce_Q S := by unfold ce_Q; rw [h.2.2.2]
theorem qt_rc {S S' : ce_S} (h : qt S S') (j : Nat) (hj : ¬ jk 11 j) : rc S' j = rc S j := by
  unfold rc
  rw [h.2.1 _ _ _ hj, h.1 _ _ _ hj, h.1 _ _ _ hj, h.1 _ _ _ hj, h.1 _ _ _ hj, h.1 _ _ _ hj, h.1 _ _ _ hj]
theorem qt_txok {S S' : ce_S} (h : qt S S') (k : Nat) : txok S' k = txok S k := by
  unfold txok
  rw [qt_L h, qt_I h 13 1 k (by decide) (by decide), qt_I h 13 2 k (by decide) (by decide)]
theorem qt_txt {S S' : ce_S} (h : qt S S') (k : Nat) : txt S' k = txt S k := by
  unfold txt
  rw [qt_L h, qt_I h 13 1 k (by decide) (by decide), qt_I h 13 2 k (by decide) (by decide), h.2.2.1 14 (by decide)]
theorem qt_scE {S S' : ce_S} (h : qt S S') (i : Nat) (hi : i ≠ 1) : scE S' i = scE S i := by
  unfold scE
  rw [h.2.1 12 4 i (jk_s hi), qt_txt h, h.1 12 0 i (jk_s hi), h.1 12 1 i (jk_s hi), h.1 12 2 i (jk_s hi)]
theorem CR_qt {w : sp_W} {S S' : ce_S} (hC : CR w S) (h : qt S S') : CR w S' := by
  obtain ⟨⟨n1, n2⟩, hr, ⟨c1, c2, c3, c4, c5⟩, ⟨t1, t2, t3, t4, t5⟩, ⟨p1, p2, p3⟩, hh, ⟨i1, i2⟩⟩ := hC
  refine ⟨⟨(qt_I h 0 6 0 (by decide) (by decide)).trans n1, n2⟩, fun i hi => ?_, ?_, ?_, ?_, fun i hi => ?_, ?_, ?_⟩
  · rw [qt_rc h _ (jk_f (by omega)), h.1 _ _ _ (jk_f (by omega))]; exact hr i hi
  · refine ⟨?_, ?_, ?_, ?_, ?_⟩
    · rw [h.1 _ _ _ (jk_s (by decide))]; exact c1
    · rw [h.1 _ _ _ (jk_s (by decide))]; exact c2
    · rw [h.1 _ _ _ (jk_s (by decide))]; exact c3
    · rw [h.1 _ _ _ (jk_s (by decide))]; exact c4
    · rw [h.2.1 _ _ _ (jk_s (by decide))]; exact c5
  · refine ⟨(qt_I h 0 7 0 (by decide) (by decide)).trans t1, t2, t3, by rw [qt_C h]; exact t4, fun k hk => ?_⟩
    rw [qt_Q h, qt_txok h, qt_txt h]; exact t5 k hk
  · refine ⟨(qt_I h 7 0 0 (by decide) (by decide)).trans p1, p2, fun e he => ?_⟩
    rw [h.2.2.1 8 (by decide)]; exact p3 e he
  · rw [qt_I h 15 1 i (by decide) (by decide), qt_I h 15 2 i (by decide) (by decide), h.2.2.1 16 (by decide)]; exact hh i hi
  · intro e; rw [qt_I h 0 13 0 (by decide) (by decide)]; exact i1 e
  · intro m r c e
    obtain ⟨a1, a2, a3, a4, a5, a6, a7, a8, a9⟩ := i2 m r c e
    refine ⟨(qt_I h 0 13 0 (by decide) (by decide)).trans a1, a2, fun i hi => ?_, ?_, ?_, ?_, ?_, ?_, a9⟩
    · rw [qt_rc h _ (jk_k (by omega))]; exact a3 i hi
    · rw [h.1 _ _ _ (jk_s (by decide))]; exact a4
    · rw [h.1 _ _ _ (jk_s (by decide))]; exact a5
    · rw [h.1 _ _ _ (jk_s (by decide))]; exact a6
    · rw [h.1 _ _ _ (jk_s (by decide))]; exact a7
    · rw [h.2.1 _ _ _ (jk_s (by decide))]; exact a8
theorem CR_E {w : sp_W} {S : ce_S} (hC : CR w S) : scE S 0 = w_E w := by
  obtain ⟨_, _, ⟨c1, c2, c3, c4, c5⟩, ⟨t1, t2, t3, t4, t5⟩, _⟩ := hC
  unfold scE w_E
  rw [c1, c2, c3, c5, (t5 _ t3).2.2]
theorem CR_ok {w : sp_W} {S : ce_S} (hC : CR w S) : txok S (ce_R S 12 4 0) := by
  obtain ⟨_, _, ⟨c1, c2, c3, c4, c5⟩, ⟨t1, t2, t3, t4, t5⟩, _⟩ := hC
  rw [c5]; exact (t5 _ t3).2.1
/-- the reference's cells are as they were -/
def mEq (S S' : ce_S) : Prop := (∀ t, 20 ≤ t → ce_I S' t = ce_I S t ∧ ce_R S' t = ce_R S t ∧ ce_A S' t = ce_A S t ∧ ce_L S' t = ce_L S t ∧ ce_C S' t = ce_C S t)
/-- the component's cells are as they were -/
def cEq (S S' : ce_S) : Prop := (∀ t, t < 20 → ce_I S' t = ce_I S t ∧ ce_R S' t = ce_R S t ∧ ce_A S' t = ce_A S t ∧ ce_L S' t = ce_L S t ∧ ce_C S' t = ce_C S t) ∧ ce_Q S' = ce_Q S
theorem mEq_refl (S : ce_S) : mEq S S := fun _ _ => ⟨rfl, rfl, rfl, rfl, rfl⟩
theorem mEq_trans {S S' S'' : ce_S} (h : mEq S S') (g : mEq S' S'') : mEq S S'' := fun t q => ⟨(g t q).1.trans (h t q).1, (g t q).2.1.trans (h t q).2.1, (g t q).2.2.1.trans (h t q).2.2.1, (g t q).2.2.2.1.trans (h t q).2.2.2.1, (g t q).2.2.2.2.trans (h t q).2.2.2.2⟩
theorem mEq_qt {S S' : ce_S} (h : qt S S') : mEq S S' := fun t q => ⟨funext fun k => funext fun i => h.1 t k i (jk_t (by omega) (by omega)), funext fun k => funext fun i => h.2.1 t k i (jk_t (by omega) (by omega)), h.2.2.1 t (by omega), congrFun (qt_L h) t, congrFun (qt_C h) t⟩
theorem cEq_refl (S : ce_S) : cEq S S := ⟨fun _ _ => ⟨rfl, rfl, rfl, rfl, rfl⟩, rfl⟩
theorem cEq_trans {S S' S'' : ce_S} (h : cEq S S') (g : cEq S' S'') : cEq S S'' := ⟨fun t q => ⟨(g.1 t q).1.trans (h.1 t q).1, (g.1 t q).2.1.trans (h.1 t q).2.1, (g.1 t q).2.2.1.trans (h.1 t q).2.2.1, (g.1 t q).2.2.2.1.trans (h.1 t q).2.2.2.1, (g.1 t q).2.2.2.2.trans (h.1 t q).2.2.2.2⟩, g.2.trans h.2⟩
theorem mEq_sI (S : ce_S) (t k i : Nat) (v : Int32) (h : t < 20) : mEq S (ce_sI S t k i v) := fun t' q => by
  refine ⟨funext fun k' => funext fun i' => ?_, rfl, rfl, rfl, rfl⟩
  rw [r_I_sI, if_neg (by omega)]
theorem mEq_sR (S : ce_S) (t k i v : Nat) (h : t < 20) : mEq S (ce_sR S t k i v) := fun t' q => by
  refine ⟨rfl, funext fun k' => funext fun i' => ?_, rfl, rfl, rfl⟩
  rw [r_R_sR, if_neg (by omega)]
theorem mEq_sA (S : ce_S) (t i e : Nat) (v : Int32) (h : t < 20) : mEq S (ce_sA S t i e v) := fun t' q => by
  refine ⟨rfl, rfl, funext fun k' => funext fun i' => ?_, rfl, rfl⟩
  rw [r_A_sA, if_neg (by omega)]
theorem mEq_sF (S : ce_S) (t i : Nat) (f : Nat → Int32) (h : t < 20) : mEq S (ce_sF S t i f) := fun t' q => by
  refine ⟨rfl, rfl, funext fun k' => ?_, rfl, rfl⟩
  rw [r_A_sF, if_neg (by omega)]
theorem mEq_tA (S : ce_S) (t : Nat) (f : Nat → Nat → Int32) (h : t < 20) : mEq S (ce_tA S t f) := fun t' q => by
  refine ⟨rfl, rfl, ?_, rfl, rfl⟩
  rw [r_A_tA, if_neg (by omega)]
theorem mEq_wS (S : ce_S) (j : Nat) (r : sp_R) : mEq S (wS S j r) := by
  have h : 11 < 20 := by decide
  unfold wS
  exact mEq_trans (mEq_trans (mEq_trans (mEq_trans (mEq_trans (mEq_trans (mEq_sR _ _ _ _ _ h) (mEq_sI _ _ _ _ _ h)) (mEq_sI _ _ _ _ _ h)) (mEq_sI _ _ _ _ _ h)) (mEq_sI _ _ _ _ _ h)) (mEq_sI _ _ _ _ _ h)) (mEq_sI _ _ _ _ _ h)
theorem cEq_sI (S : ce_S) (t k i : Nat) (v : Int32) (h : 20 ≤ t) : cEq S (ce_sI S t k i v) := ⟨fun t' q => by
  refine ⟨funext fun k' => funext fun i' => ?_, rfl, rfl, rfl, rfl⟩
  rw [r_I_sI, if_neg (by omega)], rfl⟩
theorem cEq_sA (S : ce_S) (t i e : Nat) (v : Int32) (h : 20 ≤ t) : cEq S (ce_sA S t i e v) := ⟨fun t' q => by
  refine ⟨rfl, rfl, funext fun k' => funext fun i' => ?_, rfl, rfl⟩
  rw [r_A_sA, if_neg (by omega)], rfl⟩
theorem cEq_tA (S : ce_S) (t : Nat) (f : Nat → Nat → Int32) (h : 20 ≤ t) : cEq S (ce_tA S t f) := ⟨fun t' q => by
  refine ⟨rfl, rfl, ?_, rfl, rfl⟩
  rw [r_A_tA, if_neg (by omega)], rfl⟩
