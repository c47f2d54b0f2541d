/-! the letters of a text: what tokens they are -/
def x_bl (c : Int32) : Bool := decide (c = 32) || decide (c = 10)
def x_sm (c : Int32) : Bool := decide (97 ≤ c) && decide (c ≤ 122)
def x_dg (c : Int32) : Bool := decide (48 ≤ c) && decide (c ≤ 57)
def x_run (P : Int32 → Bool) : List Int32 → Nat
  | [] => 0
  | c :: r => if P c = true then x_run P r + 1 else 0
def x_sign (c : Int32) : Int32 := if c = 40 then 5 else if c = 41 then 6 else if c = 59 then 7 else if c = 43 then -13 else if c = 45 then -14 else if c = 42 then -15 else if c = 60 then -11 else if c = 61 then -12 else 8
def x_wc (j : Nat) : Int32 := match j with
  | 0 => 2
  | 1 => 3
  | 2 => 4
  | 3 => -9
  | 4 => -10
  | 5 => -7
  | 6 => -1
  | 7 => -2
  | 8 => -3
  | 9 => -4
  | 10 => -5
  | 11 => -6
  | _ => 8
def x_at (l : List Int32) : Nat → Nat → Nat
  | 0, j => j
  | m + 1, j => if l = ce_sB.getD j [] then j else x_at l m (j + 1)
def x_word (l : List Int32) : Int32 := x_wc (x_at l 12 0)
def x_num (v : Int32) : List Int32 → Int32
  | [] => v
  | c :: r => x_num (10 * v + c - 48) r
def x_len (l : List Int32) : Nat := match l with
  | [] => 0
  | c :: r => if x_sm c = true then x_run x_sm (c :: r) else if x_dg c = true then x_run x_dg (c :: r) else 1
def x_tok (l : List Int32) : tk := match l with
  | [] => (0, 0, 0)
  | c :: r => if x_sm c = true then (x_word ((c :: r).take (x_run x_sm (c :: r))), 0, r.length + 1)
      else if x_dg c = true then (if x_run x_dg (c :: r) ≤ 4 then (1, x_num 0 ((c :: r).take (x_run x_dg (c :: r))), r.length + 1) else (8, 0, r.length + 1))
      else (x_sign c, 0, r.length + 1)
def x_skip (l : List Int32) : List Int32 := l.drop (x_run x_bl l)
def x_all : Nat → List Int32 → List tk
  | 0, _ => [(0, 0, 0)]
  | n + 1, l => match x_skip l with
    | [] => [(0, 0, 0)]
    | c :: r => x_tok (c :: r) :: x_all n ((c :: r).drop (x_len (c :: r)))
def x_toks (l : List Int32) : List tk := x_all l.length l
theorem x_run_le (P : Int32 → Bool) : ∀ l, x_run P l ≤ l.length := by
  intro l
  induction l with
  | nil => exact Nat.le_refl _
  | cons c r ih =>
    unfold x_run
    by_cases h : P c = true
    · rw [if_pos h]; simp only [List.length_cons]; omega
    · rw [if_neg h]; exact Nat.zero_le _
theorem x_run_all (P : Int32 → Bool) : ∀ l e, e < x_run P l → P (l.getD e 0) = true := by
  intro l
  induction l with
  | nil => intro e h; exact absurd h (Nat.not_lt_zero _)
  | cons c r ih =>
    intro e h
    unfold x_run at h
    by_cases h1 : P c = true
    · rw [if_pos h1] at h
      cases e with
      | zero => exact h1
      | succ e => exact ih e (by omega)
    · rw [if_neg h1] at h; exact absurd h (Nat.not_lt_zero _)
theorem x_skip_len (l : List Int32) : (x_skip l).length = l.length - x_run x_bl l := by unfold x_skip; rw [List.length_drop]
theorem x_len_pos {c : Int32} {r : List Int32} : 1 ≤ x_len (c :: r) ∧ x_len (c :: r) ≤ r.length + 1 := by
  unfold x_len
  have q := fun P => x_run_le P (c :: r)
  simp only [List.length_cons] at q
  simp only
  by_cases h : x_sm c = true
  · rw [if_pos h]
    refine ⟨?_, q _⟩
    unfold x_run; rw [if_pos h]; omega
  · rw [if_neg h]
    by_cases h2 : x_dg c = true
    · rw [if_pos h2]
      refine ⟨?_, q _⟩
      unfold x_run; rw [if_pos h2]; omega
    · rw [if_neg h2]; omega
theorem x_all_fuel : ∀ n l, l.length ≤ n → ∀ m, l.length ≤ m → x_all n l = x_all m l := by
  intro n
  induction n with
  | zero =>
    intro l hl m hm
    have e : l = [] := List.length_eq_zero_iff.mp (Nat.le_zero.mp hl)
    subst e
    cases m with
    | zero => rfl
    | succ m => rfl
  | succ n ih =>
    intro l hl m hm
    have hs := x_skip_len l
    cases m with
    | zero =>
      have e : l = [] := List.length_eq_zero_iff.mp (Nat.le_zero.mp hm)
      subst e; rfl
    | succ m =>
      unfold x_all
      cases e : x_skip l with
      | nil => rfl
      | cons c r =>
        rw [e] at hs
        simp only [List.length_cons] at hs
        have q := x_len_pos (c := c) (r := r)
        simp only
        rw [ih ((c :: r).drop (x_len (c :: r))) (by rw [List.length_drop, List.length_cons]; omega) m (by rw [List.length_drop, List.length_cons]; omega)]
theorem x_toks_eq (l : List Int32) : x_toks l = match x_skip l with
    | [] => [(0, 0, 0)]
    | c :: r => x_tok (c :: r) :: x_toks ((c :: r).drop (x_len (c :: r))) := by
  unfold x_toks
  have hs := x_skip_len l
  cases hl : l.length with
  | zero =>
    have e : l = [] := List.length_eq_zero_iff.mp hl
    subst e; rfl
  | succ n =>
    conv => lhs; unfold x_all
    cases e : x_skip l with
    | nil => rfl
    | cons c r =>
      rw [e] at hs
      simp only [List.length_cons] at hs
      have q := x_len_pos (c := c) (r := r)
      simp only
      rw [x_all_fuel n ((c :: r).drop (x_len (c :: r))) (by rw [List.length_drop, List.length_cons]; omega) _ (Nat.le_refl _)]
theorem x_num_ok : ∀ (l : List Int32) (k a : Nat), a < 10 ^ k → k + l.length ≤ 4 → (∀ e, e < l.length → x_dg (l.getD e 0) = true) → ∃ b, x_num (nI a) l = nI b ∧ b < 10 ^ 4 := by
  intro l
  induction l with
  | nil =>
    intro k a h1 h2 _
    exact ⟨a, rfl, Nat.lt_of_lt_of_le h1 (Nat.pow_le_pow_right (by decide) (by simp only [List.length_nil] at h2; omega))⟩
  | cons c r ih =>
    intro k a h1 h2 h3
    simp only [List.length_cons] at h2 h3
    have hc : x_dg c = true := h3 0 (by omega)
    unfold x_dg at hc
    rw [Bool.and_eq_true, decide_eq_true_eq, decide_eq_true_eq] at hc
    have c1 := hc.1
    have c2 := hc.2
    have e48 : ((48 : Int32)).toInt = 48 := by decide
    have e57 : ((57 : Int32)).toInt = 57 := by decide
    rw [i_le, e48] at c1
    rw [i_le, e57] at c2
    have c0 : (0 : Int32) ≤ c := by rw [i_le]; show (0 : Int) ≤ _; omega
    obtain ⟨b, hb⟩ : ∃ b, c = nI b := ⟨_, nJ_of c0⟩
    have hb2 : c.toInt = ((c.toNatClampNeg : Nat) : Int) := by
      conv => lhs; rw [nJ_of c0]
      exact i_nI (by have := Int32.toInt_lt c; have := nJ_of c0; show c.toNatClampNeg < 2 ^ 31; unfold Int32.toNatClampNeg; omega)
    have hk : (10 : Nat) ^ k ≤ 10 ^ 4 := Nat.pow_le_pow_right (by decide) (by omega)
    have e4 : (10 : Nat) ^ 4 = 10000 := rfl
    obtain ⟨y, hy⟩ : ∃ y, y = c.toNatClampNeg := ⟨_, rfl⟩
    have hc' : c = nI y := by rw [hy]; exact nJ_of c0
    rw [← hy] at hb2
    have hstep : 10 * nI a + c - 48 = nI (10 * a + (y - 48)) := by
      rw [hc', show (10 : Int32) = nI 10 from rfl, nJ_mul, nJ_add, show 10 * a + y = 10 * a + (y - 48) + 48 by omega, ← nJ_add (10 * a + (y - 48)) 48, show (nI 48) = (48 : Int32) from rfl, Int32.sub_eq_add_neg, Int32.add_assoc, show (48 : Int32) + -48 = 0 by decide, Int32.add_zero]
    unfold x_num
    rw [hstep]
    refine ih (k + 1) _ ?_ (by omega) (fun e he => h3 (e + 1) (by omega))
    rw [Nat.pow_succ]
    omega
theorem x_tok_ok (l : List Int32) : tkok (x_tok l) := by
  cases l with
  | nil => intro h; cases h
  | cons c r =>
    unfold x_tok tkok
    simp only
    by_cases h : x_sm c = true
    · rw [if_pos h]
      intro e
      have : ∀ j, x_wc j ≠ 1 := fun j => by unfold x_wc; split <;> decide
      exact absurd e (this _)
    · rw [if_neg h]
      by_cases h2 : x_dg c = true
      · rw [if_pos h2]
        by_cases h3 : x_run x_dg (c :: r) ≤ 4
        · rw [if_pos h3]
          intro _
          obtain ⟨b, e, hb⟩ := x_num_ok ((c :: r).take (x_run x_dg (c :: r))) 0 0 (by decide) (by rw [List.length_take]; omega) (fun e he => by
            rw [List.length_take] at he
            have q := x_run_all x_dg (c :: r) e (by omega)
            rw [List.getD_eq_getElem?_getD] at q ⊢
            rw [List.getElem?_take, if_pos (by omega)]
            exact q)
          show 0 ≤ x_num (nI 0) _ ∧ x_num (nI 0) _ ≤ 9999
          rw [e]
          have e4 : (10 : Nat) ^ 4 = 10000 := rfl
          rw [show (0 : Int32) = nI 0 from rfl, nJ_le (by omega) (by omega), show (9999 : Int32) = nI 9999 from rfl, nJ_le (by omega) (by omega)]
          omega
        · rw [if_neg h3]; intro e; exact absurd e (show ¬ (8 : Int32) = 1 by decide)
      · rw [if_neg h2]
        intro e
        have : ∀ x, x_sign x ≠ 1 := fun x => by
          unfold x_sign
          repeat' split
          all_goals decide
        exact absurd e (this _)
theorem x_all_ok : ∀ n l, tksok (x_all n l) := by
  intro n
  induction n with
  | zero => intro l u hu e; rw [List.mem_singleton.mp hu] at e; cases e
  | succ n ih =>
    intro l
    unfold x_all
    cases x_skip l with
    | nil => intro u hu e; rw [List.mem_singleton.mp hu] at e; cases e
    | cons c r =>
      intro u hu
      rcases List.mem_cons.mp hu with q | q
      · rw [q]; exact x_tok_ok _
      · exact ih _ u q
theorem x_all_len : ∀ n l, (x_all n l).length ≤ n + 1 ∧ 1 ≤ (x_all n l).length := by
  intro n
  induction n with
  | zero => intro l; exact ⟨Nat.le_refl _, Nat.le_refl _⟩
  | succ n ih =>
    intro l
    unfold x_all
    cases x_skip l with
    | nil => exact ⟨by show 1 ≤ _; omega, Nat.le_refl _⟩
    | cons c r =>
      have q := ih ((c :: r).drop (x_len (c :: r)))
      simp only [List.length_cons]
      omega
theorem x_toks_len (l : List Int32) : (x_toks l).length ≤ l.length + 1 ∧ 1 ≤ (x_toks l).length := x_all_len _ _
theorem x_toks_ok (l : List Int32) : tksok (x_toks l) := x_all_ok _ _
