/-! THE PARSER, as plain functions: a token is its code, its number, and how much of the tape is left where it begins -/
abbrev tk : Type := Int32 × Int32 × Nat
abbrev p_R : Type := List tk × Option (List Int32)
abbrev p_F : Type := List tk → p_R
def tk_h (T : List tk) : Int32 := match T with
  | [] => 8
  | u :: _ => u.1
def p_lp (ops : Int32 → Bool) (f : p_F) : Nat → List tk → List Int32 → p_R
  | 0, T, acc => (T, some acc)
  | _ + 1, [], acc => ([], some acc)
  | n + 1, u :: T, acc => if ops u.1 = true then (match f T with
      | (T2, some c) => p_lp ops f n T2 (acc ++ c ++ [u.1])
      | (T2, none) => (T2, none)) else (u :: T, some acc)
def p_sq (ops : Int32 → Bool) (f : p_F) : p_F := fun T => match f T with
  | (T2, some c) => p_lp ops f T2.length T2 c
  | (T2, none) => (T2, none)
def i_tim (x : Int32) : Bool := decide (x = -15)
def i_add (x : Int32) : Bool := decide (x = -13) || decide (x = -14)
def i_cmp (x : Int32) : Bool := decide (x = -11) || decide (x = -12)
def i_and (x : Int32) : Bool := decide (x = -10)
def i_or (x : Int32) : Bool := decide (x = -9)
def i_nam (x : Int32) : Bool := decide (-6 ≤ x) && decide (x ≤ -1)
def p_aft (c0 : Int32) (r : p_R) : p_R := match r with
  | (T2, some c) => (T2, some (c ++ [c0]))
  | (T2, none) => (T2, none)
def p_clo (k : Int32) (r : p_R) : p_R := match r with
  | (T2, none) => (T2, none)
  | ([], some _) => ([], none)
  | (v :: T3, some c) => if v.1 = k then (T3, some c) else (v :: T3, none)
def p_one (dp : Bool) (s1 sE : p_F) : p_F := fun T => match T with
  | [] => ([], none)
  | u :: T1 => if u.1 = 1 then (T1, some [u.2.1]) else if i_nam u.1 = true then (T1, some [u.1])
      else if dp = true ∧ u.1 = -14 then p_aft (-8) (s1 T1)
      else if dp = true ∧ u.1 = 5 then p_clo 6 (sE T1)
      else (u :: T1, none)
def p_cm2 (v : tk) (c : List Int32) (r : p_R) : p_R := match r with
  | (T4, some c2) => (T4, some (c ++ c2 ++ [v.1]))
  | (T4, none) => (T4, none)
def p_cmp (s : p_F) (r : p_R) : p_R := match r with
  | (T2, none) => (T2, none)
  | ([], some c) => ([], some c)
  | (v :: T3, some c) => if i_cmp v.1 = true then p_cm2 v c (s T3) else (v :: T3, some c)
def p_den (dp : Bool) (sD sS : p_F) : p_F := fun T => match T with
  | [] => ([], none)
  | u :: T1 => if u.1 = -7 then (if dp = true then p_aft (-7) (sD T1) else (u :: T1, none)) else p_cmp sS (sS (u :: T1))
abbrev p_3 : Type := p_F × p_F × p_F
def p_bld (dp : Bool) (q : p_3) : p_3 :=
  (p_one dp q.1 q.2.2, p_den dp q.2.1 (p_sq i_add (p_sq i_tim (p_one dp q.1 q.2.2))), p_sq i_or (p_sq i_and (p_den dp q.2.1 (p_sq i_add (p_sq i_tim (p_one dp q.1 q.2.2))))))
def p_lev : Nat → p_3
  | 0 => p_bld false (fun T => (T, none), fun T => (T, none), fun T => (T, none))
  | d + 1 => p_bld true (p_lev d)
def pl_one (d : Nat) : p_F := (p_lev d).1
def pl_ter (d : Nat) : p_F := p_sq i_tim (pl_one d)
def pl_sum (d : Nat) : p_F := p_sq i_add (pl_ter d)
def pl_den (d : Nat) : p_F := (p_lev d).2.1
def pl_bot (d : Nat) : p_F := p_sq i_and (pl_den d)
def pl_eit (d : Nat) : p_F := (p_lev d).2.2
theorem pl_eit_eq (d : Nat) : pl_eit d = p_sq i_or (pl_bot d) := by cases d <;> rfl
theorem pl_den_0 : pl_den 0 = p_den false (fun T => (T, none)) (pl_sum 0) := rfl
theorem pl_den_s (d : Nat) : pl_den (d + 1) = p_den true (pl_den d) (pl_sum (d + 1)) := rfl
theorem pl_one_0 : pl_one 0 = p_one false (fun T => (T, none)) (fun T => (T, none)) := rfl
theorem pl_one_s (d : Nat) : pl_one (d + 1) = p_one true (pl_one d) (pl_eit d) := rfl
theorem p_res (r : p_R) : (∃ T, r = (T, none)) ∨ ∃ T c, r = (T, some c) := by
  obtain ⟨T, o⟩ := r
  cases o with
  | none => exact Or.inl ⟨T, rfl⟩
  | some c => exact Or.inr ⟨T, c, rfl⟩
/-! what a well read code is -/
def dpt : List Int32 → Nat → Option Nat
  | [], n => some n
  | c :: r, n => if c < -6 then (if c < -8 then (match n with
      | m + 2 => dpt r (m + 1)
      | _ => none) else (match n with
      | m + 1 => dpt r (m + 1)
      | _ => none)) else dpt r (n + 1)
theorem dpt_app (a b : List Int32) : ∀ (n m : Nat), dpt a n = some m → dpt (a ++ b) n = dpt b m := by
  induction a with
  | nil => intro n m h; cases h; rfl
  | cons c r ih =>
    intro n m h
    rw [List.cons_append]
    unfold dpt at h
    conv => lhs; unfold dpt
    by_cases h1 : c < -6
    · simp only [if_pos h1] at h ⊢
      by_cases h2 : c < -8
      · simp only [if_pos h2] at h ⊢
        match n, h with
        | k + 2, h => exact ih _ _ h
      · simp only [if_neg h2] at h ⊢
        match n, h with
        | k + 1, h => exact ih _ _ h
    · simp only [if_neg h1] at h ⊢
      exact ih _ _ h
def cwf (c : List Int32) : Prop := (∀ n, dpt c n = some (n + 1)) ∧ ∀ x ∈ c, -15 ≤ x ∧ x ≤ 9999
theorem cwf_1 {x : Int32} (h : -6 ≤ x) (h2 : x ≤ 9999) : cwf [x] := by
  refine ⟨fun n => ?_, fun y hy => ?_⟩
  · unfold dpt
    have : ¬ x < -6 := by rw [i_le] at h; rw [i_lt]; omega
    rw [if_neg this]; rfl
  · rw [List.mem_singleton.mp hy]
    refine ⟨?_, h2⟩
    have e1 : ((-15 : Int32)).toInt = -15 := by decide
    have e2 : ((-6 : Int32)).toInt = -6 := by decide
    rw [i_le, e2] at h; rw [i_le, e1]; omega
theorem cwf_un {c : List Int32} {x : Int32} (h : cwf c) (h1 : x < -6) (h2 : ¬ x < -8) : cwf (c ++ [x]) := by
  refine ⟨fun n => ?_, fun y hy => ?_⟩
  · rw [dpt_app c [x] n (n + 1) (h.1 n)]
    unfold dpt
    simp only [if_pos h1, if_neg h2]; rfl
  · rcases List.mem_append.mp hy with q | q
    · exact h.2 y q
    · rw [List.mem_singleton.mp q]
      have e1 : ((-15 : Int32)).toInt = -15 := by decide
      have e2 : ((-6 : Int32)).toInt = -6 := by decide
      have e3 : ((-8 : Int32)).toInt = -8 := by decide
      have e4 : ((9999 : Int32)).toInt = 9999 := by decide
      rw [i_lt, e2] at h1; rw [i_lt, e3] at h2; rw [i_le, i_le, e1, e4]; omega
theorem cwf_bin {a b : List Int32} {x : Int32} (h : cwf a) (g : cwf b) (h1 : x < -8) (h2 : -15 ≤ x) : cwf (a ++ b ++ [x]) := by
  have e1 : ((-15 : Int32)).toInt = -15 := by decide
  have e2 : ((-6 : Int32)).toInt = -6 := by decide
  have e3 : ((-8 : Int32)).toInt = -8 := by decide
  have e4 : ((9999 : Int32)).toInt = 9999 := by decide
  refine ⟨fun n => ?_, fun y hy => ?_⟩
  · rw [List.append_assoc, dpt_app a (b ++ [x]) n (n + 1) (h.1 n), dpt_app b [x] (n + 1) (n + 1 + 1) (g.1 (n + 1))]
    unfold dpt
    have : x < -6 := by rw [i_lt, e3] at h1; rw [i_lt, e2]; omega
    simp only [if_pos h1, if_pos this]; rfl
  · rcases List.mem_append.mp hy with q | q
    · rcases List.mem_append.mp q with q | q
      · exact h.2 y q
      · exact g.2 y q
    · rw [List.mem_singleton.mp q]
      refine ⟨h2, ?_⟩
      rw [i_lt, e3] at h1; rw [i_le, e4]; omega
def tkok (u : tk) : Prop := u.1 = 1 → 0 ≤ u.2.1 ∧ u.2.1 ≤ 9999
def tksok (T : List tk) : Prop := ∀ u ∈ T, tkok u
/-- what a good reading leaves -/
def p_ok (f : p_F) : Prop := ∀ T, tksok T → ∀ T2 c, f T = (T2, some c) → tksok T2 ∧ c.length + T2.length ≤ T.length ∧ T2.length < T.length ∧ cwf c
theorem p_lp_ok {ops : Int32 → Bool} {f : p_F} (hf : p_ok f) (ho : ∀ x, ops x = true → x < -8 ∧ -15 ≤ x) : ∀ (n : Nat) (T : List tk) (acc : List Int32), tksok T → cwf acc → ∀ T2 c, p_lp ops f n T acc = (T2, some c) → tksok T2 ∧ c.length + T2.length ≤ acc.length + T.length ∧ T2.length ≤ T.length ∧ cwf c := by
  intro n
  induction n with
  | zero => intro T acc hT ha T2 c h; unfold p_lp at h; cases h; exact ⟨hT, Nat.le_refl _, Nat.le_refl _, ha⟩
  | succ n ih =>
    intro T acc hT ha T2 c h
    match T, hT, h with
    | [], hT, h => unfold p_lp at h; cases h; exact ⟨hT, Nat.le_refl _, Nat.le_refl _, ha⟩
    | u :: T, hT, h =>
      unfold p_lp at h
      by_cases hu : ops u.1 = true
      · rw [if_pos hu] at h
        have hT' : tksok T := fun v hv => hT v (List.mem_cons_of_mem _ hv)
        rcases p_res (f T) with ⟨T3, hq⟩ | ⟨T3, c3, hq⟩
        · rw [hq] at h; cases h
        · rw [hq] at h
          obtain ⟨a1, a2, a3, a4⟩ := hf T hT' T3 c3 hq
          obtain ⟨b1, b2, b3, b4⟩ := ih T3 _ a1 (cwf_bin ha a4 (ho _ hu).1 (ho _ hu).2) T2 c h
          refine ⟨b1, ?_, ?_, b4⟩
          · simp only [List.length_append, List.length_cons, List.length_nil] at b2 ⊢; omega
          · simp only [List.length_cons]; omega
      · rw [if_neg hu] at h; cases h
        exact ⟨hT, Nat.le_refl _, Nat.le_refl _, ha⟩
theorem p_sq_ok {ops : Int32 → Bool} {f : p_F} (hf : p_ok f) (ho : ∀ x, ops x = true → x < -8 ∧ -15 ≤ x) : p_ok (p_sq ops f) := by
  intro T hT T2 c h
  unfold p_sq at h
  rcases p_res (f T) with ⟨T3, hq⟩ | ⟨T3, c3, hq⟩
  · rw [hq] at h; cases h
  · rw [hq] at h
    obtain ⟨a1, a2, a3, a4⟩ := hf T hT T3 c3 hq
    obtain ⟨b1, b2, b3, b4⟩ := p_lp_ok hf ho _ _ _ a1 a4 T2 c h
    exact ⟨b1, by omega, by omega, b4⟩
theorem p_aft_ok {f : p_F} (hf : p_ok f) {x : Int32} (h1 : x < -6) (h2 : ¬ x < -8) {u : tk} {T : List tk} (hT : tksok (u :: T)) {T2 : List tk} {c : List Int32} (h : p_aft x (f T) = (T2, some c)) : tksok T2 ∧ c.length + T2.length ≤ (u :: T).length ∧ T2.length < (u :: T).length ∧ cwf c := by
  have hT' : tksok T := fun v hv => hT v (List.mem_cons_of_mem _ hv)
  unfold p_aft at h
  rcases p_res (f T) with ⟨T3, hq⟩ | ⟨T3, c3, hq⟩
  · rw [hq] at h; cases h
  · rw [hq] at h
    cases h
    obtain ⟨a1, a2, a3, a4⟩ := hf T hT' _ _ hq
    refine ⟨a1, ?_, ?_, cwf_un a4 h1 h2⟩
    · simp only [List.length_append, List.length_cons, List.length_nil] at *; omega
    · simp only [List.length_cons]; omega
theorem p_clo_ok {f : p_F} (hf : p_ok f) {k : Int32} {u : tk} {T : List tk} (hT : tksok (u :: T)) {T2 : List tk} {c : List Int32} (h : p_clo k (f T) = (T2, some c)) : tksok T2 ∧ c.length + T2.length ≤ (u :: T).length ∧ T2.length < (u :: T).length ∧ cwf c := by
  have hT' : tksok T := fun v hv => hT v (List.mem_cons_of_mem _ hv)
  unfold p_clo at h
  rcases p_res (f T) with ⟨T3, hq⟩ | ⟨T3, c3, hq⟩
  · rw [hq] at h; cases h
  rw [hq] at h
  obtain ⟨a1, a2, a3, a4⟩ := hf T hT' _ _ hq
  match T3, a1, a2, a3, h with
  | [], _, _, _, h => cases h
  | v :: T3, a1, a2, a3, h =>
    by_cases e : v.1 = k
    · simp only [if_pos e] at h
      cases h
      refine ⟨fun w hw => a1 w (List.mem_cons_of_mem _ hw), ?_, ?_, a4⟩
      · simp only [List.length_cons] at *; omega
      · simp only [List.length_cons] at *; omega
    · simp only [if_neg e] at h; cases h
theorem p_one_ok {dp : Bool} {s1 sE : p_F} (h1 : dp = true → p_ok s1) (h2 : dp = true → p_ok sE) : p_ok (p_one dp s1 sE) := by
  intro T hT T2 c h
  match T, hT, h with
  | [], _, h => cases h
  | u :: T, hT, h =>
    unfold p_one at h
    simp only at h
    have hT' : tksok T := fun v hv => hT v (List.mem_cons_of_mem _ hv)
    by_cases e1 : u.1 = 1
    · rw [if_pos e1] at h; cases h
      have := hT u List.mem_cons_self e1
      refine ⟨hT', ?_, ?_, cwf_1 ?_ this.2⟩
      · simp only [List.length_cons, List.length_nil]; omega
      · simp only [List.length_cons]; omega
      · have q := this.1
        have e2 : ((-6 : Int32)).toInt = -6 := by decide
        have e0 : ((0 : Int32)).toInt = 0 := by decide
        rw [i_le, e0] at q; rw [i_le, e2]; omega
    rw [if_neg e1] at h
    by_cases e2 : i_nam u.1 = true
    · rw [if_pos e2] at h; cases h
      unfold i_nam at e2
      rw [Bool.and_eq_true, decide_eq_true_eq, decide_eq_true_eq] at e2
      refine ⟨hT', ?_, ?_, cwf_1 e2.1 ?_⟩
      · simp only [List.length_cons, List.length_nil]; omega
      · simp only [List.length_cons]; omega
      · have q := e2.2
        have e2 : ((-1 : Int32)).toInt = -1 := by decide
        have e0 : ((9999 : Int32)).toInt = 9999 := by decide
        rw [i_le, e2] at q; rw [i_le, e0]; omega
    rw [if_neg e2] at h
    by_cases e3 : dp = true ∧ u.1 = -14
    · rw [if_pos e3] at h
      exact p_aft_ok (h1 e3.1) (by decide) (by decide) hT h
    rw [if_neg e3] at h
    by_cases e4 : dp = true ∧ u.1 = 5
    · rw [if_pos e4] at h
      exact p_clo_ok (h2 e4.1) hT h
    rw [if_neg e4] at h; cases h
theorem i_cmp_b {x : Int32} (h : i_cmp x = true) : x < -8 ∧ -15 ≤ x := by
  unfold i_cmp at h
  rw [Bool.or_eq_true, decide_eq_true_eq, decide_eq_true_eq] at h
  rcases h with rfl | rfl <;> decide
theorem p_den_ok {dp : Bool} {sD sS : p_F} (h1 : dp = true → p_ok sD) (h2 : p_ok sS) : p_ok (p_den dp sD sS) := by
  intro T hT T2 c h
  match T, hT, h with
  | [], _, h => cases h
  | u :: T, hT, h =>
    unfold p_den at h
    simp only at h
    by_cases e1 : u.1 = -7
    · rw [if_pos e1] at h
      by_cases e2 : dp = true
      · rw [if_pos e2] at h
        exact p_aft_ok (h1 e2) (by decide) (by decide) hT h
      · rw [if_neg e2] at h; cases h
    · rw [if_neg e1] at h
      unfold p_cmp at h
      rcases p_res (sS (u :: T)) with ⟨T3, hq⟩ | ⟨T3, c3, hq⟩
      · rw [hq] at h; cases h
      rw [hq] at h
      obtain ⟨a1, a2, a3, a4⟩ := h2 _ hT _ _ hq
      match T3, a1, a2, a3, h with
      | [], a1, a2, a3, h => cases h; exact ⟨a1, a2, a3, a4⟩
      | v :: T3, a1, a2, a3, h =>
        by_cases e3 : i_cmp v.1 = true
        · simp only [if_pos e3] at h
          unfold p_cm2 at h
          rcases p_res (sS T3) with ⟨T4, hr⟩ | ⟨T4, c4, hr⟩
          · rw [hr] at h; cases h
          · rw [hr] at h; cases h
            obtain ⟨b1, b2, b3, b4⟩ := h2 T3 (fun w hw => a1 w (List.mem_cons_of_mem _ hw)) _ _ hr
            refine ⟨b1, ?_, ?_, cwf_bin a4 b4 (i_cmp_b e3).1 (i_cmp_b e3).2⟩
            · simp only [List.length_append, List.length_cons, List.length_nil] at *; omega
            · simp only [List.length_cons] at *; omega
        · simp only [if_neg e3] at h; cases h
          exact ⟨a1, a2, a3, a4⟩
theorem i_tim_b (x : Int32) (h : i_tim x = true) : x < -8 ∧ -15 ≤ x := by
  unfold i_tim at h; rw [decide_eq_true_eq] at h; subst h; decide
theorem i_add_b (x : Int32) (h : i_add x = true) : x < -8 ∧ -15 ≤ x := by
  unfold i_add at h
  rw [Bool.or_eq_true, decide_eq_true_eq, decide_eq_true_eq] at h
  rcases h with rfl | rfl <;> decide
theorem i_and_b (x : Int32) (h : i_and x = true) : x < -8 ∧ -15 ≤ x := by
  unfold i_and at h; rw [decide_eq_true_eq] at h; subst h; decide
theorem i_or_b (x : Int32) (h : i_or x = true) : x < -8 ∧ -15 ≤ x := by
  unfold i_or at h; rw [decide_eq_true_eq] at h; subst h; decide
theorem p_bld_ok {dp : Bool} {q : p_3} (h1 : dp = true → p_ok q.1) (h2 : dp = true → p_ok q.2.1) (h3 : dp = true → p_ok q.2.2) : p_ok (p_bld dp q).1 ∧ p_ok (p_bld dp q).2.1 ∧ p_ok (p_bld dp q).2.2 := by
  have g1 : p_ok (p_one dp q.1 q.2.2) := p_one_ok h1 h3
  have g2 : p_ok (p_den dp q.2.1 (p_sq i_add (p_sq i_tim (p_one dp q.1 q.2.2)))) := p_den_ok h2 (p_sq_ok (p_sq_ok g1 i_tim_b) i_add_b)
  exact ⟨g1, g2, p_sq_ok (p_sq_ok g2 i_and_b) i_or_b⟩
theorem p_lev_ok : ∀ d, p_ok (p_lev d).1 ∧ p_ok (p_lev d).2.1 ∧ p_ok (p_lev d).2.2 := by
  intro d
  induction d with
  | zero => exact p_bld_ok (fun h => by cases h) (fun h => by cases h) (fun h => by cases h)
  | succ d ih => exact p_bld_ok (fun _ => ih.1) (fun _ => ih.2.1) (fun _ => ih.2.2)
theorem pl_one_ok (d : Nat) : p_ok (pl_one d) := (p_lev_ok d).1
theorem pl_ter_ok (d : Nat) : p_ok (pl_ter d) := p_sq_ok (pl_one_ok d) i_tim_b
theorem pl_sum_ok (d : Nat) : p_ok (pl_sum d) := p_sq_ok (pl_ter_ok d) i_add_b
theorem pl_den_ok (d : Nat) : p_ok (pl_den d) := (p_lev_ok d).2.1
theorem pl_bot_ok (d : Nat) : p_ok (pl_bot d) := p_sq_ok (pl_den_ok d) i_and_b
theorem pl_eit_ok (d : Nat) : p_ok (pl_eit d) := (p_lev_ok d).2.2
