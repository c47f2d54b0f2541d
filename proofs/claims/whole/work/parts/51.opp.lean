/-! the reference's parser: deeds that are held (the last first), how many are open, what is written -/
def ht (k : Nat) : Nat := match k with
  | 7 => 1
  | 6 => 2
  | 8 => 3
  | 4 => 4
  | 5 => 4
  | 1 => 5
  | 2 => 5
  | 3 => 6
  | 9 => 7
  | _ => 0
def dcode (k : Nat) : Int32 := match k with
  | 1 => -13
  | 2 => -14
  | 3 => -15
  | 4 => -11
  | 5 => -12
  | 6 => -10
  | 7 => -9
  | 8 => -7
  | _ => -8
def ot (x : Int32) : Nat := if x = -13 then 1 else if x = -14 then 2 else if x = -15 then 3 else if x = -11 then 4 else if x = -12 then 5 else if x = -10 then 6 else if x = -9 then 7 else 0
def o_dn (k o : Nat) : Nat := if k = 8 ∨ k = 9 then o - 1 else o
def lets (h : Nat) : List Nat → Nat → List Int32 → List Nat × Nat × List Int32
  | [], o, out => ([], o, out)
  | k :: K, o, out => if h ≤ ht k then lets h K (o_dn k o) (out ++ [dcode k]) else (k :: K, o, out)
def mayN (K : List Nat) : Bool := match K with
  | [] => true
  | k :: _ => decide (k = 10) || decide (k = 7) || decide (k = 6) || decide (k = 8)
def tcmp (K : List Nat) : Bool := match K with
  | [] => false
  | k :: _ => decide (k = 4) || decide (k = 5)
def o_dd (x : Int32) (K : List Nat) : Nat := if x = -7 ∧ mayN K = true then 8 else if x = -14 then 9 else if x = 5 then 10 else 0
def op : List tk → Bool → List Nat → Nat → List Int32 → p_R
  | [], _, _, _, _ => ([], none)
  | u :: T1, true, K, o, out => if u.1 = 1 then op T1 false K o (out ++ [u.2.1]) else if i_nam u.1 = true then op T1 false K o (out ++ [u.1])
      else if o_dd u.1 K = 0 ∨ o = 5 then (u :: T1, none) else op T1 true (o_dd u.1 K :: K) (o + 1) out
  | u :: T1, false, K, o, out =>
      if ot u.1 = 0 then (if u.1 = 7 then (match (lets 1 K o out).1 with
            | [] => (T1, some (lets 1 K o out).2.2)
            | _ :: _ => (u :: T1, none))
          else if u.1 = 6 then (match (lets 1 K o out).1 with
            | [] => (u :: T1, none)
            | _ :: K2 => op T1 false K2 ((lets 1 K o out).2.1 - 1) (lets 1 K o out).2.2)
          else (u :: T1, none))
      else if i_cmp u.1 = true then (if tcmp (lets 5 K o out).1 = true then (u :: T1, none) else op T1 true (ot u.1 :: (lets 5 K o out).1) (lets 5 K o out).2.1 (lets 5 K o out).2.2)
      else op T1 true (ot u.1 :: (lets (ht (ot u.1)) K o out).1) (lets (ht (ot u.1)) K o out).2.1 (lets (ht (ot u.1)) K o out).2.2
/-- what a token lets go at least -/
def fh (x : Int32) : Nat := if ot x = 0 then 1 else if i_cmp x = true then 5 else ht (ot x)
theorem lets_pop {h k : Nat} (K : List Nat) (o : Nat) (out : List Int32) (hk : h ≤ ht k) : lets h (k :: K) o out = lets h K (o_dn k o) (out ++ [dcode k]) := by
  conv => lhs; unfold lets
  rw [if_pos hk]
def htop (K : List Nat) : Nat := match K with
  | [] => 0
  | k :: _ => ht k
theorem lets_stop {h : Nat} {K : List Nat} (o : Nat) (out : List Int32) (hk : htop K < h) : lets h K o out = (K, o, out) := by
  cases K with
  | nil => rfl
  | cons k K =>
    unfold lets
    rw [if_neg (show ¬ h ≤ ht k from Nat.not_le.mpr hk)]
theorem op_fl {T : List tk} {k : Nat} (K : List Nat) (o : Nat) (out : List Int32) (h : fh (tk_h T) ≤ ht k) : op T false (k :: K) o out = op T false K (o_dn k o) (out ++ [dcode k]) := by
  cases T with
  | nil => rfl
  | cons u T =>
    have h : fh u.1 ≤ ht k := h
    unfold fh at h
    unfold op
    by_cases h0 : ot u.1 = 0
    · simp only [if_pos h0] at h ⊢
      rw [lets_pop K o out h]
    · simp only [if_neg h0] at h ⊢
      by_cases h1 : i_cmp u.1 = true
      · simp only [if_pos h1] at h ⊢
        rw [lets_pop K o out h]
      · simp only [if_neg h1] at h ⊢
        rw [lets_pop K o out h]
/-- the heads that a reading can leave -/
def p_fin (f : p_F) (P : Int32 → Prop) : Prop := ∀ T T2 c, f T = (T2, some c) → P (tk_h T2)
/-- a reading shortens -/
def p_sh (f : p_F) : Prop := ∀ T T2 c, f T = (T2, some c) → T2.length < T.length
theorem p_lp_fin {ops : Int32 → Bool} {f : p_F} {P : Int32 → Prop} (hs : p_sh f) (hf : p_fin f P) (h8 : ops 8 = false) : ∀ (n : Nat) (T : List tk) (acc : List Int32), T.length ≤ n → P (tk_h T) → ∀ T2 c, p_lp ops f n T acc = (T2, some c) → P (tk_h T2) ∧ ops (tk_h T2) = false ∧ T2.length ≤ T.length := by
  intro n
  induction n with
  | zero =>
    intro T acc hT hP T2 c h
    cases T with
    | nil => unfold p_lp at h; cases h; exact ⟨hP, h8, Nat.le_refl _⟩
    | cons u T => exact absurd hT (by simp only [List.length_cons]; omega)
  | succ n ih =>
    intro T acc hT hP T2 c h
    cases T with
    | nil => unfold p_lp at h; cases h; exact ⟨hP, h8, Nat.le_refl _⟩
    | cons u T =>
      unfold p_lp at h
      by_cases hu : ops u.1 = true
      · rw [if_pos hu] at h
        rcases p_res (f T) with ⟨T3, hq⟩ | ⟨T3, c3, hq⟩
        · rw [hq] at h; cases h
        · rw [hq] at h
          have h1 := hs T T3 c3 hq
          simp only [List.length_cons] at hT ⊢
          obtain ⟨a, b, c'⟩ := ih T3 _ (by omega) (hf T T3 c3 hq) T2 c h
          exact ⟨a, b, by omega⟩
      · rw [if_neg hu] at h; cases h
        exact ⟨hP, (show ops u.1 = false by simpa using hu), Nat.le_refl _⟩
theorem p_sq_fin {ops : Int32 → Bool} {f : p_F} {P : Int32 → Prop} (hs : p_sh f) (hf : p_fin f P) (h8 : ops 8 = false) : p_fin (p_sq ops f) (fun x => P x ∧ ops x = false) := by
  intro T T2 c h
  unfold p_sq at h
  rcases p_res (f T) with ⟨T3, hq⟩ | ⟨T3, c3, hq⟩
  · rw [hq] at h; cases h
  · rw [hq] at h
    obtain ⟨a, b, _⟩ := p_lp_fin hs hf h8 _ T3 c3 (Nat.le_refl _) (hf T T3 c3 hq) T2 c h
    exact ⟨a, b⟩
theorem p_sq_sh {ops : Int32 → Bool} {f : p_F} (hs : p_sh f) (h8 : ops 8 = false) : p_sh (p_sq ops f) := by
  intro T T2 c h
  unfold p_sq at h
  rcases p_res (f T) with ⟨T3, hq⟩ | ⟨T3, c3, hq⟩
  · rw [hq] at h; cases h
  · rw [hq] at h
    obtain ⟨_, _, a⟩ := p_lp_fin (P := fun _ => True) hs (fun _ _ _ _ => trivial) h8 _ T3 c3 (Nat.le_refl _) trivial T2 c h
    have := hs T T3 c3 hq
    omega
/-- what a good reading of what stands in K's way comes to; 'x': a comparison behind it is refused -/
def p_ct (x : Bool) (r : p_R) (K : List Nat) (o : Nat) (out : List Int32) : p_R := match r with
  | (T2, none) => (T2, none)
  | (T2, some c) => if x = true ∧ i_cmp (tk_h T2) = true then (T2, none) else op T2 false K o (out ++ c)
/-- the reference reads as f does: ahead of it 'not' may stand, if x -/
def p_as (x : Bool) (f : p_F) (o h : Nat) : Prop := ∀ (T : List tk) (K : List Nat) (out : List Int32), htop K < h → (x = true → mayN K = true) → (x = false → mayN K = true → tk_h T ≠ -7) → op T true K o out = p_ct x (f T) K o out
theorem ot_dc {x : Int32} (h : ot x ≠ 0) : dcode (ot x) = x := by
  unfold ot at h ⊢
  by_cases h1 : x = -13
  · subst h1; rfl
  by_cases h2 : x = -14
  · subst h2; rfl
  by_cases h3 : x = -15
  · subst h3; rfl
  by_cases h4 : x = -11
  · subst h4; rfl
  by_cases h5 : x = -12
  · subst h5; rfl
  by_cases h6 : x = -10
  · subst h6; rfl
  by_cases h7 : x = -9
  · subst h7; rfl
  simp only [if_neg h1, if_neg h2, if_neg h3, if_neg h4, if_neg h5, if_neg h6, if_neg h7] at h
  exact absurd rfl h
theorem ot_dn {x : Int32} (o : Nat) : o_dn (ot x) o = o := by
  unfold o_dn
  rw [if_neg]
  unfold ot
  by_cases h1 : x = -13
  · subst h1; decide
  by_cases h2 : x = -14
  · subst h2; decide
  by_cases h3 : x = -15
  · subst h3; decide
  by_cases h4 : x = -11
  · subst h4; decide
  by_cases h5 : x = -12
  · subst h5; decide
  by_cases h6 : x = -10
  · subst h6; decide
  by_cases h7 : x = -9
  · subst h7; decide
  simp only [if_neg h1, if_neg h2, if_neg h3, if_neg h4, if_neg h5, if_neg h6, if_neg h7]
  decide
/-- a row of like signs -/
theorem p_lp_as {ops : Int32 → Bool} {f : p_F} {x : Bool} {o h h' : Nat} (hf : p_as x f o h') (hh : h < h') (hs : p_sh f)
    (ho : ∀ v, ops v = true → ot v ≠ 0 ∧ i_cmp v = false ∧ ht (ot v) = h ∧ (x = true → mayN [ot v] = true) ∧ (x = false → mayN [ot v] = false))
    (hfin : p_fin f (fun v => (x = true → i_cmp v = false) → fh v ≤ h)) : ∀ (n : Nat) (T : List tk) (K : List Nat) (out acc : List Int32), T.length ≤ n → htop K < h → (x = true → i_cmp (tk_h T) = false) → op T false K o (out ++ acc) = p_ct x (p_lp ops f n T acc) K o out := by
  have hmay : ∀ (k : Nat) (K : List Nat), mayN (k :: K) = mayN [k] := fun _ _ => rfl
  intro n
  induction n with
  | zero =>
    intro T K out acc hT hK hc
    cases T with
    | nil =>
      unfold p_lp p_ct
      simp only
      rw [if_neg (fun q => by rw [hc q.1] at q; exact Bool.noConfusion q.2)]
    | cons u T => exact absurd hT (by simp only [List.length_cons]; omega)
  | succ n ih =>
    intro T K out acc hT hK hc
    cases T with
    | nil =>
      unfold p_lp p_ct
      simp only
      rw [if_neg (fun q => by rw [hc q.1] at q; exact Bool.noConfusion q.2)]
    | cons u T =>
      unfold p_lp
      by_cases hu : ops u.1 = true
      · rw [if_pos hu]
        obtain ⟨o1, o2, o3, o4, o5⟩ := ho _ hu
        have e1 : op (u :: T) false K o (out ++ acc) = op T true (ot u.1 :: K) o (out ++ acc) := by
          conv => lhs; unfold op
          rw [if_neg o1, if_neg (by rw [o2]; decide), o3, lets_stop _ _ hK]
        rw [e1, hf T (ot u.1 :: K) (out ++ acc) (show ht (ot u.1) < h' by rw [o3]; exact hh) (fun q => by rw [hmay]; exact o4 q) (fun q q2 => by rw [hmay, o5 q] at q2; exact Bool.noConfusion q2)]
        rcases p_res (f T) with ⟨T3, hq⟩ | ⟨T3, c3, hq⟩
        · rw [hq]; rfl
        · rw [hq]
          have h1 := hs T T3 c3 hq
          simp only [List.length_cons] at hT
          by_cases hx : x = true ∧ i_cmp (tk_h T3) = true
          · have e2 : p_lp ops f n T3 (acc ++ c3 ++ [u.1]) = (T3, some (acc ++ c3 ++ [u.1])) := by
              cases n with
              | zero => rfl
              | succ n =>
                cases T3 with
                | nil => rfl
                | cons v T3 =>
                  unfold p_lp
                  rw [if_neg]
                  intro q
                  have := (ho _ q).2.1
                  rw [show tk_h (v :: T3) = v.1 from rfl, this] at hx
                  exact Bool.noConfusion hx.2
            simp only [e2]
            unfold p_ct
            simp only [if_pos hx]
          · have hx' : x = true → i_cmp (tk_h T3) = false := fun q => by
              cases q2 : i_cmp (tk_h T3)
              · rfl
              · exact absurd ⟨q, q2⟩ hx
            have hfl : fh (tk_h T3) ≤ ht (ot u.1) := by rw [o3]; exact hfin T T3 c3 hq hx'
            have e3 : p_ct x (T3, some c3) (ot u.1 :: K) o (out ++ acc) = op T3 false (ot u.1 :: K) o (out ++ acc ++ c3) := by
              unfold p_ct
              simp only [if_neg hx]
            rw [e3, op_fl K o _ hfl, ot_dn, ot_dc o1]
            have := ih T3 K out (acc ++ c3 ++ [u.1]) (by omega) hK hx'
            rw [← this]
            simp only [List.append_assoc]
      · rw [if_neg hu]
        unfold p_ct
        simp only
        rw [if_neg (fun q => by rw [hc q.1] at q; exact Bool.noConfusion q.2)]
theorem p_sq_as {ops : Int32 → Bool} {f : p_F} {x : Bool} {o h h' : Nat} (hf : p_as x f o h') (hh : h < h') (hs : p_sh f)
    (ho : ∀ v, ops v = true → ot v ≠ 0 ∧ i_cmp v = false ∧ ht (ot v) = h ∧ (x = true → mayN [ot v] = true) ∧ (x = false → mayN [ot v] = false))
    (hfin : p_fin f (fun v => (x = true → i_cmp v = false) → fh v ≤ h)) : p_as x (p_sq ops f) o h := by
  intro T K out hK h1 h2
  rw [hf T K out (by omega) h1 h2]
  unfold p_sq
  rcases p_res (f T) with ⟨T3, hq⟩ | ⟨T3, c3, hq⟩
  · rw [hq]
  · rw [hq]
    simp only
    by_cases hx : x = true ∧ i_cmp (tk_h T3) = true
    · have e2 : p_lp ops f T3.length T3 c3 = (T3, some c3) := by
        cases T3 with
        | nil => rfl
        | cons v T3 =>
          simp only [List.length_cons]
          unfold p_lp
          rw [if_neg]
          intro q
          have := (ho _ q).2.1
          rw [show tk_h (v :: T3) = v.1 from rfl, this] at hx
          exact Bool.noConfusion hx.2
      rw [e2]
    · have hx' : x = true → i_cmp (tk_h T3) = false := fun q => by
        cases q2 : i_cmp (tk_h T3)
        · rfl
        · exact absurd ⟨q, q2⟩ hx
      have e3 : p_ct x (T3, some c3) K o out = op T3 false K o (out ++ c3) := by
        unfold p_ct
        simp only [if_neg hx]
      rw [e3]
      exact p_lp_as hf hh hs ho hfin T3.length T3 K out c3 (Nat.le_refl _) hK hx'
/-- a ONE -/
theorem p_one_as {dp : Bool} {s1 sE : p_F} {o : Nat} (hd : dp = false → o = 5) (h5 : dp = true → o ≠ 5) (h1 : dp = true → p_as false s1 (o + 1) 8) (h2 : dp = true → p_as true sE (o + 1) 1) (hE : dp = true → p_fin sE (fun v => i_cmp v = false → ot v = 0)) : p_as false (p_one dp s1 sE) o 8 := by
  intro T K out hK _ hn
  cases T with
  | nil => rfl
  | cons u T =>
    unfold op p_one
    simp only
    by_cases e1 : u.1 = 1
    · simp only [if_pos e1]; rfl
    simp only [if_neg e1]
    by_cases e2 : i_nam u.1 = true
    · simp only [if_pos e2]; rfl
    simp only [if_neg e2]
    have e7 : ¬ (u.1 = -7 ∧ mayN K = true) := fun q => hn rfl q.2 q.1
    have e8 : o_dd u.1 K = if u.1 = -14 then 9 else if u.1 = 5 then 10 else 0 := by
      unfold o_dd; rw [if_neg e7]
    rw [e8]
    cases dp with
    | false =>
      have := hd rfl
      rw [if_pos (Or.inr this), if_neg (fun q => Bool.noConfusion q.1), if_neg (fun q => Bool.noConfusion q.1)]; rfl
    | true =>
      have h5 := h5 rfl
      by_cases e3 : u.1 = -14
      · rw [if_pos e3, if_neg (fun q => by rcases q with q | q; exact absurd q (by decide); exact h5 q), if_pos ⟨rfl, e3⟩]
        rw [h1 rfl T (9 :: K) out (by show 7 < 8; omega) (fun q => Bool.noConfusion q) (fun _ q => by exact Bool.noConfusion q)]
        rcases p_res (s1 T) with ⟨T3, hq⟩ | ⟨T3, c3, hq⟩
        · rw [hq]; rfl
        · rw [hq]
          have hfl : fh (tk_h T3) ≤ ht 9 := by
            show _ ≤ 7
            unfold fh
            split
            · omega
            · split
              · omega
              · unfold ht; split <;> omega
          show op T3 false (9 :: K) (o + 1) (out ++ c3) = op T3 false K o (out ++ (c3 ++ [-8]))
          rw [op_fl K _ _ hfl, List.append_assoc]
          rfl
      · rw [if_neg e3]
        by_cases e4 : u.1 = 5
        · rw [if_pos e4, if_neg (fun q => by rcases q with q | q; exact absurd q (by decide); exact h5 q), if_neg (fun q => e3 q.2), if_pos ⟨rfl, e4⟩]
          rw [h2 rfl T (10 :: K) out (by show 0 < 1; omega) (fun _ => rfl) (fun q => Bool.noConfusion q)]
          rcases p_res (sE T) with ⟨T3, hq⟩ | ⟨T3, c3, hq⟩
          · rw [hq]; rfl
          · rw [hq]
            cases T3 with
            | nil =>
              show (if true = true ∧ i_cmp (tk_h []) = true then (([], none) : p_R) else op [] false (10 :: K) (o + 1) (out ++ c3)) = ([], none)
              rw [if_neg (fun q => absurd q.2 (by decide))]; rfl
            | cons v T3 =>
              have hf := hE rfl T _ _ hq
              show (if true = true ∧ i_cmp v.1 = true then ((v :: T3, none) : p_R) else op (v :: T3) false (10 :: K) (o + 1) (out ++ c3)) = p_ct false (if v.1 = 6 then (T3, some c3) else (v :: T3, none)) K o out
              by_cases g : v.1 = 6
              · rw [if_pos g]
                have g1 : i_cmp v.1 = false := by rw [g]; decide
                have g2 : ot v.1 = 0 := by rw [g]; decide
                rw [if_neg (fun q => by rw [g1] at q; exact Bool.noConfusion q.2)]
                unfold op
                rw [if_pos g2, if_neg (by rw [g]; decide), if_pos g, lets_stop _ _ (show ht 10 < 1 by decide)]
                rfl
              · rw [if_neg g]
                by_cases g1 : i_cmp v.1 = true
                · rw [if_pos ⟨rfl, g1⟩]; rfl
                · rw [if_neg (fun q => g1 q.2)]
                  have g2 : ot v.1 = 0 := hf (show i_cmp v.1 = false by simpa using g1)
                  unfold op
                  rw [if_pos g2, if_neg g, lets_stop _ _ (show ht 10 < 1 by decide)]
                  by_cases g3 : v.1 = 7
                  · rw [if_pos g3]; rfl
                  · rw [if_neg g3]; rfl
        · rw [if_neg e4, if_pos (Or.inl rfl), if_neg (fun q => e3 q.2), if_neg (fun q => e4 q.2)]; rfl
theorem mayN_cmp {K : List Nat} (h : mayN K = true) : tcmp K = false := by
  cases K with
  | nil => rfl
  | cons k K =>
    unfold mayN at h
    unfold tcmp
    simp only [Bool.or_eq_true, decide_eq_true_eq] at h
    rcases h with ((rfl | rfl) | rfl) | rfl <;> rfl
theorem p_den_as {dp : Bool} {sD sS : p_F} {o : Nat} (hd : dp = false → o = 5) (h5 : dp = true → o ≠ 5) (hD : dp = true → p_as true sD (o + 1) 4) (hS : p_as false sS o 5) (fD : dp = true → p_fin sD (fun v => i_cmp v = false → fh v ≤ 2)) (fS : p_fin sS (fun v => i_cmp v = false → fh v ≤ 2)) : p_as true (p_den dp sD sS) o 4 := by
  intro T K out hK hm _
  have hm := hm rfl
  cases T with
  | nil => rfl
  | cons u T =>
    unfold p_den
    simp only
    by_cases e1 : u.1 = -7
    · rw [if_pos e1]
      unfold op
      have a1 : ¬ u.1 = 1 := by rw [e1]; decide
      have a2 : ¬ i_nam u.1 = true := by rw [e1]; decide
      have a3 : o_dd u.1 K = 8 := by unfold o_dd; rw [if_pos ⟨e1, hm⟩]
      rw [if_neg a1, if_neg a2, a3]
      cases dp with
      | false => rw [if_pos (Or.inr (hd rfl)), if_neg (fun q => Bool.noConfusion q)]; rfl
      | true =>
        rw [if_neg (fun q => by rcases q with q | q; exact absurd q (by decide); exact h5 rfl q), if_pos rfl]
        rw [hD rfl T (8 :: K) out (by show 3 < 4; omega) (fun _ => rfl) (fun q => Bool.noConfusion q)]
        rcases p_res (sD T) with ⟨T3, hq⟩ | ⟨T3, c3, hq⟩
        · rw [hq]; rfl
        · rw [hq]
          show (if true = true ∧ i_cmp (tk_h T3) = true then ((T3, none) : p_R) else op T3 false (8 :: K) (o + 1) (out ++ c3)) = (if true = true ∧ i_cmp (tk_h T3) = true then ((T3, none) : p_R) else op T3 false K o (out ++ (c3 ++ [-7])))
          by_cases g : true = true ∧ i_cmp (tk_h T3) = true
          · rw [if_pos g, if_pos g]
          · rw [if_neg g, if_neg g]
            have hfl : fh (tk_h T3) ≤ ht 8 := Nat.le_trans (fD rfl T T3 c3 hq (by
              cases q : i_cmp (tk_h T3)
              · rfl
              · exact absurd ⟨rfl, q⟩ g)) (by decide)
            rw [op_fl K _ _ hfl, List.append_assoc]
            rfl
    · rw [if_neg e1, hS (u :: T) K out (by omega) (fun q => Bool.noConfusion q) (fun _ _ => e1)]
      rcases p_res (sS (u :: T)) with ⟨T3, hq⟩ | ⟨T3, c3, hq⟩
      · rw [hq]; rfl
      · rw [hq]
        show (if false = true ∧ i_cmp (tk_h T3) = true then ((T3, none) : p_R) else op T3 false K o (out ++ c3)) = _
        rw [if_neg (fun q => Bool.noConfusion q.1)]
        cases T3 with
        | nil => rfl
        | cons v T3 =>
          show _ = p_ct true (if i_cmp v.1 = true then p_cm2 v c3 (sS T3) else (v :: T3, some c3)) K o out
          by_cases g : i_cmp v.1 = true
          · rw [if_pos g]
            have g0 : ot v.1 ≠ 0 := by
              unfold i_cmp at g
              simp only [Bool.or_eq_true, decide_eq_true_eq] at g
              rcases g with g | g <;> rw [g] <;> decide
            have g4 : ht (ot v.1) = 4 := by
              unfold i_cmp at g
              simp only [Bool.or_eq_true, decide_eq_true_eq] at g
              rcases g with g | g <;> rw [g] <;> decide
            have g5 : ∀ K', tcmp (ot v.1 :: K') = true := by
              intro K'
              unfold i_cmp at g
              simp only [Bool.or_eq_true, decide_eq_true_eq] at g
              rcases g with g | g <;> rw [g] <;> rfl
            have e2 : op (v :: T3) false K o (out ++ c3) = op T3 true (ot v.1 :: K) o (out ++ c3) := by
              conv => lhs; unfold op
              rw [if_neg g0, if_pos g, lets_stop _ _ (show htop K < 5 by omega), if_neg (by rw [mayN_cmp hm]; decide)]
            have g6 : mayN (ot v.1 :: K) = false := by
              unfold i_cmp at g
              simp only [Bool.or_eq_true, decide_eq_true_eq] at g
              rcases g with g | g <;> rw [g] <;> rfl
            rw [e2, hS T3 (ot v.1 :: K) (out ++ c3) (by show ht (ot v.1) < 5; omega) (fun q => Bool.noConfusion q) (fun _ q => by rw [g6] at q; exact Bool.noConfusion q)]
            rcases p_res (sS T3) with ⟨T4, hr⟩ | ⟨T4, c4, hr⟩
            · rw [hr]; rfl
            · rw [hr]
              show (if false = true ∧ i_cmp (tk_h T4) = true then ((T4, none) : p_R) else op T4 false (ot v.1 :: K) o (out ++ c3 ++ c4)) = (if true = true ∧ i_cmp (tk_h T4) = true then ((T4, none) : p_R) else op T4 false K o (out ++ (c3 ++ c4 ++ [v.1])))
              rw [if_neg (fun q => Bool.noConfusion q.1)]
              by_cases k : true = true ∧ i_cmp (tk_h T4) = true
              · rw [if_pos k]
                cases T4 with
                | nil => exact absurd k.2 (by decide)
                | cons y T4 =>
                  have k2 : i_cmp y.1 = true := k.2
                  have k0 : ot y.1 ≠ 0 := by
                    unfold i_cmp at k2
                    simp only [Bool.or_eq_true, decide_eq_true_eq] at k2
                    rcases k2 with k2 | k2 <;> rw [k2] <;> decide
                  unfold op
                  rw [if_neg k0, if_pos k2, lets_stop _ _ (show ht (ot v.1) < 5 by omega), if_pos (g5 K)]
              · rw [if_neg k]
                have hfl : fh (tk_h T4) ≤ ht (ot v.1) := by
                  rw [g4]
                  refine Nat.le_trans (fS T3 T4 c4 hr (by
                    cases q : i_cmp (tk_h T4)
                    · rfl
                    · exact absurd ⟨rfl, q⟩ k)) (by decide)
                rw [op_fl K _ _ hfl, ot_dn, ot_dc g0]
                simp only [List.append_assoc]
          · rw [if_neg g]
            show _ = (if true = true ∧ i_cmp v.1 = true then ((v :: T3, none) : p_R) else op (v :: T3) false K o (out ++ c3))
            rw [if_neg (fun q => g q.2)]
/-! shortening, and the heads that are left, level by level -/
theorem p_one_sh {dp : Bool} {s1 sE : p_F} (h1 : dp = true → p_sh s1) (h2 : dp = true → p_sh sE) : p_sh (p_one dp s1 sE) := by
  intro T T2 c h
  cases T with
  | nil => cases h
  | cons u T =>
    unfold p_one at h
    simp only at h
    simp only [List.length_cons]
    by_cases e1 : u.1 = 1
    · rw [if_pos e1] at h; cases h; omega
    rw [if_neg e1] at h
    by_cases e2 : i_nam u.1 = true
    · rw [if_pos e2] at h; cases h; omega
    rw [if_neg e2] at h
    by_cases e3 : dp = true ∧ u.1 = -14
    · rw [if_pos e3] at h
      rcases p_res (s1 T) with ⟨T3, hq⟩ | ⟨T3, c3, hq⟩
      · rw [hq] at h; cases h
      · rw [hq] at h; cases h
        have := h1 e3.1 T _ _ hq; omega
    rw [if_neg e3] at h
    by_cases e4 : dp = true ∧ u.1 = 5
    · rw [if_pos e4] at h
      rcases p_res (sE T) with ⟨T3, hq⟩ | ⟨T3, c3, hq⟩
      · rw [hq] at h; cases h
      · rw [hq] at h
        have := h2 e4.1 T _ _ hq
        cases T3 with
        | nil => cases h
        | cons v T3 =>
          unfold p_clo at h
          simp only at h
          simp only [List.length_cons] at this
          by_cases e : v.1 = 6
          · rw [if_pos e] at h; cases h; omega
          · rw [if_neg e] at h; cases h
    rw [if_neg e4] at h; cases h
theorem p_den_sh {dp : Bool} {sD sS : p_F} (h1 : dp = true → p_sh sD) (h2 : p_sh sS) : p_sh (p_den dp sD sS) := by
  intro T T2 c h
  cases T with
  | nil => cases h
  | cons u T =>
    unfold p_den at h
    simp only at h
    by_cases e1 : u.1 = -7
    · rw [if_pos e1] at h
      by_cases e2 : dp = true
      · rw [if_pos e2] at h
        rcases p_res (sD T) with ⟨T3, hq⟩ | ⟨T3, c3, hq⟩
        · rw [hq] at h; cases h
        · rw [hq] at h; cases h
          have := h1 e2 T _ _ hq
          simp only [List.length_cons]; omega
      · rw [if_neg e2] at h; cases h
    · rw [if_neg e1] at h
      rcases p_res (sS (u :: T)) with ⟨T3, hq⟩ | ⟨T3, c3, hq⟩
      · rw [hq] at h; cases h
      · rw [hq] at h
        have := h2 _ _ _ hq
        cases T3 with
        | nil => cases h; exact this
        | cons v T3 =>
          unfold p_cmp at h
          simp only at h
          by_cases e3 : i_cmp v.1 = true
          · rw [if_pos e3] at h
            rcases p_res (sS T3) with ⟨T4, hr⟩ | ⟨T4, c4, hr⟩
            · rw [hr] at h; cases h
            · rw [hr] at h; cases h
              have g := h2 _ _ _ hr
              simp only [List.length_cons] at this ⊢; omega
          · rw [if_neg e3] at h; cases h; exact this
theorem p_den_fin {dp : Bool} {sD sS : p_F} {P : Int32 → Prop} (h1 : dp = true → p_fin sD P) (h2 : p_fin sS P) : p_fin (p_den dp sD sS) P := by
  intro T T2 c h
  cases T with
  | nil => cases h
  | cons u T =>
    unfold p_den at h
    simp only at h
    by_cases e1 : u.1 = -7
    · rw [if_pos e1] at h
      by_cases e2 : dp = true
      · rw [if_pos e2] at h
        rcases p_res (sD T) with ⟨T3, hq⟩ | ⟨T3, c3, hq⟩
        · rw [hq] at h; cases h
        · rw [hq] at h; cases h
          exact h1 e2 T _ _ hq
      · rw [if_neg e2] at h; cases h
    · rw [if_neg e1] at h
      rcases p_res (sS (u :: T)) with ⟨T3, hq⟩ | ⟨T3, c3, hq⟩
      · rw [hq] at h; cases h
      · rw [hq] at h
        have := h2 _ _ _ hq
        cases T3 with
        | nil => cases h; exact this
        | cons v T3 =>
          unfold p_cmp at h
          simp only at h
          by_cases e3 : i_cmp v.1 = true
          · rw [if_pos e3] at h
            rcases p_res (sS T3) with ⟨T4, hr⟩ | ⟨T4, c4, hr⟩
            · rw [hr] at h; cases h
            · rw [hr] at h; cases h
              exact h2 _ _ _ hr
          · rw [if_neg e3] at h; cases h; exact this
theorem p_bld_sh {dp : Bool} {q : p_3} (h1 : dp = true → p_sh q.1) (h2 : dp = true → p_sh q.2.1) (h3 : dp = true → p_sh q.2.2) : p_sh (p_bld dp q).1 ∧ p_sh (p_bld dp q).2.1 ∧ p_sh (p_bld dp q).2.2 := by
  have g1 : p_sh (p_one dp q.1 q.2.2) := p_one_sh h1 h3
  have g2 : p_sh (p_den dp q.2.1 (p_sq i_add (p_sq i_tim (p_one dp q.1 q.2.2)))) := p_den_sh h2 (p_sq_sh (p_sq_sh g1 (by decide)) (by decide))
  exact ⟨g1, g2, p_sq_sh (p_sq_sh g2 (by decide)) (by decide)⟩
theorem p_lev_sh : ∀ d, p_sh (p_lev d).1 ∧ p_sh (p_lev d).2.1 ∧ p_sh (p_lev d).2.2 := by
  intro d
  induction d with
  | zero => exact p_bld_sh (fun h => by cases h) (fun h => by cases h) (fun h => by cases h)
  | succ d ih => exact p_bld_sh (fun _ => ih.1) (fun _ => ih.2.1) (fun _ => ih.2.2)
theorem pl_one_sh (d : Nat) : p_sh (pl_one d) := (p_lev_sh d).1
theorem pl_ter_sh (d : Nat) : p_sh (pl_ter d) := p_sq_sh (pl_one_sh d) (by decide)
theorem pl_sum_sh (d : Nat) : p_sh (pl_sum d) := p_sq_sh (pl_ter_sh d) (by decide)
theorem pl_den_sh (d : Nat) : p_sh (pl_den d) := (p_lev_sh d).2.1
theorem pl_bot_sh (d : Nat) : p_sh (pl_bot d) := p_sq_sh (pl_den_sh d) (by decide)
theorem pl_ter_fin (d : Nat) : p_fin (pl_ter d) (fun v => True ∧ i_tim v = false) := p_sq_fin (pl_one_sh d) (fun _ _ _ _ => trivial) (by decide)
theorem pl_sum_fin (d : Nat) : p_fin (pl_sum d) (fun v => (True ∧ i_tim v = false) ∧ i_add v = false) := p_sq_fin (pl_ter_sh d) (pl_ter_fin d) (by decide)
theorem pl_den_fin : ∀ d : Nat, p_fin (pl_den d) (fun v => (True ∧ i_tim v = false) ∧ i_add v = false) := by
  intro d
  induction d with
  | zero => rw [pl_den_0]; exact p_den_fin (fun h => by cases h) (pl_sum_fin 0)
  | succ d ih => rw [pl_den_s]; exact p_den_fin (fun _ => ih) (pl_sum_fin (d + 1))
theorem pl_bot_fin (d : Nat) : p_fin (pl_bot d) (fun v => ((True ∧ i_tim v = false) ∧ i_add v = false) ∧ i_and v = false) := p_sq_fin (pl_den_sh d) (pl_den_fin d) (by decide)
theorem pl_eit_fin (d : Nat) : p_fin (pl_eit d) (fun v => (((True ∧ i_tim v = false) ∧ i_add v = false) ∧ i_and v = false) ∧ i_or v = false) := by
  rw [pl_eit_eq]
  exact p_sq_fin (pl_bot_sh d) (pl_bot_fin d) (by decide)
/-- a head by its deed -/
theorem fh_by (v : Int32) : (i_tim v = true ∧ fh v = 6) ∨ (i_add v = true ∧ fh v = 5) ∨ (i_cmp v = true ∧ fh v = 5) ∨ (i_and v = true ∧ fh v = 2) ∨ (i_or v = true ∧ fh v = 1) ∨ (ot v = 0 ∧ fh v = 1) := by
  by_cases h1 : v = -13
  · subst h1; decide
  by_cases h2 : v = -14
  · subst h2; decide
  by_cases h3 : v = -15
  · subst h3; decide
  by_cases h4 : v = -11
  · subst h4; decide
  by_cases h5 : v = -12
  · subst h5; decide
  by_cases h6 : v = -10
  · subst h6; decide
  by_cases h7 : v = -9
  · subst h7; decide
  have h0 : ot v = 0 := by
    unfold ot
    simp only [if_neg h1, if_neg h2, if_neg h3, if_neg h4, if_neg h5, if_neg h6, if_neg h7]
  refine Or.inr (Or.inr (Or.inr (Or.inr (Or.inr ⟨h0, ?_⟩))))
  unfold fh
  rw [if_pos h0]
theorem fh_6 (v : Int32) : fh v ≤ 6 := by
  rcases fh_by v with h | h | h | h | h | h <;> omega
theorem fh_5 {v : Int32} (h1 : i_tim v = false) : fh v ≤ 5 := by
  rcases fh_by v with h | h | h | h | h | h
  · rw [h1] at h; exact Bool.noConfusion h.1
  all_goals omega
theorem fh_2 {v : Int32} (h1 : i_tim v = false) (h2 : i_add v = false) (h3 : i_cmp v = false) : fh v ≤ 2 := by
  rcases fh_by v with h | h | h | h | h | h
  · rw [h1] at h; exact Bool.noConfusion h.1
  · rw [h2] at h; exact Bool.noConfusion h.1
  · rw [h3] at h; exact Bool.noConfusion h.1
  all_goals omega
theorem fh_1 {v : Int32} (h1 : i_tim v = false) (h2 : i_add v = false) (h3 : i_cmp v = false) (h4 : i_and v = false) : fh v ≤ 1 := by
  rcases fh_by v with h | h | h | h | h | h
  · rw [h1] at h; exact Bool.noConfusion h.1
  · rw [h2] at h; exact Bool.noConfusion h.1
  · rw [h3] at h; exact Bool.noConfusion h.1
  · rw [h4] at h; exact Bool.noConfusion h.1
  all_goals omega
theorem fh_0 {v : Int32} (h1 : i_tim v = false) (h2 : i_add v = false) (h3 : i_cmp v = false) (h4 : i_and v = false) (h5 : i_or v = false) : ot v = 0 := by
  rcases fh_by v with h | h | h | h | h | h
  · rw [h1] at h; exact Bool.noConfusion h.1
  · rw [h2] at h; exact Bool.noConfusion h.1
  · rw [h3] at h; exact Bool.noConfusion h.1
  · rw [h4] at h; exact Bool.noConfusion h.1
  · rw [h5] at h; exact Bool.noConfusion h.1
  · exact h.1
theorem tim_o (v : Int32) (h : i_tim v = true) : ot v ≠ 0 ∧ i_cmp v = false ∧ ht (ot v) = 6 ∧ (false = true → mayN [ot v] = true) ∧ (false = false → mayN [ot v] = false) := by
  unfold i_tim at h; rw [decide_eq_true_eq] at h; subst h; decide
theorem add_o (v : Int32) (h : i_add v = true) : ot v ≠ 0 ∧ i_cmp v = false ∧ ht (ot v) = 5 ∧ (false = true → mayN [ot v] = true) ∧ (false = false → mayN [ot v] = false) := by
  unfold i_add at h
  rw [Bool.or_eq_true, decide_eq_true_eq, decide_eq_true_eq] at h
  rcases h with rfl | rfl <;> decide
theorem and_o (v : Int32) (h : i_and v = true) : ot v ≠ 0 ∧ i_cmp v = false ∧ ht (ot v) = 2 ∧ (true = true → mayN [ot v] = true) ∧ (true = false → mayN [ot v] = false) := by
  unfold i_and at h; rw [decide_eq_true_eq] at h; subst h; decide
theorem or_o (v : Int32) (h : i_or v = true) : ot v ≠ 0 ∧ i_cmp v = false ∧ ht (ot v) = 1 ∧ (true = true → mayN [ot v] = true) ∧ (true = false → mayN [ot v] = false) := by
  unfold i_or at h; rw [decide_eq_true_eq] at h; subst h; decide
theorem sum_as {d o : Nat} (h : p_as false (pl_one d) o 8) : p_as false (pl_sum d) o 5 := by
  have h1 : p_as false (pl_ter d) o 6 := p_sq_as h (by decide) (pl_one_sh d) tim_o (fun T T2 c _ _ => fh_6 _)
  exact p_sq_as h1 (by decide) (pl_ter_sh d) add_o (fun T T2 c q _ => fh_5 (pl_ter_fin d T T2 c q).2)
theorem eit_as {d o : Nat} (h : p_as true (pl_den d) o 4) : p_as true (pl_eit d) o 1 := by
  have h1 : p_as true (pl_bot d) o 2 := p_sq_as h (by decide) (pl_den_sh d) and_o (fun T T2 c q g => fh_2 (pl_den_fin d T T2 c q).1.2 (pl_den_fin d T T2 c q).2 (g rfl))
  rw [pl_eit_eq]
  exact p_sq_as h1 (by decide) (pl_bot_sh d) or_o (fun T T2 c q g => fh_1 (pl_bot_fin d T T2 c q).1.1.2 (pl_bot_fin d T T2 c q).1.2 (g rfl) (pl_bot_fin d T T2 c q).2)
theorem lev_as : ∀ d : Nat, d ≤ 5 → p_as false (pl_one d) (5 - d) 8 ∧ p_as true (pl_den d) (5 - d) 4 := by
  intro d
  induction d with
  | zero =>
    intro _
    have h1 : p_as false (pl_one 0) (5 - 0) 8 := by
      rw [pl_one_0]
      exact p_one_as (fun _ => rfl) (fun h => by cases h) (fun h => by cases h) (fun h => by cases h) (fun h => by cases h)
    refine ⟨h1, ?_⟩
    rw [pl_den_0]
    exact p_den_as (fun _ => rfl) (fun h => by cases h) (fun h => by cases h) (sum_as h1) (fun h => by cases h) (fun T T2 c q g => fh_2 (pl_sum_fin 0 T T2 c q).1.2 (pl_sum_fin 0 T T2 c q).2 g)
  | succ d ih =>
    intro hd
    obtain ⟨i1, i2⟩ := ih (by omega)
    have e : 5 - (d + 1) + 1 = 5 - d := by omega
    have h1 : p_as false (pl_one (d + 1)) (5 - (d + 1)) 8 := by
      rw [pl_one_s]
      refine p_one_as (fun h => by cases h) (fun _ => by omega) (fun _ => by rw [e]; exact i1) (fun _ => by rw [e]; exact eit_as i2) (fun _ T T2 c q g => ?_)
      have f := pl_eit_fin d T T2 c q
      exact fh_0 f.1.1.1.2 f.1.1.2 g f.1.2 f.2
    refine ⟨h1, ?_⟩
    rw [pl_den_s]
    exact p_den_as (fun h => by cases h) (fun _ => by omega) (fun _ => by rw [e]; exact i2) (sum_as h1) (fun _ T T2 c q g => fh_2 (pl_den_fin d T T2 c q).1.2 (pl_den_fin d T T2 c q).2 g) (fun T T2 c q g => fh_2 (pl_sum_fin (d + 1) T T2 c q).1.2 (pl_sum_fin (d + 1) T T2 c q).2 g)
/-- THE TWO READ ALIKE -/
theorem op_eit (T : List tk) : op T true [] 0 [] = p_clo 7 (pl_eit 5 T) := by
  rw [eit_as (lev_as 5 (by decide)).2 T [] [] (by decide) (fun _ => rfl) (fun h => by cases h)]
  rcases p_res (pl_eit 5 T) with ⟨T3, hq⟩ | ⟨T3, c3, hq⟩
  · rw [hq]; rfl
  · rw [hq]
    have f := pl_eit_fin 5 T T3 c3 hq
    cases T3 with
    | nil => rfl
    | cons v T3 =>
      show (if true = true ∧ i_cmp v.1 = true then ((v :: T3, none) : p_R) else op (v :: T3) false [] 0 ([] ++ c3)) = (if v.1 = 7 then (T3, some c3) else (v :: T3, none))
      by_cases g : i_cmp v.1 = true
      · rw [if_pos ⟨rfl, g⟩, if_neg]
        intro q
        rw [q] at g
        exact absurd g (by decide)
      · have g1 : i_cmp v.1 = false := by simpa using g
        rw [if_neg (fun q => g q.2)]
        unfold op
        rw [if_pos (show ot v.1 = 0 from fh_0 f.1.1.1.2 f.1.1.2 g1 f.1.2 f.2)]
        by_cases g2 : v.1 = 7
        · rw [if_pos g2, if_pos g2]; rfl
        · rw [if_neg g2, if_neg g2]
          by_cases g3 : v.1 = 6
          · rw [if_pos g3]; rfl
          · rw [if_neg g3]
