/-! THE MEANING, as plain functions: sellers, texts, words -/
abbrev sp_R : Type := Nat × Int32 × Int32 × Int32 × Int32 × Int32 × Int32
def sp_k (r : sp_R) : Nat := r.1
def sp_co (r : sp_R) : Int32 := r.2.1
def sp_nu (r : sp_R) : Int32 := r.2.2.1
def sp_sa (r : sp_R) : Int32 := r.2.2.2.1
def sp_cu (r : sp_R) : Int32 := r.2.2.2.2.1
def sp_st (r : sp_R) : Int32 := r.2.2.2.2.2.1
def sp_pr (r : sp_R) : Int32 := r.2.2.2.2.2.2
abbrev sp_T : Type := List Int32 × List Int32 × List Int32
/-- a scene: the rule's text, shoes, hour, limit -/
abbrev sp_E : Type := sp_T × Int32 × Int32 × Int32
def sp_cl (lo hi v : Int32) : Int32 := if v < lo then lo else if hi < v then hi else v
def sp_steps (k : Nat) (said bid cup number hour : Int32) : Int32 := match k with
  | 0 => (said - bid) / 4
  | 1 => 2 * ((said - bid) / 4)
  | 2 => if number + 1 < (said - bid) / 4 then number + 1 else (said - bid) / 4
  | 3 => 0
  | 4 => 2 * ((said - bid) / 4) + (if cup = 3 then 10 * number else 0)
  | _ => 2 * ((said - bid) / 4) + hour
def sp_takes (k : Nat) (bid cup said least next : Int32) : Bool := match k with
  | 0 => decide (least ≤ bid) && decide (next ≤ bid)
  | 1 => decide (least ≤ bid) && decide (next ≤ bid)
  | 2 => decide (least ≤ bid) && decide (next ≤ bid)
  | 3 => decide (said ≤ bid)
  | 4 => (decide (least ≤ bid) && decide (next ≤ bid)) || (decide (least ≤ bid) && decide (3 < cup))
  | _ => decide (least ≤ bid)
def sp_stays (k : Nat) (number : Int32) : Int32 := match k with
  | 0 => 4 + number
  | 1 => 4 + number + 1
  | 2 => (4 + number) / 2
  | 3 => (4 + number) / 2 + 1
  | 4 => 4 + number + 1
  | _ => 2 * (4 + number + 1)
/-- what a name means -/
def sp_name (r : sp_R) (shoes hour bid : Int32) (c : Int32) : Int32 :=
  if c = -1 then sp_co r else if c = -2 then shoes else if c = -3 then hour else if c = -4 then bid else if c = -5 then sp_sa r else sp_cu r
def sp_b (c : Bool) : Int32 := if c = true then 1 else 0
def sp_join (c a b : Int32) : Int32 :=
  if c = -9 then (if a = 0 ∧ b = 0 then 0 else 1) else if c = -10 then (if a = 0 ∨ b = 0 then 0 else 1) else if c = -11 then (if a < b then 1 else 0) else if c = -12 then (if a = b then 1 else 0) else if c = -13 then a + b else if c = -14 then a - b else a * b
/-- one deed on a stack (its top first) -/
def sp_step (nm : Int32 → Int32) (st : List Int32) (c : Int32) : List Int32 :=
  if c < -6 then (if c < -8 then (match st with
      | b :: a :: r => sp_join c a b :: r
      | _ => st) else (match st with
      | v :: r => (if c = -8 then -v else if v = 0 then 1 else 0) :: r
      | [] => []))
  else if c < 0 then nm c :: st else c :: st
def sp_ev (nm : Int32 → Int32) (code : List Int32) : Int32 := (code.foldl (sp_step nm) []).headD 0
def sp_lea (E : sp_E) (r : sp_R) (bid : Int32) : Int32 := sp_cl 0 1999 (sp_ev (sp_name r E.2.1 E.2.2.1 bid) E.1.1)
def sp_fir (E : sp_E) (r : sp_R) : Int32 := sp_cl (sp_lea E r 0) 1999 (sp_ev (sp_name r E.2.1 E.2.2.1 0) E.1.2.1)
def sp_pul (E : sp_E) (r : sp_R) (bid : Int32) : Int32 := sp_cl 0 99 (sp_ev (sp_name r E.2.1 E.2.2.1 bid) E.1.2.2)
def sp_beg (E : sp_E) (r : sp_R) : sp_R := (sp_k r, sp_co r, sp_nu r, sp_fir E (sp_k r, sp_co r, sp_nu r, 0, 0, 0, -1), 0, 0, -1)
def sp_sell (r : sp_R) (at_ : Int32) : sp_R := (sp_k r, sp_co r, sp_nu r, sp_sa r, sp_cu r, 1, at_)
/-- what he would say next -/
def sp_nxt (E : sp_E) (r : sp_R) (bid : Int32) : Int32 :=
  let l := sp_lea E r bid
  let n0 := if bid < sp_sa r then sp_sa r - sp_steps (sp_k r) (sp_sa r) bid (sp_cu r) (sp_nu r) E.2.2.1 else sp_sa r
  let n1 := if sp_cu r = 1 then n0 + sp_pul E r bid else n0
  let n2 := if n1 < l then l else n1
  if sp_sa r < n2 then sp_sa r else n2
def sp_cup (r : sp_R) : sp_R := (sp_k r, sp_co r, sp_nu r, sp_sa r, sp_cu r + 1, sp_st r, sp_pr r)
def sp_hea (E : sp_E) (r0 : sp_R) (bid : Int32) : sp_R :=
  let r := sp_cup r0
  let n := sp_nxt E r bid
  if sp_takes (sp_k r) bid (sp_cu r) (sp_sa r) (sp_lea E r bid) n = true then sp_sell r bid
  else if sp_stays (sp_k r) (sp_nu r) ≤ sp_cu r then (sp_k r, sp_co r, sp_nu r, sp_sa r, sp_cu r, 2, sp_pr r)
  else (sp_k r, sp_co r, sp_nu r, n, sp_cu r, sp_st r, sp_pr r)
def sp_nb (E : sp_E) (p bid : Int32) (r : sp_R) : Int32 := if bid < sp_sa r then (if E.2.2.2 < bid + p * (sp_sa r - bid) / 10 then E.2.2.2 else bid + p * (sp_sa r - bid) / 10) else bid
/-- by rule: so many times at most -/
def sp_gol (E : sp_E) (p : Int32) : Nat → Int32 → sp_R → sp_R
  | 0, _, r => r
  | n + 1, bid, r => if sp_st r = 0 then (if sp_sa r ≤ bid then sp_sell r (sp_sa r) else sp_gol E p n (sp_nb E p bid (sp_hea E r bid)) (sp_hea E r bid)) else r
def sp_go (E : sp_E) (r : sp_R) (a p : Int32) : sp_R := sp_gol E p 30 (if E.2.2.2 < a then E.2.2.2 else a) r
/-- drawn bids -/
def sp_z (z : Int32) : Int32 := z * 1103515245 + 12345
def sp_db (z : Int32) : Int32 := (z.toUInt32 >>> (Int32.toUInt32 11 &&& Int32.toUInt32 31)).toInt32 - (z.toUInt32 >>> (Int32.toUInt32 11 &&& Int32.toUInt32 31)).toInt32 / 400 * 400
def sp_drl (E : sp_E) : Nat → Int32 → sp_R → sp_R
  | 0, _, r => r
  | n + 1, z, r => if sp_st r = 0 then sp_drl E n (sp_z z) (sp_hea E r (sp_db (sp_z z))) else r
def sp_dr (E : sp_E) (r : sp_R) (seed : Int32) : Int32 := sp_st (sp_drl E 30 seed r)
/-! what the component's cells say -/
def rc (S : ce_S) (j : Nat) : sp_R := (ce_R S 11 0 j, ce_I S 11 2 j, ce_I S 11 3 j, ce_I S 11 4 j, ce_I S 11 5 j, ce_I S 11 6 j, ce_I S 11 7 j)
def cds (f : Nat → Int32) (a n : Nat) : List Int32 := (List.range n).map (fun e => f (a + e))
theorem cds_zero (f : Nat → Int32) (a : Nat) : cds f a 0 = [] := rfl
theorem cds_succ (f : Nat → Int32) (a n : Nat) : cds f a (n + 1) = f a :: cds f (a + 1) n := by
  unfold cds
  rw [List.range_succ_eq_map, List.map_cons, List.map_map]
  have h : List.map ((fun e => f (a + e)) ∘ Nat.succ) (List.range n) = List.map (fun e => f (a + 1 + e)) (List.range n) := by
    refine List.map_congr_left (fun e _ => ?_)
    show f (a + (e + 1)) = f (a + 1 + e)
    rw [show a + (e + 1) = a + 1 + e by omega]
  rw [h]; rfl
theorem cds_len (f : Nat → Int32) (a n : Nat) : (cds f a n).length = n := by
  unfold cds; rw [List.length_map, List.length_range]
/-- the text of place k is well laid -/
def txok (S : ce_S) (k : Nat) : Prop := ∃ le fe : Nat, le ≤ fe ∧ fe ≤ ce_L S 14 k ∧ ce_L S 14 k ≤ 160 ∧ ce_I S 13 1 k = nI le ∧ ce_I S 13 2 k = nI fe ∧ ce_L S 17 k = ce_L S 14 k
def txt (S : ce_S) (k : Nat) : sp_T := (cds (ce_A S 14 k) 0 (ce_I S 13 1 k).toNatClampNeg, cds (ce_A S 14 k) (ce_I S 13 1 k).toNatClampNeg ((ce_I S 13 2 k).toNatClampNeg - (ce_I S 13 1 k).toNatClampNeg), cds (ce_A S 14 k) (ce_I S 13 2 k).toNatClampNeg (ce_L S 14 k - (ce_I S 13 2 k).toNatClampNeg))
/-- a scene -/
def scE (S : ce_S) (i : Nat) : sp_E := (txt S (ce_R S 12 4 i), ce_I S 12 0 i, ce_I S 12 1 i, ce_I S 12 2 i)
/-- a seller's record is written -/
def wS (S : ce_S) (j : Nat) (r : sp_R) : ce_S := ce_sI (ce_sI (ce_sI (ce_sI (ce_sI (ce_sI (ce_sR S 11 0 j (sp_k r)) 11 2 j (sp_co r)) 11 3 j (sp_nu r)) 11 4 j (sp_sa r)) 11 5 j (sp_cu r)) 11 6 j (sp_st r)) 11 7 j (sp_pr r)
theorem u_u {α : Type} (f : Nat → Nat → Nat → α) (t k i : Nat) (v w : α) : ce_u (ce_u f t k i v) t k i w = ce_u f t k i w := by
  funext a b c
  unfold ce_u
  by_cases h1 : a = t
  · by_cases h2 : b = k
    · by_cases h3 : c = i
      · simp only [if_pos h1, if_pos h2, if_pos h3]
      · simp only [if_pos h1, if_pos h2, if_neg h3]
    · simp only [if_pos h1, if_neg h2]
  · simp only [if_neg h1]
theorem u_id {α : Type} (f : Nat → Nat → Nat → α) (t k i : Nat) : ce_u f t k i (f t k i) = f := by
  funext a b c
  unfold ce_u
  by_cases h1 : a = t
  · by_cases h2 : b = k
    · by_cases h3 : c = i
      · simp only [if_pos h1, if_pos h2, if_pos h3]; rw [h1, h2, h3]
      · simp only [if_pos h1, if_pos h2, if_neg h3]
    · simp only [if_pos h1, if_neg h2]
  · simp only [if_neg h1]
theorem u_comm {α : Type} (f : Nat → Nat → Nat → α) (t k i t' k' i' : Nat) (v w : α) (h : t ≠ t' ∨ k ≠ k' ∨ i ≠ i') : ce_u (ce_u f t k i v) t' k' i' w = ce_u (ce_u f t' k' i' w) t k i v := by
  funext a b c
  unfold ce_u
  by_cases h1 : a = t <;> by_cases h1' : a = t' <;> by_cases h2 : b = k <;> by_cases h2' : b = k' <;> by_cases h3 : c = i <;> by_cases h3' : c = i' <;> simp only [h1, h1', h2, h2', h3, h3', if_true, if_false] <;> simp_all
theorem sI_sI (S : ce_S) (t k i : Nat) (v w : Int32) : ce_sI (ce_sI S t k i v) t k i w = ce_sI S t k i w := by
  unfold ce_sI; simp only [u_u]
theorem sR_sR (S : ce_S) (t k i v w : Nat) : ce_sR (ce_sR S t k i v) t k i w = ce_sR S t k i w := by
  unfold ce_sR; simp only [u_u]
theorem sI_id (S : ce_S) (t k i : Nat) : ce_sI S t k i (ce_I S t k i) = S := by
  unfold ce_sI ce_I; simp only [u_id]
theorem sR_id (S : ce_S) (t k i : Nat) : ce_sR S t k i (ce_R S t k i) = S := by
  unfold ce_sR ce_R; simp only [u_id]
theorem sI_comm (S : ce_S) (t k i t' k' i' : Nat) (v w : Int32) (h : t ≠ t' ∨ k ≠ k' ∨ i ≠ i') : ce_sI (ce_sI S t k i v) t' k' i' w = ce_sI (ce_sI S t' k' i' w) t k i v := by
  unfold ce_sI; simp only [u_comm S.1 t k i t' k' i' v w h]
theorem sR_comm (S : ce_S) (t k i t' k' i' : Nat) (v w : Nat) (h : t ≠ t' ∨ k ≠ k' ∨ i ≠ i') : ce_sR (ce_sR S t k i v) t' k' i' w = ce_sR (ce_sR S t' k' i' w) t k i v := by
  unfold ce_sR; simp only [u_comm S.2.1 t k i t' k' i' v w h]
theorem sR_sI (S : ce_S) (t k i v : Nat) (t' k' i' : Nat) (w : Int32) : ce_sR (ce_sI S t' k' i' w) t k i v = ce_sI (ce_sR S t k i v) t' k' i' w := rfl
theorem rc_wS (S : ce_S) (j : Nat) (r : sp_R) : rc (wS S j r) j = r := by
  obtain ⟨a, b, c, d, e, f, g⟩ := r
  simp only [rc, wS, sp_k, sp_co, sp_nu, sp_sa, sp_cu, sp_st, sp_pr, r_I_sR, r_I_sA, r_I_sF, r_I_sQ, r_R_sI, r_R_sA, r_R_sF, r_R_sQ, r_A_sI, r_A_sR, r_A_sQ, r_L_sI, r_L_sR, r_L_sA, r_L_sF, r_L_sQ, r_C_sI, r_C_sR, r_C_sA, r_C_sF, r_C_sQ, r_Q_sI, r_Q_sR, r_Q_sA, r_Q_sF, r_I_sI, r_R_sR, r_A_sA, r_A_sF, r_Q_sQ, r_I_tA, r_R_tA, r_L_tA, r_C_tA, r_Q_tA, r_A_tA, reduceIte, Nat.reduceEqDiff]
theorem rc_wS_ne (S : ce_S) (j i : Nat) (r : sp_R) (h : i ≠ j) : rc (wS S j r) i = rc S i := by
  simp only [rc, wS, r_I_sR, r_I_sA, r_I_sF, r_I_sQ, r_R_sI, r_R_sA, r_R_sF, r_R_sQ, r_A_sI, r_A_sR, r_A_sQ, r_L_sI, r_L_sR, r_L_sA, r_L_sF, r_L_sQ, r_C_sI, r_C_sR, r_C_sA, r_C_sF, r_C_sQ, r_Q_sI, r_Q_sR, r_Q_sA, r_Q_sF, r_I_sI, r_R_sR, r_A_sA, r_A_sF, r_Q_sQ, r_I_tA, r_R_tA, r_L_tA, r_C_tA, r_Q_tA, r_A_tA, reduceIte, Nat.reduceEqDiff, h]
theorem wS_id (S : ce_S) (j : Nat) : wS S j (rc S j) = S := by
  simp only [rc, wS, sp_k, sp_co, sp_nu, sp_sa, sp_cu, sp_st, sp_pr]
  rw [sR_id, sI_id, sI_id, sI_id, sI_id, sI_id, sI_id]
theorem S_ext {S S' : ce_S} (h1 : ∀ t k i, ce_I S t k i = ce_I S' t k i) (h2 : ∀ t k i, ce_R S t k i = ce_R S' t k i) (h3 : S.2.2 = S'.2.2) : S = S' := by
  obtain ⟨a, b, c⟩ := S
  obtain ⟨a', b', c'⟩ := S'
  have e1 : a = a' := funext fun t => funext fun k => funext fun i => h1 t k i
  have e2 : b = b' := funext fun t => funext fun k => funext fun i => h2 t k i
  have e3 : c = c' := h3
  rw [e1, e2, e3]
theorem wS_wS (S : ce_S) (j : Nat) (r r' : sp_R) : wS (wS S j r) j r' = wS S j r' := by
  refine S_ext (fun t k i => ?_) (fun t k i => ?_) rfl
  · simp only [wS, r_I_sR, r_I_sA, r_I_sF, r_I_sQ, r_R_sI, r_R_sA, r_R_sF, r_R_sQ, r_A_sI, r_A_sR, r_A_sQ, r_L_sI, r_L_sR, r_L_sA, r_L_sF, r_L_sQ, r_C_sI, r_C_sR, r_C_sA, r_C_sF, r_C_sQ, r_Q_sI, r_Q_sR, r_Q_sA, r_Q_sF, r_I_sI, r_R_sR, r_A_sA, r_A_sF, r_Q_sQ, r_I_tA, r_R_tA, r_L_tA, r_C_tA, r_Q_tA, r_A_tA]
    by_cases h1 : t = 11
    · by_cases h2 : i = j
      · subst h1; subst h2
        rcases k with _ | _ | _ | _ | _ | _ | _ | _ | k <;> simp [sp_k, sp_co, sp_nu, sp_sa, sp_cu, sp_st, sp_pr, rc]
      · simp [h1, h2]
    · simp [h1]
  · simp only [wS, r_I_sR, r_I_sA, r_I_sF, r_I_sQ, r_R_sI, r_R_sA, r_R_sF, r_R_sQ, r_A_sI, r_A_sR, r_A_sQ, r_L_sI, r_L_sR, r_L_sA, r_L_sF, r_L_sQ, r_C_sI, r_C_sR, r_C_sA, r_C_sF, r_C_sQ, r_Q_sI, r_Q_sR, r_Q_sA, r_Q_sF, r_I_sI, r_R_sR, r_A_sA, r_A_sF, r_Q_sQ, r_I_tA, r_R_tA, r_L_tA, r_C_tA, r_Q_tA, r_A_tA]
    by_cases h1 : t = 11
    · by_cases h2 : i = j
      · subst h1; subst h2
        rcases k with _ | _ | _ | _ | _ | _ | _ | _ | k <;> simp [sp_k, sp_co, sp_nu, sp_sa, sp_cu, sp_st, sp_pr, rc]
      · simp [h1, h2]
    · simp [h1]
theorem wS_s2 (S : ce_S) (j : Nat) (r : sp_R) (v : Int32) : ce_sI (wS S j r) 11 2 j v = wS S j (sp_k r, v, sp_nu r, sp_sa r, sp_cu r, sp_st r, sp_pr r) := by
  refine S_ext (fun t k i => ?_) (fun t k i => ?_) rfl
  · simp only [wS, r_I_sR, r_I_sA, r_I_sF, r_I_sQ, r_R_sI, r_R_sA, r_R_sF, r_R_sQ, r_A_sI, r_A_sR, r_A_sQ, r_L_sI, r_L_sR, r_L_sA, r_L_sF, r_L_sQ, r_C_sI, r_C_sR, r_C_sA, r_C_sF, r_C_sQ, r_Q_sI, r_Q_sR, r_Q_sA, r_Q_sF, r_I_sI, r_R_sR, r_A_sA, r_A_sF, r_Q_sQ, r_I_tA, r_R_tA, r_L_tA, r_C_tA, r_Q_tA, r_A_tA]
    by_cases h1 : t = 11
    · by_cases h2 : i = j
      · subst h1; subst h2
        rcases k with _ | _ | _ | _ | _ | _ | _ | _ | k <;> simp [sp_k, sp_co, sp_nu, sp_sa, sp_cu, sp_st, sp_pr, rc]
      · simp [h1, h2]
    · simp [h1]
  · simp only [wS, r_I_sR, r_I_sA, r_I_sF, r_I_sQ, r_R_sI, r_R_sA, r_R_sF, r_R_sQ, r_A_sI, r_A_sR, r_A_sQ, r_L_sI, r_L_sR, r_L_sA, r_L_sF, r_L_sQ, r_C_sI, r_C_sR, r_C_sA, r_C_sF, r_C_sQ, r_Q_sI, r_Q_sR, r_Q_sA, r_Q_sF, r_I_sI, r_R_sR, r_A_sA, r_A_sF, r_Q_sQ, r_I_tA, r_R_tA, r_L_tA, r_C_tA, r_Q_tA, r_A_tA]
    by_cases h1 : t = 11
    · by_cases h2 : i = j
      · subst h1; subst h2
        rcases k with _ | _ | _ | _ | _ | _ | _ | _ | k <;> simp [sp_k, sp_co, sp_nu, sp_sa, sp_cu, sp_st, sp_pr, rc]
      · simp [h1, h2]
    · simp [h1]
theorem s2_wS (S : ce_S) (j : Nat) (v : Int32) : ce_sI S 11 2 j v = wS S j (sp_k (rc S j), v, sp_nu (rc S j), sp_sa (rc S j), sp_cu (rc S j), sp_st (rc S j), sp_pr (rc S j)) := by
  conv => lhs; rw [← wS_id S j]
  rw [wS_s2]
theorem wS_s3 (S : ce_S) (j : Nat) (r : sp_R) (v : Int32) : ce_sI (wS S j r) 11 3 j v = wS S j (sp_k r, sp_co r, v, sp_sa r, sp_cu r, sp_st r, sp_pr r) := by
  refine S_ext (fun t k i => ?_) (fun t k i => ?_) rfl
  · simp only [wS, r_I_sR, r_I_sA, r_I_sF, r_I_sQ, r_R_sI, r_R_sA, r_R_sF, r_R_sQ, r_A_sI, r_A_sR, r_A_sQ, r_L_sI, r_L_sR, r_L_sA, r_L_sF, r_L_sQ, r_C_sI, r_C_sR, r_C_sA, r_C_sF, r_C_sQ, r_Q_sI, r_Q_sR, r_Q_sA, r_Q_sF, r_I_sI, r_R_sR, r_A_sA, r_A_sF, r_Q_sQ, r_I_tA, r_R_tA, r_L_tA, r_C_tA, r_Q_tA, r_A_tA]
    by_cases h1 : t = 11
    · by_cases h2 : i = j
      · subst h1; subst h2
        rcases k with _ | _ | _ | _ | _ | _ | _ | _ | k <;> simp [sp_k, sp_co, sp_nu, sp_sa, sp_cu, sp_st, sp_pr, rc]
      · simp [h1, h2]
    · simp [h1]
  · simp only [wS, r_I_sR, r_I_sA, r_I_sF, r_I_sQ, r_R_sI, r_R_sA, r_R_sF, r_R_sQ, r_A_sI, r_A_sR, r_A_sQ, r_L_sI, r_L_sR, r_L_sA, r_L_sF, r_L_sQ, r_C_sI, r_C_sR, r_C_sA, r_C_sF, r_C_sQ, r_Q_sI, r_Q_sR, r_Q_sA, r_Q_sF, r_I_sI, r_R_sR, r_A_sA, r_A_sF, r_Q_sQ, r_I_tA, r_R_tA, r_L_tA, r_C_tA, r_Q_tA, r_A_tA]
    by_cases h1 : t = 11
    · by_cases h2 : i = j
      · subst h1; subst h2
        rcases k with _ | _ | _ | _ | _ | _ | _ | _ | k <;> simp [sp_k, sp_co, sp_nu, sp_sa, sp_cu, sp_st, sp_pr, rc]
      · simp [h1, h2]
    · simp [h1]
theorem s3_wS (S : ce_S) (j : Nat) (v : Int32) : ce_sI S 11 3 j v = wS S j (sp_k (rc S j), sp_co (rc S j), v, sp_sa (rc S j), sp_cu (rc S j), sp_st (rc S j), sp_pr (rc S j)) := by
  conv => lhs; rw [← wS_id S j]
  rw [wS_s3]
theorem wS_s4 (S : ce_S) (j : Nat) (r : sp_R) (v : Int32) : ce_sI (wS S j r) 11 4 j v = wS S j (sp_k r, sp_co r, sp_nu r, v, sp_cu r, sp_st r, sp_pr r) := by
  refine S_ext (fun t k i => ?_) (fun t k i => ?_) rfl
  · simp only [wS, r_I_sR, r_I_sA, r_I_sF, r_I_sQ, r_R_sI, r_R_sA, r_R_sF, r_R_sQ, r_A_sI, r_A_sR, r_A_sQ, r_L_sI, r_L_sR, r_L_sA, r_L_sF, r_L_sQ, r_C_sI, r_C_sR, r_C_sA, r_C_sF, r_C_sQ, r_Q_sI, r_Q_sR, r_Q_sA, r_Q_sF, r_I_sI, r_R_sR, r_A_sA, r_A_sF, r_Q_sQ, r_I_tA, r_R_tA, r_L_tA, r_C_tA, r_Q_tA, r_A_tA]
    by_cases h1 : t = 11
    · by_cases h2 : i = j
      · subst h1; subst h2
        rcases k with _ | _ | _ | _ | _ | _ | _ | _ | k <;> simp [sp_k, sp_co, sp_nu, sp_sa, sp_cu, sp_st, sp_pr, rc]
      · simp [h1, h2]
    · simp [h1]
  · simp only [wS, r_I_sR, r_I_sA, r_I_sF, r_I_sQ, r_R_sI, r_R_sA, r_R_sF, r_R_sQ, r_A_sI, r_A_sR, r_A_sQ, r_L_sI, r_L_sR, r_L_sA, r_L_sF, r_L_sQ, r_C_sI, r_C_sR, r_C_sA, r_C_sF, r_C_sQ, r_Q_sI, r_Q_sR, r_Q_sA, r_Q_sF, r_I_sI, r_R_sR, r_A_sA, r_A_sF, r_Q_sQ, r_I_tA, r_R_tA, r_L_tA, r_C_tA, r_Q_tA, r_A_tA]
    by_cases h1 : t = 11
    · by_cases h2 : i = j
      · subst h1; subst h2
        rcases k with _ | _ | _ | _ | _ | _ | _ | _ | k <;> simp [sp_k, sp_co, sp_nu, sp_sa, sp_cu, sp_st, sp_pr, rc]
      · simp [h1, h2]
    · simp [h1]
theorem s4_wS (S : ce_S) (j : Nat) (v : Int32) : ce_sI S 11 4 j v = wS S j (sp_k (rc S j), sp_co (rc S j), sp_nu (rc S j), v, sp_cu (rc S j), sp_st (rc S j), sp_pr (rc S j)) := by
  conv => lhs; rw [← wS_id S j]
  rw [wS_s4]
theorem wS_s5 (S : ce_S) (j : Nat) (r : sp_R) (v : Int32) : ce_sI (wS S j r) 11 5 j v = wS S j (sp_k r, sp_co r, sp_nu r, sp_sa r, v, sp_st r, sp_pr r) := by
  refine S_ext (fun t k i => ?_) (fun t k i => ?_) rfl
  · simp only [wS, r_I_sR, r_I_sA, r_I_sF, r_I_sQ, r_R_sI, r_R_sA, r_R_sF, r_R_sQ, r_A_sI, r_A_sR, r_A_sQ, r_L_sI, r_L_sR, r_L_sA, r_L_sF, r_L_sQ, r_C_sI, r_C_sR, r_C_sA, r_C_sF, r_C_sQ, r_Q_sI, r_Q_sR, r_Q_sA, r_Q_sF, r_I_sI, r_R_sR, r_A_sA, r_A_sF, r_Q_sQ, r_I_tA, r_R_tA, r_L_tA, r_C_tA, r_Q_tA, r_A_tA]
    by_cases h1 : t = 11
    · by_cases h2 : i = j
      · subst h1; subst h2
        rcases k with _ | _ | _ | _ | _ | _ | _ | _ | k <;> simp [sp_k, sp_co, sp_nu, sp_sa, sp_cu, sp_st, sp_pr, rc]
      · simp [h1, h2]
    · simp [h1]
  · simp only [wS, r_I_sR, r_I_sA, r_I_sF, r_I_sQ, r_R_sI, r_R_sA, r_R_sF, r_R_sQ, r_A_sI, r_A_sR, r_A_sQ, r_L_sI, r_L_sR, r_L_sA, r_L_sF, r_L_sQ, r_C_sI, r_C_sR, r_C_sA, r_C_sF, r_C_sQ, r_Q_sI, r_Q_sR, r_Q_sA, r_Q_sF, r_I_sI, r_R_sR, r_A_sA, r_A_sF, r_Q_sQ, r_I_tA, r_R_tA, r_L_tA, r_C_tA, r_Q_tA, r_A_tA]
    by_cases h1 : t = 11
    · by_cases h2 : i = j
      · subst h1; subst h2
        rcases k with _ | _ | _ | _ | _ | _ | _ | _ | k <;> simp [sp_k, sp_co, sp_nu, sp_sa, sp_cu, sp_st, sp_pr, rc]
      · simp [h1, h2]
    · simp [h1]
theorem s5_wS (S : ce_S) (j : Nat) (v : Int32) : ce_sI S 11 5 j v = wS S j (sp_k (rc S j), sp_co (rc S j), sp_nu (rc S j), sp_sa (rc S j), v, sp_st (rc S j), sp_pr (rc S j)) := by
  conv => lhs; rw [← wS_id S j]
  rw [wS_s5]
theorem wS_s6 (S : ce_S) (j : Nat) (r : sp_R) (v : Int32) : ce_sI (wS S j r) 11 6 j v = wS S j (sp_k r, sp_co r, sp_nu r, sp_sa r, sp_cu r, v, sp_pr r) := by
  refine S_ext (fun t k i => ?_) (fun t k i => ?_) rfl
  · simp only [wS, r_I_sR, r_I_sA, r_I_sF, r_I_sQ, r_R_sI, r_R_sA, r_R_sF, r_R_sQ, r_A_sI, r_A_sR, r_A_sQ, r_L_sI, r_L_sR, r_L_sA, r_L_sF, r_L_sQ, r_C_sI, r_C_sR, r_C_sA, r_C_sF, r_C_sQ, r_Q_sI, r_Q_sR, r_Q_sA, r_Q_sF, r_I_sI, r_R_sR, r_A_sA, r_A_sF, r_Q_sQ, r_I_tA, r_R_tA, r_L_tA, r_C_tA, r_Q_tA, r_A_tA]
    by_cases h1 : t = 11
    · by_cases h2 : i = j
      · subst h1; subst h2
        rcases k with _ | _ | _ | _ | _ | _ | _ | _ | k <;> simp [sp_k, sp_co, sp_nu, sp_sa, sp_cu, sp_st, sp_pr, rc]
      · simp [h1, h2]
    · simp [h1]
  · simp only [wS, r_I_sR, r_I_sA, r_I_sF, r_I_sQ, r_R_sI, r_R_sA, r_R_sF, r_R_sQ, r_A_sI, r_A_sR, r_A_sQ, r_L_sI, r_L_sR, r_L_sA, r_L_sF, r_L_sQ, r_C_sI, r_C_sR, r_C_sA, r_C_sF, r_C_sQ, r_Q_sI, r_Q_sR, r_Q_sA, r_Q_sF, r_I_sI, r_R_sR, r_A_sA, r_A_sF, r_Q_sQ, r_I_tA, r_R_tA, r_L_tA, r_C_tA, r_Q_tA, r_A_tA]
    by_cases h1 : t = 11
    · by_cases h2 : i = j
      · subst h1; subst h2
        rcases k with _ | _ | _ | _ | _ | _ | _ | _ | k <;> simp [sp_k, sp_co, sp_nu, sp_sa, sp_cu, sp_st, sp_pr, rc]
      · simp [h1, h2]
    · simp [h1]
theorem s6_wS (S : ce_S) (j : Nat) (v : Int32) : ce_sI S 11 6 j v = wS S j (sp_k (rc S j), sp_co (rc S j), sp_nu (rc S j), sp_sa (rc S j), sp_cu (rc S j), v, sp_pr (rc S j)) := by
  conv => lhs; rw [← wS_id S j]
  rw [wS_s6]
theorem wS_s7 (S : ce_S) (j : Nat) (r : sp_R) (v : Int32) : ce_sI (wS S j r) 11 7 j v = wS S j (sp_k r, sp_co r, sp_nu r, sp_sa r, sp_cu r, sp_st r, v) := by
  refine S_ext (fun t k i => ?_) (fun t k i => ?_) rfl
  · simp only [wS, r_I_sR, r_I_sA, r_I_sF, r_I_sQ, r_R_sI, r_R_sA, r_R_sF, r_R_sQ, r_A_sI, r_A_sR, r_A_sQ, r_L_sI, r_L_sR, r_L_sA, r_L_sF, r_L_sQ, r_C_sI, r_C_sR, r_C_sA, r_C_sF, r_C_sQ, r_Q_sI, r_Q_sR, r_Q_sA, r_Q_sF, r_I_sI, r_R_sR, r_A_sA, r_A_sF, r_Q_sQ, r_I_tA, r_R_tA, r_L_tA, r_C_tA, r_Q_tA, r_A_tA]
    by_cases h1 : t = 11
    · by_cases h2 : i = j
      · subst h1; subst h2
        rcases k with _ | _ | _ | _ | _ | _ | _ | _ | k <;> simp [sp_k, sp_co, sp_nu, sp_sa, sp_cu, sp_st, sp_pr, rc]
      · simp [h1, h2]
    · simp [h1]
  · simp only [wS, r_I_sR, r_I_sA, r_I_sF, r_I_sQ, r_R_sI, r_R_sA, r_R_sF, r_R_sQ, r_A_sI, r_A_sR, r_A_sQ, r_L_sI, r_L_sR, r_L_sA, r_L_sF, r_L_sQ, r_C_sI, r_C_sR, r_C_sA, r_C_sF, r_C_sQ, r_Q_sI, r_Q_sR, r_Q_sA, r_Q_sF, r_I_sI, r_R_sR, r_A_sA, r_A_sF, r_Q_sQ, r_I_tA, r_R_tA, r_L_tA, r_C_tA, r_Q_tA, r_A_tA]
    by_cases h1 : t = 11
    · by_cases h2 : i = j
      · subst h1; subst h2
        rcases k with _ | _ | _ | _ | _ | _ | _ | _ | k <;> simp [sp_k, sp_co, sp_nu, sp_sa, sp_cu, sp_st, sp_pr, rc]
      · simp [h1, h2]
    · simp [h1]
theorem s7_wS (S : ce_S) (j : Nat) (v : Int32) : ce_sI S 11 7 j v = wS S j (sp_k (rc S j), sp_co (rc S j), sp_nu (rc S j), sp_sa (rc S j), sp_cu (rc S j), sp_st (rc S j), v) := by
  conv => lhs; rw [← wS_id S j]
  rw [wS_s7]
theorem wS_s0 (S : ce_S) (j : Nat) (r : sp_R) (v : Nat) : ce_sR (wS S j r) 11 0 j v = wS S j (v, sp_co r, sp_nu r, sp_sa r, sp_cu r, sp_st r, sp_pr r) := by
  refine S_ext (fun t k i => ?_) (fun t k i => ?_) rfl
  · simp only [wS, r_I_sR, r_I_sA, r_I_sF, r_I_sQ, r_R_sI, r_R_sA, r_R_sF, r_R_sQ, r_A_sI, r_A_sR, r_A_sQ, r_L_sI, r_L_sR, r_L_sA, r_L_sF, r_L_sQ, r_C_sI, r_C_sR, r_C_sA, r_C_sF, r_C_sQ, r_Q_sI, r_Q_sR, r_Q_sA, r_Q_sF, r_I_sI, r_R_sR, r_A_sA, r_A_sF, r_Q_sQ, r_I_tA, r_R_tA, r_L_tA, r_C_tA, r_Q_tA, r_A_tA]
    by_cases h1 : t = 11
    · by_cases h2 : i = j
      · subst h1; subst h2
        rcases k with _ | _ | _ | _ | _ | _ | _ | _ | k <;> simp [sp_k, sp_co, sp_nu, sp_sa, sp_cu, sp_st, sp_pr, rc]
      · simp [h1, h2]
    · simp [h1]
  · simp only [wS, r_I_sR, r_I_sA, r_I_sF, r_I_sQ, r_R_sI, r_R_sA, r_R_sF, r_R_sQ, r_A_sI, r_A_sR, r_A_sQ, r_L_sI, r_L_sR, r_L_sA, r_L_sF, r_L_sQ, r_C_sI, r_C_sR, r_C_sA, r_C_sF, r_C_sQ, r_Q_sI, r_Q_sR, r_Q_sA, r_Q_sF, r_I_sI, r_R_sR, r_A_sA, r_A_sF, r_Q_sQ, r_I_tA, r_R_tA, r_L_tA, r_C_tA, r_Q_tA, r_A_tA]
    by_cases h1 : t = 11
    · by_cases h2 : i = j
      · subst h1; subst h2
        rcases k with _ | _ | _ | _ | _ | _ | _ | _ | k <;> simp [sp_k, sp_co, sp_nu, sp_sa, sp_cu, sp_st, sp_pr, rc]
      · simp [h1, h2]
    · simp [h1]
theorem s0_wS (S : ce_S) (j : Nat) (v : Nat) : ce_sR S 11 0 j v = wS S j (v, sp_co (rc S j), sp_nu (rc S j), sp_sa (rc S j), sp_cu (rc S j), sp_st (rc S j), sp_pr (rc S j)) := by
  conv => lhs; rw [← wS_id S j]
  rw [wS_s0]
theorem wS_I (S : ce_S) (j : Nat) (r : sp_R) (t k i : Nat) (h : t ≠ 11) : ce_I (wS S j r) t k i = ce_I S t k i := by
  simp only [wS, r_I_sR, r_I_sA, r_I_sF, r_I_sQ, r_R_sI, r_R_sA, r_R_sF, r_R_sQ, r_A_sI, r_A_sR, r_A_sQ, r_L_sI, r_L_sR, r_L_sA, r_L_sF, r_L_sQ, r_C_sI, r_C_sR, r_C_sA, r_C_sF, r_C_sQ, r_Q_sI, r_Q_sR, r_Q_sA, r_Q_sF, r_I_sI, r_R_sR, r_A_sA, r_A_sF, r_Q_sQ, r_I_tA, r_R_tA, r_L_tA, r_C_tA, r_Q_tA, r_A_tA, h, if_false]
theorem wS_R (S : ce_S) (j : Nat) (r : sp_R) (t k i : Nat) (h : t ≠ 11) : ce_R (wS S j r) t k i = ce_R S t k i := by
  simp only [wS, r_I_sR, r_I_sA, r_I_sF, r_I_sQ, r_R_sI, r_R_sA, r_R_sF, r_R_sQ, r_A_sI, r_A_sR, r_A_sQ, r_L_sI, r_L_sR, r_L_sA, r_L_sF, r_L_sQ, r_C_sI, r_C_sR, r_C_sA, r_C_sF, r_C_sQ, r_Q_sI, r_Q_sR, r_Q_sA, r_Q_sF, r_I_sI, r_R_sR, r_A_sA, r_A_sF, r_Q_sQ, r_I_tA, r_R_tA, r_L_tA, r_C_tA, r_Q_tA, r_A_tA, h, if_false]
theorem wS_A (S : ce_S) (j : Nat) (r : sp_R) : ce_A (wS S j r) = ce_A S := rfl
theorem wS_L (S : ce_S) (j : Nat) (r : sp_R) : ce_L (wS S j r) = ce_L S := rfl
theorem wS_C (S : ce_S) (j : Nat) (r : sp_R) : ce_C (wS S j r) = ce_C S := rfl
theorem wS_Q (S : ce_S) (j : Nat) (r : sp_R) : ce_Q (wS S j r) = ce_Q S := rfl
theorem wS_tA (S : ce_S) (j : Nat) (r : sp_R) (t : Nat) (f : Nat → Nat → Int32) : wS (ce_tA S t f) j r = ce_tA (wS S j r) t f := rfl
theorem rc_tA (S : ce_S) (j : Nat) (t : Nat) (f : Nat → Nat → Int32) : rc (ce_tA S t f) j = rc S j := rfl
theorem wS_I1 (S : ce_S) (j : Nat) (r : sp_R) (i : Nat) : ce_I (wS S j r) 11 1 i = ce_I S 11 1 i := by
  simp only [wS, r_I_sR, r_I_sA, r_I_sF, r_I_sQ, r_R_sI, r_R_sA, r_R_sF, r_R_sQ, r_A_sI, r_A_sR, r_A_sQ, r_L_sI, r_L_sR, r_L_sA, r_L_sF, r_L_sQ, r_C_sI, r_C_sR, r_C_sA, r_C_sF, r_C_sQ, r_Q_sI, r_Q_sR, r_Q_sA, r_Q_sF, r_I_sI, r_R_sR, r_A_sA, r_A_sF, r_Q_sQ, r_I_tA, r_R_tA, r_L_tA, r_C_tA, r_Q_tA, r_A_tA, reduceIte, Nat.reduceEqDiff]
theorem wS_r2 (S : ce_S) (j : Nat) (r : sp_R) : ce_I (wS S j r) 11 2 j = sp_co r := by
  simp only [wS, r_I_sR, r_I_sA, r_I_sF, r_I_sQ, r_R_sI, r_R_sA, r_R_sF, r_R_sQ, r_A_sI, r_A_sR, r_A_sQ, r_L_sI, r_L_sR, r_L_sA, r_L_sF, r_L_sQ, r_C_sI, r_C_sR, r_C_sA, r_C_sF, r_C_sQ, r_Q_sI, r_Q_sR, r_Q_sA, r_Q_sF, r_I_sI, r_R_sR, r_A_sA, r_A_sF, r_Q_sQ, r_I_tA, r_R_tA, r_L_tA, r_C_tA, r_Q_tA, r_A_tA, reduceIte, Nat.reduceEqDiff]
theorem wS_n2 (S : ce_S) (j i : Nat) (r : sp_R) (h : i ≠ j) : ce_I (wS S j r) 11 2 i = ce_I S 11 2 i := by
  simp only [wS, r_I_sR, r_I_sA, r_I_sF, r_I_sQ, r_R_sI, r_R_sA, r_R_sF, r_R_sQ, r_A_sI, r_A_sR, r_A_sQ, r_L_sI, r_L_sR, r_L_sA, r_L_sF, r_L_sQ, r_C_sI, r_C_sR, r_C_sA, r_C_sF, r_C_sQ, r_Q_sI, r_Q_sR, r_Q_sA, r_Q_sF, r_I_sI, r_R_sR, r_A_sA, r_A_sF, r_Q_sQ, r_I_tA, r_R_tA, r_L_tA, r_C_tA, r_Q_tA, r_A_tA, reduceIte, Nat.reduceEqDiff, h]
theorem rc_2 (S : ce_S) (j : Nat) : ce_I S 11 2 j = sp_co (rc S j) := rfl
theorem wS_r3 (S : ce_S) (j : Nat) (r : sp_R) : ce_I (wS S j r) 11 3 j = sp_nu r := by
  simp only [wS, r_I_sR, r_I_sA, r_I_sF, r_I_sQ, r_R_sI, r_R_sA, r_R_sF, r_R_sQ, r_A_sI, r_A_sR, r_A_sQ, r_L_sI, r_L_sR, r_L_sA, r_L_sF, r_L_sQ, r_C_sI, r_C_sR, r_C_sA, r_C_sF, r_C_sQ, r_Q_sI, r_Q_sR, r_Q_sA, r_Q_sF, r_I_sI, r_R_sR, r_A_sA, r_A_sF, r_Q_sQ, r_I_tA, r_R_tA, r_L_tA, r_C_tA, r_Q_tA, r_A_tA, reduceIte, Nat.reduceEqDiff]
theorem wS_n3 (S : ce_S) (j i : Nat) (r : sp_R) (h : i ≠ j) : ce_I (wS S j r) 11 3 i = ce_I S 11 3 i := by
  simp only [wS, r_I_sR, r_I_sA, r_I_sF, r_I_sQ, r_R_sI, r_R_sA, r_R_sF, r_R_sQ, r_A_sI, r_A_sR, r_A_sQ, r_L_sI, r_L_sR, r_L_sA, r_L_sF, r_L_sQ, r_C_sI, r_C_sR, r_C_sA, r_C_sF, r_C_sQ, r_Q_sI, r_Q_sR, r_Q_sA, r_Q_sF, r_I_sI, r_R_sR, r_A_sA, r_A_sF, r_Q_sQ, r_I_tA, r_R_tA, r_L_tA, r_C_tA, r_Q_tA, r_A_tA, reduceIte, Nat.reduceEqDiff, h]
theorem rc_3 (S : ce_S) (j : Nat) : ce_I S 11 3 j = sp_nu (rc S j) := rfl
theorem wS_r4 (S : ce_S) (j : Nat) (r : sp_R) : ce_I (wS S j r) 11 4 j = sp_sa r := by
  simp only [wS, r_I_sR, r_I_sA, r_I_sF, r_I_sQ, r_R_sI, r_R_sA, r_R_sF, r_R_sQ, r_A_sI, r_A_sR, r_A_sQ, r_L_sI, r_L_sR, r_L_sA, r_L_sF, r_L_sQ, r_C_sI, r_C_sR, r_C_sA, r_C_sF, r_C_sQ, r_Q_sI, r_Q_sR, r_Q_sA, r_Q_sF, r_I_sI, r_R_sR, r_A_sA, r_A_sF, r_Q_sQ, r_I_tA, r_R_tA, r_L_tA, r_C_tA, r_Q_tA, r_A_tA, reduceIte, Nat.reduceEqDiff]
theorem wS_n4 (S : ce_S) (j i : Nat) (r : sp_R) (h : i ≠ j) : ce_I (wS S j r) 11 4 i = ce_I S 11 4 i := by
  simp only [wS, r_I_sR, r_I_sA, r_I_sF, r_I_sQ, r_R_sI, r_R_sA, r_R_sF, r_R_sQ, r_A_sI, r_A_sR, r_A_sQ, r_L_sI, r_L_sR, r_L_sA, r_L_sF, r_L_sQ, r_C_sI, r_C_sR, r_C_sA, r_C_sF, r_C_sQ, r_Q_sI, r_Q_sR, r_Q_sA, r_Q_sF, r_I_sI, r_R_sR, r_A_sA, r_A_sF, r_Q_sQ, r_I_tA, r_R_tA, r_L_tA, r_C_tA, r_Q_tA, r_A_tA, reduceIte, Nat.reduceEqDiff, h]
theorem rc_4 (S : ce_S) (j : Nat) : ce_I S 11 4 j = sp_sa (rc S j) := rfl
theorem wS_r5 (S : ce_S) (j : Nat) (r : sp_R) : ce_I (wS S j r) 11 5 j = sp_cu r := by
  simp only [wS, r_I_sR, r_I_sA, r_I_sF, r_I_sQ, r_R_sI, r_R_sA, r_R_sF, r_R_sQ, r_A_sI, r_A_sR, r_A_sQ, r_L_sI, r_L_sR, r_L_sA, r_L_sF, r_L_sQ, r_C_sI, r_C_sR, r_C_sA, r_C_sF, r_C_sQ, r_Q_sI, r_Q_sR, r_Q_sA, r_Q_sF, r_I_sI, r_R_sR, r_A_sA, r_A_sF, r_Q_sQ, r_I_tA, r_R_tA, r_L_tA, r_C_tA, r_Q_tA, r_A_tA, reduceIte, Nat.reduceEqDiff]
theorem wS_n5 (S : ce_S) (j i : Nat) (r : sp_R) (h : i ≠ j) : ce_I (wS S j r) 11 5 i = ce_I S 11 5 i := by
  simp only [wS, r_I_sR, r_I_sA, r_I_sF, r_I_sQ, r_R_sI, r_R_sA, r_R_sF, r_R_sQ, r_A_sI, r_A_sR, r_A_sQ, r_L_sI, r_L_sR, r_L_sA, r_L_sF, r_L_sQ, r_C_sI, r_C_sR, r_C_sA, r_C_sF, r_C_sQ, r_Q_sI, r_Q_sR, r_Q_sA, r_Q_sF, r_I_sI, r_R_sR, r_A_sA, r_A_sF, r_Q_sQ, r_I_tA, r_R_tA, r_L_tA, r_C_tA, r_Q_tA, r_A_tA, reduceIte, Nat.reduceEqDiff, h]
theorem rc_5 (S : ce_S) (j : Nat) : ce_I S 11 5 j = sp_cu (rc S j) := rfl
theorem wS_r6 (S : ce_S) (j : Nat) (r : sp_R) : ce_I (wS S j r) 11 6 j = sp_st r := by
  simp only [wS, r_I_sR, r_I_sA, r_I_sF, r_I_sQ, r_R_sI, r_R_sA, r_R_sF, r_R_sQ, r_A_sI, r_A_sR, r_A_sQ, r_L_sI, r_L_sR, r_L_sA, r_L_sF, r_L_sQ, r_C_sI, r_C_sR, r_C_sA, r_C_sF, r_C_sQ, r_Q_sI, r_Q_sR, r_Q_sA, r_Q_sF, r_I_sI, r_R_sR, r_A_sA, r_A_sF, r_Q_sQ, r_I_tA, r_R_tA, r_L_tA, r_C_tA, r_Q_tA, r_A_tA, reduceIte, Nat.reduceEqDiff]
theorem wS_n6 (S : ce_S) (j i : Nat) (r : sp_R) (h : i ≠ j) : ce_I (wS S j r) 11 6 i = ce_I S 11 6 i := by
  simp only [wS, r_I_sR, r_I_sA, r_I_sF, r_I_sQ, r_R_sI, r_R_sA, r_R_sF, r_R_sQ, r_A_sI, r_A_sR, r_A_sQ, r_L_sI, r_L_sR, r_L_sA, r_L_sF, r_L_sQ, r_C_sI, r_C_sR, r_C_sA, r_C_sF, r_C_sQ, r_Q_sI, r_Q_sR, r_Q_sA, r_Q_sF, r_I_sI, r_R_sR, r_A_sA, r_A_sF, r_Q_sQ, r_I_tA, r_R_tA, r_L_tA, r_C_tA, r_Q_tA, r_A_tA, reduceIte, Nat.reduceEqDiff, h]
theorem rc_6 (S : ce_S) (j : Nat) : ce_I S 11 6 j = sp_st (rc S j) := rfl
theorem wS_r7 (S : ce_S) (j : Nat) (r : sp_R) : ce_I (wS S j r) 11 7 j = sp_pr r := by
  simp only [wS, r_I_sR, r_I_sA, r_I_sF, r_I_sQ, r_R_sI, r_R_sA, r_R_sF, r_R_sQ, r_A_sI, r_A_sR, r_A_sQ, r_L_sI, r_L_sR, r_L_sA, r_L_sF, r_L_sQ, r_C_sI, r_C_sR, r_C_sA, r_C_sF, r_C_sQ, r_Q_sI, r_Q_sR, r_Q_sA, r_Q_sF, r_I_sI, r_R_sR, r_A_sA, r_A_sF, r_Q_sQ, r_I_tA, r_R_tA, r_L_tA, r_C_tA, r_Q_tA, r_A_tA, reduceIte, Nat.reduceEqDiff]
theorem wS_n7 (S : ce_S) (j i : Nat) (r : sp_R) (h : i ≠ j) : ce_I (wS S j r) 11 7 i = ce_I S 11 7 i := by
  simp only [wS, r_I_sR, r_I_sA, r_I_sF, r_I_sQ, r_R_sI, r_R_sA, r_R_sF, r_R_sQ, r_A_sI, r_A_sR, r_A_sQ, r_L_sI, r_L_sR, r_L_sA, r_L_sF, r_L_sQ, r_C_sI, r_C_sR, r_C_sA, r_C_sF, r_C_sQ, r_Q_sI, r_Q_sR, r_Q_sA, r_Q_sF, r_I_sI, r_R_sR, r_A_sA, r_A_sF, r_Q_sQ, r_I_tA, r_R_tA, r_L_tA, r_C_tA, r_Q_tA, r_A_tA, reduceIte, Nat.reduceEqDiff, h]
theorem rc_7 (S : ce_S) (j : Nat) : ce_I S 11 7 j = sp_pr (rc S j) := rfl
theorem wS_r0 (S : ce_S) (j : Nat) (r : sp_R) : ce_R (wS S j r) 11 0 j = sp_k r := by
  simp only [wS, r_I_sR, r_I_sA, r_I_sF, r_I_sQ, r_R_sI, r_R_sA, r_R_sF, r_R_sQ, r_A_sI, r_A_sR, r_A_sQ, r_L_sI, r_L_sR, r_L_sA, r_L_sF, r_L_sQ, r_C_sI, r_C_sR, r_C_sA, r_C_sF, r_C_sQ, r_Q_sI, r_Q_sR, r_Q_sA, r_Q_sF, r_I_sI, r_R_sR, r_A_sA, r_A_sF, r_Q_sQ, r_I_tA, r_R_tA, r_L_tA, r_C_tA, r_Q_tA, r_A_tA, reduceIte, Nat.reduceEqDiff]
theorem wS_n0 (S : ce_S) (j i : Nat) (r : sp_R) (h : i ≠ j) : ce_R (wS S j r) 11 0 i = ce_R S 11 0 i := by
  simp only [wS, r_I_sR, r_I_sA, r_I_sF, r_I_sQ, r_R_sI, r_R_sA, r_R_sF, r_R_sQ, r_A_sI, r_A_sR, r_A_sQ, r_L_sI, r_L_sR, r_L_sA, r_L_sF, r_L_sQ, r_C_sI, r_C_sR, r_C_sA, r_C_sF, r_C_sQ, r_Q_sI, r_Q_sR, r_Q_sA, r_Q_sF, r_I_sI, r_R_sR, r_A_sA, r_A_sF, r_Q_sQ, r_I_tA, r_R_tA, r_L_tA, r_C_tA, r_Q_tA, r_A_tA, reduceIte, Nat.reduceEqDiff, h]
theorem rc_0 (S : ce_S) (j : Nat) : ce_R S 11 0 j = sp_k (rc S j) := rfl
theorem txt_wS (S : ce_S) (j : Nat) (r : sp_R) (k : Nat) : txt (wS S j r) k = txt S k := by
  unfold txt
  rw [wS_A, wS_L, wS_I _ _ _ _ _ _ (by decide), wS_I _ _ _ _ _ _ (by decide)]
theorem txok_wS (S : ce_S) (j : Nat) (r : sp_R) (k : Nat) : txok (wS S j r) k = txok S k := by
  unfold txok
  rw [wS_L, wS_I _ _ _ _ _ _ (by decide), wS_I _ _ _ _ _ _ (by decide)]
theorem scE_wS (S : ce_S) (j : Nat) (r : sp_R) (i : Nat) : scE (wS S j r) i = scE S i := by
  unfold scE
  rw [txt_wS, wS_R _ _ _ _ _ _ (by decide), wS_I _ _ _ _ _ _ (by decide), wS_I _ _ _ _ _ _ (by decide), wS_I _ _ _ _ _ _ (by decide)]
theorem txt_tA (S : ce_S) (f : Nat → Nat → Int32) (k : Nat) : txt (ce_tA S 17 f) k = txt S k := rfl
theorem txok_tA (S : ce_S) (f : Nat → Nat → Int32) (k : Nat) : txok (ce_tA S 17 f) k = txok S k := rfl
theorem scE_tA (S : ce_S) (f : Nat → Nat → Int32) (i : Nat) : scE (ce_tA S 17 f) i = scE S i := rfl
