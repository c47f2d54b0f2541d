/-! the K-machine: new, newarray, anewarray -/
def o_knew (t ci N MC MS : Nat) : ce_Op := fun i nn ls st S k => if (nn.1 + 1 ≤ MC ∧ nn.2 + N ≤ MS) ∧ ce_ci t (ce_C S t) = ci then k (i + 1) (nn.1 + 1, nn.2 + N) ls (.inr (.inl (t, ce_C S t)) :: st) (kS_new S t) else none
def o_knewa (t MC MS : Nat) : ce_Op := fun i nn ls st S k => match st with
  | .inl x :: r => if ((nn.1 + 1 ≤ MC ∧ nn.2 + x.toNatClampNeg ≤ MS) ∧ ¬ x < 0) ∧ x.toNatClampNeg ≤ 100000 ∧ (ce_sl t).getD x.toNatClampNeg = x.toNatClampNeg then k (i + 1) (nn.1 + 1, nn.2 + x.toNatClampNeg) ls (.inr (.inl (t, ce_C S t)) :: r) (kS_row S t x.toNatClampNeg) else none
  | _ => none
theorem kS_C_new (S : ce_S) (t t' : Nat) : ce_C (kS_new S t) t' = if t' = t then ce_C S t + 1 else ce_C S t' := rfl
theorem kS_C_row (S : ce_S) (t n t' : Nat) : ce_C (kS_row S t n) t' = if t' = t then ce_C S t + 1 else ce_C S t' := rfl
theorem kC_le {S S' : ce_S} {t : Nat} (hC : ∀ t', ce_C S' t' = if t' = t then ce_C S t + 1 else ce_C S t') (t' : Nat) : ce_C S t' ≤ ce_C S' t' := by
  rw [hC]
  by_cases e : t' = t
  · rw [if_pos e, e]; omega
  · rw [if_neg e]; exact Nat.le_refl _
theorem kag {S S' : ce_S} {ad : Nat → Nat → Nat} {t a : Nat} (hC : ∀ t', ce_C S' t' = if t' = t then ce_C S t + 1 else ce_C S t') : ce_ag S ad S' (kad ad S t a) := fun t' i' hi => ⟨kad_old hi, Nat.lt_of_lt_of_le hi (kC_le hC t')⟩
theorem kokS_push {S S' : ce_S} {t : Nat} (h : kokS S) (hC : ∀ t', ce_C S' t' = if t' = t then ce_C S t + 1 else ce_C S t')
    (hkp : ∀ t' i', i' < ce_C S t' → ce_so t' < 3 → (∀ k, ce_I S' t' k i' = ce_I S t' k i') ∧ (∀ k, ce_R S' t' k i' = ce_R S t' k i') ∧ (∀ k, ce_R S' (1000 + t') k i' = ce_R S (1000 + t') k i') ∧ (∀ e, ce_A S' t' i' e = ce_A S t' i' e) ∧ ce_L S' t' i' = ce_L S t' i' ∧ (ce_so t' = 2 → ∀ e, ce_el S' t' e = ce_el S t' e))
    (h1 : ce_so t = 0 → ∀ k, ce_R S' (1000 + t) k (ce_C S t) = 0 → ∃ u, ce_fk t k = .inl u) (h2 : ce_so t = 2 → ∀ e, e < ce_len S' t (ce_C S t) → ce_elK S' t (ce_C S t) e = none) : kokS S' := by
  have split : ∀ t' i', i' < ce_C S' t' → i' < ce_C S t' ∨ (t' = t ∧ i' = ce_C S t) := fun t' i' hi => by
    rw [hC] at hi
    by_cases e : t' = t
    · subst e; rw [if_pos rfl] at hi
      rcases Nat.lt_or_ge i' (ce_C S t') with q | q
      · exact Or.inl q
      · exact Or.inr ⟨rfl, by omega⟩
    · rw [if_neg e] at hi; exact Or.inl hi
  refine ⟨fun t' k i' hi ht hz => ?_, fun t' i' e x hi ht he hx => ?_⟩
  · rcases split t' i' hi with q | ⟨q1, q2⟩
    · obtain ⟨k1, k2, k3, -, -, -⟩ := hkp t' i' q (by rw [ht]; decide)
      rw [k3] at hz
      obtain ⟨g1, g2⟩ := h.1 t' k i' q ht hz
      exact ⟨fun z hq => Nat.lt_of_lt_of_le (g1 z hq) (kC_le hC _), fun z hq => by rw [k2]; exact Nat.lt_of_lt_of_le (g2 z hq) (kC_le hC _)⟩
    · subst q1; subst q2
      obtain ⟨u, hu⟩ := h1 ht k hz
      exact ⟨fun z hq => (by rw [hu] at hq; cases hq), fun z hq => (by rw [hu] at hq; cases hq)⟩
  · rcases split t' i' hi with q | ⟨q1, q2⟩
    · obtain ⟨-, -, k3, -, k5, k6⟩ := hkp t' i' q (by rw [ht]; decide)
      have el : ce_elK S' t' i' e = ce_elK S t' i' e := by unfold ce_elK; rw [k3, k6 ht]
      rw [el] at hx
      rw [ce_len_kept k5] at he
      exact Nat.lt_of_lt_of_le (h.2 t' i' e x q ht he hx) (kC_le hC _)
    · subst q1; subst q2
      rw [h2 ht e he] at hx; cases hx
theorem ce_so_lt {t : Nat} (h : ce_so t < 3) : t < 1000 := by
  rcases Nat.lt_or_ge t 1000 with q | q
  · exact q
  · exfalso
    unfold ce_so at h
    split at h <;> omega
theorem kS_kp_new (S : ce_S) (t : Nat) : ∀ t' i', i' < ce_C S t' → ce_so t' < 3 → (∀ k, ce_I (kS_new S t) t' k i' = ce_I S t' k i') ∧ (∀ k, ce_R (kS_new S t) t' k i' = ce_R S t' k i') ∧ (∀ k, ce_R (kS_new S t) (1000 + t') k i' = ce_R S (1000 + t') k i') ∧ (∀ e, ce_A (kS_new S t) t' i' e = ce_A S t' i' e) ∧ ce_L (kS_new S t) t' i' = ce_L S t' i' ∧ (ce_so t' = 2 → ∀ e, ce_el (kS_new S t) t' e = ce_el S t' e) := fun t' i' hi hs => by
  have hlt := ce_so_lt hs
  refine ⟨fun k => ?_, fun k => ?_, fun k => ?_, fun _ => rfl, rfl, fun _ _ => rfl⟩
  · show (if t' = t ∧ i' = ce_C S t then 0 else ce_I S t' k i') = _
    rw [if_neg (fun q => by obtain ⟨q1, q2⟩ := q; subst q1; omega)]
  · show (if t' = 1000 + t ∧ i' = ce_C S t then kref t k else ce_R S t' k i') = _
    rw [if_neg (fun q => by omega)]
  · show (if 1000 + t' = 1000 + t ∧ i' = ce_C S t then kref t k else ce_R S (1000 + t') k i') = _
    rw [if_neg (fun q => by
      obtain ⟨q1, q2⟩ := q
      have e : t' = t := by omega
      subst e; omega)]
/-- that a row comes to kind 5, the texts, only while there is none -/
theorem kS_kp_row (S : ce_S) (t n : Nat) (h5 : t = 5 → ce_C S 5 = 0) : ∀ t' i', i' < ce_C S t' → ce_so t' < 3 → (∀ k, ce_I (kS_row S t n) t' k i' = ce_I S t' k i') ∧ (∀ k, ce_R (kS_row S t n) t' k i' = ce_R S t' k i') ∧ (∀ k, ce_R (kS_row S t n) (1000 + t') k i' = ce_R S (1000 + t') k i') ∧ (∀ e, ce_A (kS_row S t n) t' i' e = ce_A S t' i' e) ∧ ce_L (kS_row S t n) t' i' = ce_L S t' i' ∧ (ce_so t' = 2 → ∀ e, ce_el (kS_row S t n) t' e = ce_el S t' e) := fun t' i' hi hs => by
  have hlt := ce_so_lt hs
  have hne : ¬ (t' = t ∧ i' = ce_C S t) := fun q => by obtain ⟨q1, q2⟩ := q; subst q1; omega
  refine ⟨fun _ => rfl, fun k => ?_, fun k => ?_, fun e => ?_, ?_, fun h2 e => ?_⟩
  · show (if t' = 1000 + t ∧ i' = ce_C S t then (if ce_so t = 2 ∧ ¬ t = 5 ∧ k < n then 1 else 0) else ce_R S t' k i') = _
    rw [if_neg (fun q => by omega)]
  · show (if 1000 + t' = 1000 + t ∧ i' = ce_C S t then (if ce_so t = 2 ∧ ¬ t = 5 ∧ k < n then 1 else 0) else ce_R S (1000 + t') k i') = _
    rw [if_neg (fun q => hne ⟨by omega, q.2⟩)]
  · show (if t' = t ∧ i' = ce_C S t then 0 else ce_A S t' i' e) = _
    rw [if_neg hne]
  · show (if t' = t ∧ i' = ce_C S t then n else ce_L S t' i') = _
    rw [if_neg hne]
  · unfold ce_el
    cases hg : ce_eg t' with
    | some g => rfl
    | none =>
      show (if t = 5 then none else ce_Q S e) = ce_Q S e
      by_cases e5 : t = 5
      · exfalso
        have h0 := h5 e5
        have : t' = 5 := by
          unfold ce_so at h2
          unfold ce_eg at hg
          split at h2 <;> first | rfl | (cases h2; done) | (cases hg; done) | (simp at h2; done) | (simp at hg; done)
        subst this
        omega
      · rw [if_neg e5]
