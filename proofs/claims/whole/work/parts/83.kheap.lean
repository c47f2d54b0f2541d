/-! the K-machine: a cell comes -/
def kref (t k : Nat) : Nat := match ce_fk t k with
  | .inl _ => 0
  | _ => 1
def kS_new (S : ce_S) (t : Nat) : ce_S := ((fun t' k' i' => if t' = t ∧ i' = ce_C S t then 0 else ce_I S t' k' i'), (fun t' k' i' => if t' = 1000 + t ∧ i' = ce_C S t then kref t k' else ce_R S t' k' i'), ce_A S, ce_L S, (fun t' => if t' = t then ce_C S t + 1 else ce_C S t'), ce_Q S)
def kS_row (S : ce_S) (t n : Nat) : ce_S := (ce_I S, (fun t' k' i' => if t' = 1000 + t ∧ i' = ce_C S t then (if ce_so t = 2 ∧ ¬ t = 5 ∧ k' < n then 1 else 0) else ce_R S t' k' i'), (fun t' i' e' => if t' = t ∧ i' = ce_C S t then 0 else ce_A S t' i' e'), (fun t' i' => if t' = t ∧ i' = ce_C S t then n else ce_L S t' i'), (fun t' => if t' = t then ce_C S t + 1 else ce_C S t'), (fun e => if t = 5 then none else ce_Q S e))
def kad (ad : Nat → Nat → Nat) (S : ce_S) (t a : Nat) : Nat → Nat → Nat := fun t' i' => if t' = t ∧ i' = ce_C S t then a else ad t' i'
theorem kad_old {ad : Nat → Nat → Nat} {S : ce_S} {t a t' i' : Nat} (h : i' < ce_C S t') : kad ad S t a t' i' = ad t' i' := by
  unfold kad
  rw [if_neg (fun q => by obtain ⟨q1, q2⟩ := q; subst q1; omega)]
theorem kad_new {ad : Nat → Nat → Nat} {S : ce_S} {t a : Nat} : kad ad S t a t (ce_C S t) = a := by
  unfold kad; rw [if_pos ⟨rfl, rfl⟩]
theorem arrV_cg {cA : ClassId} {n : Nat} {f g : Nat → Value} (h : ∀ e, e < n → f e = g e) : arrV cA n f = arrV cA n g := by
  unfold arrV
  congr 1
  exact congrArg Array.ofFn (funext fun j => h j.val j.isLt)
/-- a cell stays where the state, the heap and its references' places stay -/
theorem ce_atK.kept {D : va_G} {ca : Nat → ClassId} {ad ad' : Nat → Nat → Nat} {S S' : ce_S} {t i : Nat} {H H1 : Heap} (h : ce_atK D ca ad S t i H) (hi : i < ce_C S t) (hk : kokS S) (hq : H1[ad t i]? = H[ad t i]?) (ha : ∀ t i, i < ce_C S t → ad' t i = ad t i) (hI : ∀ k, ce_I S' t k i = ce_I S t k i) (hR : ∀ k, ce_R S' t k i = ce_R S t k i) (hU : ∀ k, ce_R S' (1000 + t) k i = ce_R S (1000 + t) k i) (hA : ∀ e, ce_A S' t i e = ce_A S t i e) (hL : ce_L S' t i = ce_L S t i) (hQ : ce_so t = 2 → ∀ e, ce_el S' t e = ce_el S t e) : ce_atK D ca ad' S' t i H1 := by
  have hl : ce_len S' t i = ce_len S t i := ce_len_kept hL
  have ea : ad' t i = ad t i := ha t i hi
  refine ⟨fun h0 => ?_, fun h1 => ?_, fun h2 => ?_⟩
  · obtain ⟨r, h1, h2⟩ := h.1 h0
    refine ⟨r, h1, ?_⟩
    rw [ea]
    refine (h2.kept hq).to (fun k _ => ?_)
    have g := hk.1 t k i hi h0
    unfold ce_fvK
    rw [hU]
    cases hf : ce_fk t k with
    | inl u => simp only [hI]
    | inr u => cases u with
      | inl u =>
        simp only
        by_cases z : ce_R S (1000 + t) k i = 0
        · rw [if_pos z, if_pos z, ha _ _ ((g z).1 u hf)]
        · rw [if_neg z, if_neg z]
      | inr u =>
        simp only
        by_cases z : ce_R S (1000 + t) k i = 0
        · rw [if_pos z, if_pos z, hR, ha _ _ ((g z).2 u hf)]
        · rw [if_neg z, if_neg z]
  · rw [ea, hq, h.2.1 h1, hl]
    congr 4
    funext e
    exact (hA e).symm
  · rw [ea, hq, h.2.2 h2, hl, vp_cell_q, vp_cell_q]
    refine congrArg some (arrV_cg (fun e he => congrArg va_rf ?_))
    have eE : ce_elK S' t i e = ce_elK S t i e := by unfold ce_elK; rw [hU, hQ h2]
    rw [eE]
    cases hx : ce_elK S t i e with
    | none => rfl
    | some x => exact congrArg some (ha _ _ (hk.2 t i e x hi h2 he hx)).symm
/-- one cell comes: the others stay -/
theorem ce_HK.push {D : va_G} {ca : Nat → ClassId} {b0 : Nat → Prop} {ad : Nat → Nat → Nat} {S S' : ce_S} {t : Nat} {H H1 : Heap} (h : ce_HK D ca b0 ad S H) (hk : kokS S) (hb : b0 H.size) (hz : H1.size = H.size + 1) (ho : ∀ q : Nat, q < H.size → H1[q]? = H[q]?) (hC : ∀ t', ce_C S' t' = if t' = t then ce_C S t + 1 else ce_C S t') (hc : ce_so t < 3 → ce_atK D ca (kad ad S t H.size) S' t (ce_C S t) H1)
    (hkp : ∀ t' i', i' < ce_C S t' → ce_so t' < 3 → (∀ k, ce_I S' t' k i' = ce_I S t' k i') ∧ (∀ k, ce_R S' t' k i' = ce_R S t' k i') ∧ (∀ k, ce_R S' (1000 + t') k i' = ce_R S (1000 + t') k i') ∧ (∀ e, ce_A S' t' i' e = ce_A S t' i' e) ∧ ce_L S' t' i' = ce_L S t' i' ∧ (ce_so t' = 2 → ∀ e, ce_el S' t' e = ce_el S t' e)) : ce_HK D ca b0 (kad ad S t H.size) S' H1 := by
  have split : ∀ t' i', i' < ce_C S' t' → i' < ce_C S t' ∨ (t' = t ∧ i' = ce_C S t) := fun t' i' hi => by
    rw [hC] at hi
    by_cases e : t' = t
    · subst e; rw [if_pos rfl] at hi
      rcases Nat.lt_or_ge i' (ce_C S t') with q | q
      · exact Or.inl q
      · exact Or.inr ⟨rfl, by omega⟩
    · rw [if_neg e] at hi; exact Or.inl hi
  refine ⟨fun t' i' hi ht => ?_, fun t1 i1 t2 i2 h1 h2 h3 h4 h5 => ?_⟩
  · rcases split t' i' hi with q | ⟨q1, q2⟩
    · obtain ⟨g1, g2, g3⟩ := h.1 t' i' q ht
      obtain ⟨k1, k2, k3, k4, k5, k6⟩ := hkp t' i' q ht
      rw [kad_old q]
      exact ⟨g1.kept q hk (ho _ g3) (fun a b hab => kad_old hab) k1 k2 k3 k4 k5 k6, g2, by omega⟩
    · subst q1; subst q2
      rw [kad_new]
      exact ⟨hc ht, hb, by omega⟩
  · rcases split t1 i1 h1 with q | ⟨q1, q2⟩
    · rcases split t2 i2 h2 with p | ⟨p1, p2⟩
      · rw [kad_old q, kad_old p] at h5
        exact h.2 t1 i1 t2 i2 q p h3 h4 h5
      · subst p1; subst p2
        rw [kad_old q, kad_new] at h5
        exact absurd (h.1 t1 i1 q h3).2.2 (by omega)
    · subst q1; subst q2
      rcases split t2 i2 h2 with p | ⟨p1, p2⟩
      · rw [kad_old p, kad_new] at h5
        exact absurd (h.1 t2 i2 p h4).2.2 (by omega)
      · exact ⟨p1.symm, p2.symm⟩
