/-! the K-machine: a part of the cells, as a plain machine -/
def ksub (S : ce_S) (P : Nat → Bool) : ce_S := (S.1, S.2.1, S.2.2.1, S.2.2.2.1, (fun t => if P t = true then ce_C S t else 0), S.2.2.2.2.2)
def kjoin (S S1 : ce_S) : ce_S := (S1.1, S1.2.1, S1.2.2.1, S1.2.2.2.1, S.2.2.2.2.1, S1.2.2.2.2.2)
def kb (b0 : Nat → Prop) (ad : Nat → Nat → Nat) (S : ce_S) (P : Nat → Bool) : Nat → Prop := fun q => b0 q ∧ ∀ t i, i < ce_C S t → ¬ P t = true → ce_so t < 3 → q ≠ ad t i
def kfullP (S : ce_S) (P : Nat → Bool) (C : Nat → Nat) : Prop := ∀ t k i, P t = true → i < C t → ce_R S (1000 + t) k i = 0
theorem ksub_C {S : ce_S} {P : Nat → Bool} {t i : Nat} (h : i < ce_C (ksub S P) t) : P t = true ∧ i < ce_C S t := by
  have h : i < (if P t = true then ce_C S t else 0) := h
  by_cases e : P t = true
  · rw [if_pos e] at h; exact ⟨e, h⟩
  · rw [if_neg e] at h; exact absurd h (Nat.not_lt_zero _)
theorem ksub_C2 {S : ce_S} {P : Nat → Bool} {t i : Nat} (h : P t = true) (hi : i < ce_C S t) : i < ce_C (ksub S P) t := by
  show i < (if P t = true then ce_C S t else 0)
  rw [if_pos h]; exact hi
theorem ksub_H {D : va_G} {ca : Nat → ClassId} {b0 : Nat → Prop} {ad : Nat → Nat → Nat} {S : ce_S} {P : Nat → Bool} {H : Heap} (h : ce_HK D ca b0 ad S H) (hf : kfullP S P (ce_C S)) : ce_H D ca (kb b0 ad S P) ad (ksub S P) H := by
  refine ⟨fun t i hi ht => ?_, fun t i t' i' h1 h2 h3 h4 h5 => h.2 t i t' i' (ksub_C h1).2 (ksub_C h2).2 h3 h4 h5⟩
  obtain ⟨hP, hi⟩ := ksub_C hi
  obtain ⟨g1, g2, g3⟩ := h.1 t i hi ht
  rw [ce_atK_eq (fun k => hf t k i hP hi)] at g1
  refine ⟨g1, ⟨g2, fun t' i' hi' hP' hs' e => ?_⟩, g3⟩
  obtain ⟨e1, -⟩ := h.2 t i t' i' hi hi' ht hs' e
  subst e1
  exact hP' hP
theorem ksub_X {b0 : Nat → Prop} {ad : Nat → Nat → Nat} {S : ce_S} {P : Nat → Bool} {U : State} (hX : ce_X ad b0 U) (hs : ∀ t i, i < ce_C S t → ce_so t < 3 → ad t i < U.heap.size) : ce_X ad (kb b0 ad S P) U := by
  obtain ⟨h1, h2, h3, h4, h5⟩ := hX
  exact ⟨h1.narrow (fun q hq => hq.1), h2, h3.narrow (fun q hq => hq.1), h4.narrow (fun q hq => hq.1), fun q hq => ⟨h5 q hq, fun t i hi _ ht e => by have := hs t i hi ht; omega⟩⟩
/-- what the other cells keep -/
def kothers (S S1 : ce_S) (P : Nat → Bool) : Prop := ∀ t i, ¬ P t = true → ce_so t < 3 → i < ce_C S t → (∀ k, ce_I S1 t k i = ce_I S t k i) ∧ (∀ k, ce_R S1 t k i = ce_R S t k i) ∧ (∀ k, ce_R S1 (1000 + t) k i = ce_R S (1000 + t) k i) ∧ (∀ e, ce_A S1 t i e = ce_A S t i e) ∧ ce_L S1 t i = ce_L S t i ∧ (ce_so t = 2 → ∀ e, ce_el S1 t e = ce_el S t e)
theorem kjoin_H {D : va_G} {ca : Nat → ClassId} {b0 b1 : Nat → Prop} {ad ad' : Nat → Nat → Nat} {S S1 : ce_S} {P : Nat → Bool} {H H1 : Heap} (h : ce_HK D ca b0 ad S H) (hk : kokS S) (hC : ∀ t, ce_C S1 t = ce_C (ksub S P) t) (ho : kothers S S1 P) (hf : kfullP S1 P (ce_C S)) (hok : ce_okS S1) (hag : ce_ag (ksub S P) ad S1 ad') (h1 : ce_H D ca b1 ad' S1 H1) (hz : H.size ≤ H1.size) (hfr : ∀ q : Nat, q < H.size → ¬ kb b0 ad S P q → H1[q]? = H[q]?) : ce_HK D ca b0 ad (kjoin S S1) H1 ∧ kokS (kjoin S S1) := by
  have hk1 : kfull S1 := fun t k i hi => by
    rw [hC] at hi
    obtain ⟨a, b⟩ := ksub_C hi
    exact hf t k i a b
  have hkok1 : kokS S1 := kokS_of hk1 hok
  have haa : ∀ t i, i < ce_C S1 t → ad t i = ad' t i := fun t i hi => (hag t i (by rw [hC] at hi; exact hi)).1.symm
  refine ⟨⟨fun t i hi ht => ?_, fun t i t' i' g1 g2 g3 g4 g5 => h.2 t i t' i' g1 g2 g3 g4 g5⟩, ⟨fun t k i hi ht hU => ?_, fun t i e x hi ht he hx => ?_⟩⟩
  · have hi : i < ce_C S t := hi
    obtain ⟨q1, q2, q3⟩ := h.1 t i hi ht
    refine ⟨?_, q2, Nat.lt_of_lt_of_le q3 hz⟩
    by_cases hP : P t = true
    · have hi1 : i < ce_C S1 t := by rw [hC]; exact ksub_C2 hP hi
      obtain ⟨r1, -, -⟩ := h1.1 t i hi1 ht
      rw [← ce_atK_eq (fun k => hk1 t k i hi1)] at r1
      exact r1.kept hi1 hkok1 rfl haa (fun _ => rfl) (fun _ => rfl) (fun _ => rfl) (fun _ => rfl) rfl (fun _ _ => rfl)
    · obtain ⟨o1, o2, o3, o4, o5, o6⟩ := ho t i hP ht hi
      exact q1.kept hi hk (hfr _ q3 (fun z => z.2 t i hi hP ht rfl)) (fun _ _ _ => rfl) o1 o2 o3 o4 o5 o6
  · have hi : i < ce_C S t := hi
    by_cases hP : P t = true
    · have hi1 : i < ce_C S1 t := by rw [hC]; exact ksub_C2 hP hi
      obtain ⟨g1, g2⟩ := hok.1 t k i hi1 ht
      refine ⟨fun q hq => ?_, fun t' hq => ?_⟩
      · have := g1 q hq
        rw [hC] at this
        exact (ksub_C this).2
      · have := g2 t' hq
        rw [hC] at this
        exact (ksub_C this).2
    · obtain ⟨o1, o2, o3, o4, o5, o6⟩ := ho t i hP (by rw [ht]; decide) hi
      have hU : ce_R S1 (1000 + t) k i = 0 := hU
      rw [o3] at hU
      obtain ⟨g1, g2⟩ := hk.1 t k i hi ht hU
      exact ⟨g1, fun t' hq => (by show ce_R S1 t k i < _; rw [o2]; exact g2 t' hq)⟩
  · have hi : i < ce_C S t := hi
    by_cases hP : P t = true
    · have hi1 : i < ce_C S1 t := by rw [hC]; exact ksub_C2 hP hi
      have := hkok1.2 t i e x hi1 ht he hx
      rw [hC] at this
      exact (ksub_C this).2
    · obtain ⟨o1, o2, o3, o4, o5, o6⟩ := ho t i hP (by rw [ht]; decide) hi
      have he : e < ce_len S1 t i := he
      rw [ce_len_kept o5] at he
      refine hk.2 t i e x hi ht he ?_
      have hx : ce_elK S1 t i e = some x := hx
      unfold ce_elK at hx ⊢
      rw [o3, o6 ht] at hx
      exact hx
