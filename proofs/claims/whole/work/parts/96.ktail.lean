/-! the K-machine: every step returns or goes on at one place -/
theorem ta_knewa {t MC MS : Nat} : ce_Tail (o_knewa t MC MS) := by
  intro i nn ls st S k res h
  unfold o_knewa at h ⊢
  split at h
  · split at h
    · rename_i hc
      simp only [if_pos hc]
      exact Or.inr ⟨_, _, _, _, _, h, fun k' q => q⟩
    · cases h
  · cases h
theorem ta_kanew {t MC MS : Nat} : ce_Tail (o_kanew t MC MS) := by
  intro i nn ls st S k res h
  unfold o_kanew at h ⊢
  split at h
  · split at h
    · rename_i hc
      simp only [if_pos hc]
      exact Or.inr ⟨_, _, _, _, _, h, fun k' q => q⟩
    · cases h
  · cases h
theorem ta_kputI {t f : Nat} : ce_Tail (o_kputI t f) := by
  intro i nn ls st S k res h
  unfold o_kputI at h ⊢
  split at h
  · split at h
    · rename_i hc
      simp only [if_pos hc]
      exact Or.inr ⟨_, _, _, _, _, h, fun k' q => q⟩
    · cases h
  · cases h
theorem ta_kputS {t f t' : Nat} {g : Nat → Nat} : ce_Tail (o_kputS t f t' g) := by
  intro i nn ls st S k res h
  unfold o_kputS at h ⊢
  split at h
  · split at h
    · rename_i hc
      simp only [if_pos hc]
      exact Or.inr ⟨_, _, _, _, _, h, fun k' q => q⟩
    · cases h
  · cases h
theorem ta_kputM {t f t' : Nat} : ce_Tail (o_kputM t f t') := by
  intro i nn ls st S k res h
  unfold o_kputM at h ⊢
  split at h
  · split at h
    · rename_i hc
      simp only [if_pos hc]
      exact Or.inr ⟨_, _, _, _, _, h, fun k' q => q⟩
    · cases h
  · cases h
theorem ta_kgetS {t f t' : Nat} {g : Nat → Nat} : ce_Tail (o_kgetS t f t' g) := by
  intro i nn ls st S k res h
  unfold o_kgetS at h ⊢
  split at h
  · split at h
    · rename_i hc
      simp only [if_pos hc]
      exact Or.inr ⟨_, _, _, _, _, h, fun k' q => q⟩
    · cases h
  · cases h
theorem ta_kgetM {t f t' : Nat} : ce_Tail (o_kgetM t f t') := by
  intro i nn ls st S k res h
  unfold o_kgetM at h ⊢
  split at h
  · split at h
    · rename_i hc
      simp only [if_pos hc]
      exact Or.inr ⟨_, _, _, _, _, h, fun k' q => q⟩
    · cases h
  · cases h
theorem ta_kinit  : ce_Tail o_kinit := by
  intro i nn ls st S k res h
  unfold o_kinit at h ⊢
  split at h
  · split at h
    · rename_i hc
      simp only [if_pos hc]
      exact Or.inr ⟨_, _, _, _, _, h, fun k' q => q⟩
    · cases h
  · cases h
theorem ta_kaast {t : Nat} {g : Nat → Nat} : ce_Tail (o_kaast t g) := by
  intro i nn ls st S k res h
  unfold o_kaast at h ⊢
  split at h
  · split at h
    · rename_i hc
      simp only [if_pos hc]
      exact Or.inr ⟨_, _, _, _, _, h, fun k' q => q⟩
    · cases h
  · cases h
theorem ta_kaastQ  : ce_Tail o_kaastQ := by
  intro i nn ls st S k res h
  unfold o_kaastQ at h ⊢
  split at h
  · split at h
    · rename_i hc
      simp only [if_pos hc]
      exact Or.inr ⟨_, _, _, _, _, h, fun k' q => q⟩
    · cases h
  · cases h
theorem ta_kald {t t' : Nat} {g : Nat → Nat} : ce_Tail (o_kald t t' g) := by
  intro i nn ls st S k res h
  unfold o_kald at h ⊢
  split at h
  · split at h
    · rename_i hc
      simp only [if_pos hc]
      exact Or.inr ⟨_, _, _, _, _, h, fun k' q => q⟩
    · cases h
  · cases h
theorem ta_knew {t ci N MC MS : Nat} : ce_Tail (o_knew t ci N MC MS) := by
  intro i nn ls st S k res h
  unfold o_knew at h ⊢
  split at h
  · rename_i hc
    simp only [if_pos hc]
    exact Or.inr ⟨_, _, _, _, _, h, fun k' q => q⟩
  · cases h
theorem ta_kp {P : Nat → Bool} {n : Nat} {F : List ce_V → ce_S → ce_Rs} : ce_Tail (o_kp P n F) := by
  intro i nn ls st S k res h
  obtain ⟨r, S1, hF, h1, h2, h3⟩ := o_kp_of h
  refine Or.inr ⟨_, _, _, _, _, h3, fun k' q => ?_⟩
  unfold o_kp
  rw [hF, Option.bind_some, if_pos ⟨h1, h2⟩]
  exact q
