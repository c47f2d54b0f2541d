/-! what one side's calls leave of the other's cells -/
def mE2 (S S' : ce_S) : Prop := ∀ t, 20 ≤ t → t < 100 → ce_I S' t = ce_I S t ∧ ce_R S' t = ce_R S t ∧ ce_A S' t = ce_A S t ∧ ce_L S' t = ce_L S t ∧ ce_C S' t = ce_C S t
theorem mE2_of {S S' : ce_S} (h : mEq S S') : mE2 S S' := fun t q _ => h t q
theorem MR_mE2 {w : sp_W} {S S' : ce_S} (h : MR w S) (g : mE2 S S') : MR w S' := by
  have eI := (g 20 (by decide) (by decide)).1
  have eA : ∀ t, 20 ≤ t → t < 100 → ce_A S' t = ce_A S t := fun t a b => (g t a b).2.2.1
  have eL := (g 41 (by decide) (by decide)).2.2.2.1
  have a21 := eA 21 (by decide) (by decide)
  have a22 := eA 22 (by decide) (by decide)
  have a23 := eA 23 (by decide) (by decide)
  have a24 := eA 24 (by decide) (by decide)
  have a25 := eA 25 (by decide) (by decide)
  have a26 := eA 26 (by decide) (by decide)
  have a27 := eA 27 (by decide) (by decide)
  have a28 := eA 28 (by decide) (by decide)
  have a29 := eA 29 (by decide) (by decide)
  have a30 := eA 30 (by decide) (by decide)
  have a33 := eA 33 (by decide) (by decide)
  have a34 := eA 34 (by decide) (by decide)
  have a35 := eA 35 (by decide) (by decide)
  have a36 := eA 36 (by decide) (by decide)
  have a41 := eA 41 (by decide) (by decide)
  unfold MR MS MX MXn MXc MXt MXp MXh MXi MXw MSr m_row kpt mr at h ⊢
  simp only [eI, eL, a21, a22, a23, a24, a25, a26, a27, a28, a29, a30, a33, a34, a35, a36, a41]
  exact h
theorem CR_cEq {w : sp_W} {S S' : ce_S} (h : CR w S) (g : cEq S S') : CR w S' := by
  have eI : ∀ t, t < 20 → ce_I S' t = ce_I S t := fun t a => (g.1 t a).1
  have eR : ∀ t, t < 20 → ce_R S' t = ce_R S t := fun t a => (g.1 t a).2.1
  have eA : ∀ t, t < 20 → ce_A S' t = ce_A S t := fun t a => (g.1 t a).2.2.1
  have i0 := eI 0 (by decide)
  have i7 := eI 7 (by decide)
  have i11 := eI 11 (by decide)
  have i12 := eI 12 (by decide)
  have i13 := eI 13 (by decide)
  have i15 := eI 15 (by decide)
  have r11 := eR 11 (by decide)
  have r12 := eR 12 (by decide)
  have a8 := eA 8 (by decide)
  have a14 := eA 14 (by decide)
  have a16 := eA 16 (by decide)
  have l14 := (g.1 14 (by decide)).2.2.2.1
  have l17 := (g.1 17 (by decide)).2.2.2.1
  have c13 := (g.1 13 (by decide)).2.2.2.2
  have c14 := (g.1 14 (by decide)).2.2.2.2
  have c17 := (g.1 17 (by decide)).2.2.2.2
  have q := g.2
  unfold CR CRn CRr CRc CRt CRp CRh CRi rc txok txt at h ⊢
  simp only [i0, i7, i11, i12, i13, i15, r11, r12, a8, a14, a16, l14, l17, c13, c14, c17, q]
  exact h
