/-! the component, new: what its constructor comes to -/
def w0 : sp_W := ((0, fun _ => (0, 0, 0, 0, 0, 0, -1)), (0, 4, 12, 250), (1, fun _ => tx0), [], (fun _ => (-1, 0, fun _ => 0)), none)
theorem kg.I {W : Nat → Nat → Prop} {S S' : ce_S} (h : kg W S S') {t j : Nat} (ht : t < 100) (hw : ¬ W t j) (k : Nat) : ce_I S' t k j = ce_I S t k j := (h.1 t j ht hw).1 k
theorem kg.R {W : Nat → Nat → Prop} {S S' : ce_S} (h : kg W S S') {t j : Nat} (ht : t < 100) (hw : ¬ W t j) (k : Nat) : ce_R S' t k j = ce_R S t k j := (h.1 t j ht hw).2.1 k
theorem kg.A {W : Nat → Nat → Prop} {S S' : ce_S} (h : kg W S S') {t j : Nat} (ht : t < 100) (hw : ¬ W t j) : ce_A S' t j = ce_A S t j := funext (h.1 t j ht hw).2.2.1
theorem kg.L {W : Nat → Nat → Prop} {S S' : ce_S} (h : kg W S S') {t j : Nat} (ht : t < 100) (hw : ¬ W t j) : ce_L S' t j = ce_L S t j := (h.1 t j ht hw).2.2.2
set_option maxRecDepth 20000 in
set_option maxHeartbeats 1000000 in
theorem c_init {S : ce_S} (hK : KN (lgd [1, 0, 0, 0, 0, 0, 0, 0, 0, 0, 0, 0, 0, 0, 0, 0, 0, 0, 0, 0, 0, 0, 0, 0, 0, 0, 0, 0, 0, 0, 0, 0, 0, 0, 0, 0, 0, 0, 0, 0, 0, 0]) [(0, 0, 0), (0, 1, 0), (0, 2, 0), (0, 3, 0), (0, 4, 0), (0, 5, 0), (0, 8, 0), (0, 9, 0), (0, 10, 0), (0, 11, 0), (0, 12, 0)] S) : ∃ S', F_X11_init [.inr (.inl (0, 0))] S = some S' ∧ CR w0 S' ∧ KN (lgd [1, 1, 1, 1, 1, 1, 1, 1, 1, 1, 6, 19, 3, 1, 1, 4, 4, 1, 0, 0, 0, 0, 0, 0, 0, 0, 0, 0, 0, 0, 0, 0, 0, 0, 0, 0, 0, 0, 0, 0, 0, 0]) [] S' ∧ kg (fun t _ => t < 20) S S' := by
  refine fV_jg tl_X11_init (gd_r rfl rfl) ?_
  refine x11_A hK (fun S1 k1 a6 a13 a7 => ?_)
  refine x11_B k1.1 (fun S2 k2 => ?_)
  refine x11_C0 k2.1 (fun S3 k3 => ?_)
  refine x11_C1 k3.1 (fun S4 k4 => ?_)
  refine x11_C2 k4.1 (fun S5 k5 => ?_)
  refine x11_C3 k5.1 (fun S6 k6 => ?_)
  refine x11_C4 k6.1 (fun S7 k7 => ?_)
  refine x11_C5 k7.1 (fun S8 k8 => ?_)
  refine x11_D k8.1 (fun S9 k9 => ?_)
  refine x11_E0 k9.1 (fun S10 k10 s0 z0 => ?_)
  refine x11_E1 k10.1 (fun S11 k11 s1 z1 => ?_)
  refine x11_E2 k11.1 (fun S12 k12 s2 z2 => ?_)
  refine x11_E3 k12.1 (fun S13 k13 s3 z3 => ?_)
  have u2 : ∀ t j : Nat, t = 10 → t = 10 ∨ t = 11 ∨ t = 15 ∨ t = 16 ∨ t = 7 ∨ t = 8 ∨ t = 9 := fun t j h => by omega
  have u3 : ∀ t j : Nat, t = 11 → t = 10 ∨ t = 11 ∨ t = 15 ∨ t = 16 ∨ t = 7 ∨ t = 8 ∨ t = 9 := fun t j h => by omega
  have ug : ∀ e, ∀ t j : Nat, ((t = 15 ∨ t = 16) ∧ j = e) → t = 10 ∨ t = 11 ∨ t = 15 ∨ t = 16 ∨ t = 7 ∨ t = 8 ∨ t = 9 := fun e t j h => by omega
  have G1 : kg (fun t _ => t = 10 ∨ t = 11 ∨ t = 15 ∨ t = 16 ∨ t = 7 ∨ t = 8 ∨ t = 9) S1 S13 := (((((((((((k2.2.le u2).tr (k3.2.le u3)).tr (k4.2.le u3)).tr (k5.2.le u3)).tr (k6.2.le u3)).tr (k7.2.le u3)).tr (k8.2.le u3)).tr (k9.2.le u3)).tr (k10.2.le (ug 0))).tr (k11.2.le (ug 1))).tr (k12.2.le (ug 2))).tr (k13.2.le (ug 3))
  have h13 : ce_I S13 7 0 0 = 0 := by
    refine ((k13.2.I (by decide) (by omega) 0).trans ((k12.2.I (by decide) (by omega) 0).trans ((k11.2.I (by decide) (by omega) 0).trans ((k10.2.I (by decide) (by omega) 0).trans ((k9.2.I (by decide) (by decide) 0).trans ((k8.2.I (by decide) (by decide) 0).trans ((k7.2.I (by decide) (by decide) 0).trans ((k6.2.I (by decide) (by decide) 0).trans ((k5.2.I (by decide) (by decide) 0).trans ((k4.2.I (by decide) (by decide) 0).trans ((k3.2.I (by decide) (by decide) 0).trans ((k2.2.I (by decide) (by decide) 0).trans ?_))))))))))))
    exact a7
  refine jg_sg tl_X11_init 4 (i' := 135) (fun kk => rfl) ?_
  refine jg_cmpge_t (t := 145) rfl (by decide) ?_
  refine jg_sg tl_X11_init 3 (i' := 147) (fun kk => rfl) ?_
  refine x11_F (S0 := S13) (fun S14 k14 hL => ?_) 83 0 S13 rfl (KW.rf k13.1) h13 (fun a ha => absurd ha (Nat.not_lt_zero _))
  refine x11_G k14.1 hL (fun S15 k15 b0 b8 b9 b7 bA => ?_)
  refine x11_H k15.1 b8 b9 b7 bA (fun S16 k16 g16 f0 f7 fQ f1 f2 => ?_)
  refine x11_I0 fQ k16 (fun S17 k17 c0 c1 c2 c3 c4 => ?_)
  have q17 : ce_Q S17 0 = some 0 := by rw [k17.2.2 (by omega)]; exact fQ
  refine x11_I1 q17 k17.1 (fun S18 k18 d0 d1 d2 d3 d4 => ?_)
  have q18 : ce_Q S18 0 = some 0 := by rw [k18.2.2 (by omega)]; exact q17
  refine x11_I2 q18 k18.1 (fun S19 k19 e0 e1 e2 e3 e4 => ?_)
  have q19 : ce_Q S19 0 = some 0 := by rw [k19.2.2 (by omega)]; exact q18
  refine jg_end (x := none) (fun k => rfl) ⟨rfl, ?_, k19.1, ?_⟩
  · have v12 : ∀ e, ∀ t j : Nat, (t = 12 ∧ j = e) → t = 12 := fun e t j h => h.1
    have G2 : kg (fun t _ => t = 12) S16 S19 := ((k17.2.le (v12 0)).tr (k18.2.le (v12 1))).tr (k19.2.le (v12 2))
    have G3 : kg (fun t _ => t = 7 ∨ t = 8 ∨ t = 9) S13 S15 := (k14.2.le (fun t j h => by omega)).tr (k15.2.le (fun t j h => by omega))
    have I0 : ∀ k, k ≠ 7 → ce_I S19 0 k 0 = ce_I S1 0 k 0 := fun k hk => (G2.I (by decide) (by decide) k).trans ((f0 k hk).trans ((G3.I (by decide) (by decide) k).trans (G1.I (by decide) (by decide) k)))
    have nX : ∀ t j, t = 12 ∨ t = 15 ∨ t = 16 ∨ t = 7 → ¬ wX 0 t j := fun t j h z => by
      rcases z with z | z | z
      · rcases z.1 with e | e | e <;> omega
      · omega
      · omega
    have I12 : ∀ k, ce_I S19 12 k 0 = ce_I S17 12 k 0 := fun k => (k19.2.I (by decide) (by omega) k).trans (k18.2.I (by decide) (by omega) k)
    have R12 : ce_R S19 12 4 0 = ce_R S17 12 4 0 := (k19.2.R (by decide) (by omega) 4).trans (k18.2.R (by decide) (by omega) 4)
    have G4a : kg (fun t _ => ¬ t = 15) S13 S15 := G3.le (fun t j h => by omega)
    have G4b : kg (fun t _ => ¬ t = 15) S15 S16 := g16.le (fun t j h z => nX t j (by omega) h)
    have G4c : kg (fun t _ => ¬ t = 15) S16 S19 := G2.le (fun t j h => by omega)
    have G4 : kg (fun t _ => ¬ t = 15) S13 S19 := G4a.tr (G4b.tr G4c)
    have sh : ∀ i, i < 4 → ce_I S19 15 1 i = -1 ∧ ce_I S19 15 2 i = 0 := fun i hi => by
      have g15 : ∀ k, ce_I S19 15 k i = ce_I S13 15 k i := fun k => G4.I (by decide) (by omega) k
      rw [g15, g15]
      match i, hi with
      | 0, _ => exact ⟨(k13.2.I (by decide) (by omega) 1).trans ((k12.2.I (by decide) (by omega) 1).trans ((k11.2.I (by decide) (by omega) 1).trans s0)), (k13.2.I (by decide) (by omega) 2).trans ((k12.2.I (by decide) (by omega) 2).trans ((k11.2.I (by decide) (by omega) 2).trans z0))⟩
      | 1, _ => exact ⟨(k13.2.I (by decide) (by omega) 1).trans ((k12.2.I (by decide) (by omega) 1).trans s1), (k13.2.I (by decide) (by omega) 2).trans ((k12.2.I (by decide) (by omega) 2).trans z1)⟩
      | 2, _ => exact ⟨(k13.2.I (by decide) (by omega) 1).trans s2, (k13.2.I (by decide) (by omega) 2).trans z2⟩
      | 3, _ => exact ⟨s3, z3⟩
    have T13 : ∀ t, t = 13 ∨ t = 14 ∨ t = 17 → (∀ k, ce_I S19 t k 0 = ce_I S16 t k 0) ∧ ce_A S19 t 0 = ce_A S16 t 0 ∧ ce_L S19 t 0 = ce_L S16 t 0 := fun t h => ⟨fun k => G2.I (by omega) (by omega) k, G2.A (by omega) (by omega), G2.L (by omega) (by omega)⟩
    have i13 := (T13 13 (by omega)).1
    have l14 := (T13 14 (by omega)).2.2
    have a14 := (T13 14 (by omega)).2.1
    have l17 := (T13 17 (by omega)).2.2
    refine ⟨⟨(I0 6 (by decide)).trans a6, Nat.zero_le _⟩, fun i hi => absurd hi (Nat.not_lt_zero _), ⟨(I12 0).trans c0, (I12 1).trans c1, (I12 2).trans c2, (I12 3).trans c3, R12.trans c4⟩, ⟨?_, by decide, by decide, ⟨k19.1.1 13, k19.1.1 14, k19.1.1 17⟩, fun k hk => ?_⟩, ⟨?_, Nat.zero_le _, fun e he => absurd he (Nat.not_lt_zero _)⟩, fun i hi => ?_, fun _ => (I0 13 (by decide)).trans a13, fun m r c h => by cases h⟩
    · exact (G2.I (by decide) (by decide) 7).trans f7
    · have hk : k = 0 := by
        have hk : k < 1 := hk
        omega
      subst hk
      refine ⟨q19, ?_, ?_⟩
      · unfold txok at f1 ⊢
        rw [i13, i13, l14, l17]; exact f1
      · refine Eq.trans ?_ f2
        unfold txt
        rw [i13, i13, l14, a14]
    · exact (G2.I (by decide) (by decide) 0).trans ((g16.I (by decide) (nX 7 0 (by omega)) 0).trans b0)
    · obtain ⟨h1, h2⟩ := sh i hi
      exact ⟨h1, h2, Nat.zero_le _, fun e he => absurd he (Nat.not_lt_zero _)⟩
  · have lt : ∀ S S', kg (fun t _ => t = 12) S S' → kg (fun t _ => t < 20) S S' := fun S S' h => h.le (fun t j q => by omega)
    have v12 : ∀ e, ∀ t j : Nat, (t = 12 ∧ j = e) → t < 20 := fun e t j h => by omega
    refine (k1.2.le (fun t j h => by omega)).tr ((G1.le (fun t j h => by omega)).tr ((k14.2.le (fun t j h => by omega)).tr ((k15.2.le (fun t j h => by omega)).tr ((g16.le (fun t j h => ?_)).tr ((k17.2.le (v12 0)).tr ((k18.2.le (v12 1)).tr (k19.2.le (v12 2))))))))
    rcases h with z | z | z
    · rcases z.1 with e | e | e <;> omega
    · omega
    · omega
