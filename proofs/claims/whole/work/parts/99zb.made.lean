/-! a text is made -/
theorem kpre6 {c : Nat → Nat} {l : List (Nat × Nat × Nat)} {S : ce_S} {a : List ce_V} (hK : KN c l S) (h61 : ∀ q ∈ l, q.1 < 60) (ha : ce_okT (ksub S kP6) a) : kpre kP6 S (ksub S kP6) a := by
  have h6 : ∀ t, kP6 t = true → t = 61 ∨ t = 62 := fun t h => by
    unfold kP6 at h
    rcases Bool.or_eq_true_iff.mp h with q | q
    · exact Or.inl (of_decide_eq_true q)
    · exact Or.inr (of_decide_eq_true q)
  have hs : ∀ t i, i < ce_C (ksub S kP6) t → ce_so t = 3 := fun t i hi => by
    rcases h6 t (ksub_C hi).1 with e | e
    · subst e; rfl
    · subst e; rfl
  have hf : kfullP S kP6 (ce_C S) := fun t k i hP hi => hK.2 t k i (fun z => by
    have h : t < 60 := h61 _ z
    rcases h6 t hP with e | e
    · omega
    · omega)
  exact ⟨hf, ⟨fun t k i hi ht => (by rw [hs t i hi] at ht; cases ht), fun t i e x hi ht => (by rw [hs t i hi] at ht; cases ht)⟩, ha, ⟨rfl, rfl⟩, fun _ => rfl, fun t i _ _ _ => ⟨fun _ => rfl, fun _ => rfl, fun _ => rfl, fun _ => rfl, rfl, fun _ _ => rfl⟩, hf⟩
theorem okT_3 {S : ce_S} {x y z : Int32} : ce_okT S [.inl x, .inl y, .inl z] := by
  intro v hv
  simp only [List.mem_cons, List.not_mem_nil, or_false] at hv
  rcases hv with rfl | rfl | rfl <;> exact trivial
theorem sp_cl_in {n : Nat} (h : n ≤ 160) : sp_cl 0 160 (nI n) = nI n := by
  unfold sp_cl
  rw [if_neg, if_neg]
  · rw [show (160 : Int32) = nI 160 from rfl, nJ_lt (by omega) (by omega)]; omega
  · rw [show (0 : Int32) = nI 0 from rfl, nJ_lt (by omega) (by omega)]; omega
theorem kref_13 : ∀ k, kref 13 k ≠ 0 → k ∈ [0, 3] := fun k h => by
  match k, h with
  | 0, _ => exact List.mem_cons_self
  | 1, h => exact absurd rfl h
  | 2, h => exact absurd rfl h
  | 3, _ => exact List.mem_cons_of_mem _ List.mem_cons_self
  | _ + 4, h => exact absurd rfl h
def wT (j : Nat) (t i : Nat) : Prop := (t = 13 ∨ t = 14 ∨ t = 17) ∧ i = j
set_option maxRecDepth 20000 in
theorem x10_init {S : ce_S} {c : Nat → Nat} {l0 : List (Nat × Nat × Nat)} {j n : Nat} {le fe : Int32} (hK : KN c ((13, 0, j) :: (13, 3, j) :: l0) S) (h60 : ∀ q ∈ l0, q.1 < 60) (hu : ∀ k, (13, k, j) ∉ l0) (h13 : j < c 13) (h14 : c 14 = j) (h17 : c 17 = j) (hn : n ≤ 160) :
    ∃ S', F_X10_init [.inr (.inl (13, j)), .inr (.inl (9, 0)), .inl (nI n), .inl le, .inl fe] S = some S' ∧ KW (wT j) S (kcv (kcv c 14 (j + 1)) 17 (j + 1)) l0 S' ∧ ce_I S' 13 1 j = le ∧ ce_I S' 13 2 j = fe ∧ ce_L S' 14 j = n ∧ ce_L S' 17 j = n ∧ ∀ e, e < n → ce_A S' 14 j e = ce_A S 9 0 e := by
  have hK0 := hK
  have ecl : (nI n).toNatClampNeg = n := nI_clamp (by omega)
  have hn0 : ¬ nI n < 0 := by rw [show (0 : Int32) = nI 0 from rfl, nJ_lt (by omega) (by omega)]; omega
  have w14 : wT j 14 j := ⟨Or.inr (Or.inl rfl), rfl⟩
  have w17 : wT j 17 j := ⟨Or.inr (Or.inr rfl), rfl⟩
  have w13 : wT j 13 j := ⟨Or.inl rfl, rfl⟩
  have c13 : kcv (kcv c 14 (j + 1)) 17 (j + 1) 13 = c 13 := rfl
  refine fV_jg tl_X10_init (gd_r rfl rfl) ?_
  refine jg_sg tl_X10_init 2 (i' := 1) (fun kk => rfl) ?_
  refine jg_kinit (i' := 2) rfl rfl (Nat.zero_le _) ?_
  refine jg_sg tl_X10_init 5 (i' := 6) (fun kk => rfl) ?_
  refine jg_kp (i' := 7) (P := kP6) (n := 3) (F := ce_wI F_X11_within) (a := [.inl (nI n), .inl 0, .inl 160]) (rest := []) (st' := [.inl (nI n)]) (r := some (.inl (nI n))) (S1 := ksub S kP6) (S2 := S) rfl rfl rfl rfl (by unfold ce_wI; rw [f_within _ _ _ _ (by decide), sp_cl_in hn]; rfl) ⟨Nat.zero_le _, Nat.le_refl _⟩ (kpre6 hK (fun q hq => by
    rcases List.mem_cons.mp hq with e | hq
    · subst e; exact (show 13 < 60 by decide)
    rcases List.mem_cons.mp hq with e | hq
    · subst e; exact (show 13 < 60 by decide)
    · exact h60 q hq) okT_3) rfl rfl ?_
  refine jg_sg tl_X10_init 4 (i' := 10) (fun kk => rfl) ?_
  refine jg_newa (i' := 11) (t := 14) (MC := 2) (MS := 320) (j := j) (n := n) (nn' := (1, n)) (W := wT j) (KW.rf hK) rfl rfl ecl hn0 (Prod.ext rfl (Nat.zero_add n)) h14 (by omega) rfl (by decide) ⟨Nat.le_of_ble_eq_true rfl, (by show 0 + n ≤ 320; omega)⟩ w14 (c' := kcv c 14 (j + 1)) (fun _ => rfl) (fun hK => ?_)
  refine jg_putS (i' := 12) (t := 13) (f := 0) (t' := 14) (g0 := ce_k0) (j := j) (r := j) (l' := (13, 3, j) :: l0) hK rfl rfl rfl (fun q hq hne => by
    rcases List.mem_cons.mp hq with e | hq
    · exact absurd e hne
    · exact hq) (fun hK => ?_)
  refine jg_sg tl_X10_init 3 (i' := 14) (fun kk => rfl) ?_
  refine jg_newa (i' := 15) (t := 17) (MC := 2) (MS := 320) (j := j) (n := n) (nn' := (2, n + n)) hK rfl rfl ecl hn0 rfl h17 (by omega) rfl (by decide) ⟨Nat.le_of_ble_eq_true rfl, (by show n + n ≤ 320; omega)⟩ w17 (c' := kcv (kcv c 14 (j + 1)) 17 (j + 1)) (fun _ => rfl) (fun hK => ?_)
  refine jg_putS (i' := 16) (t := 13) (f := 3) (t' := 17) (g0 := ce_k0) (j := j) (r := j) (l' := l0) hK rfl rfl rfl (fun q hq hne => by
    rcases List.mem_cons.mp hq with e | hq
    · exact absurd e hne
    · exact hq) (fun hK => ?_)
  refine jg_sg tl_X10_init 3 (i' := 18) (fun kk => rfl) ?_
  refine jg_putI (i' := 19) (t := 13) (f := 1) (j := j) (x := le) hK rfl rfl w13 (fun hK => ?_)
  refine jg_sg tl_X10_init 3 (i' := 21) (fun kk => rfl) ?_
  refine jg_putI (i' := 22) (t := 13) (f := 2) (j := j) (x := fe) hK rfl rfl w13 (fun hK => ?_)
  refine jg_sg tl_X10_init 4 (i' := 25) (fun kk => rfl) ?_
  refine jg_getS (i' := 26) (t := 13) (f := 0) (t' := 14) (g0 := ce_k0) (j := j) (r := j) hK rfl rfl (hu 0) h13 rfl ?_
  refine jg_sg tl_X10_init 3 (i' := 28) (fun kk => rfl) ?_
  have hC14 : ce_C S 14 = j := (hK0.1 14).trans h14
  have hC17 : ce_C S 17 = j := (hK0.1 17).trans h17
  obtain ⟨X, hX⟩ : ∃ X, X = ce_sI (ce_sI (kS_putS (kS_row (kS_putS (kS_row S 14 n) 13 0 j) 17 n) 13 3 j) 13 1 j le) 13 2 j fe := ⟨_, rfl⟩
  have l14 : ce_L X 14 j = n := by
    rw [hX]
    show (if (14 : Nat) = 17 ∧ j = ce_C (kS_putS (kS_row S 14 n) 13 0 j) 17 then n else (if (14 : Nat) = 14 ∧ j = ce_C S 14 then n else ce_L S 14 j)) = n
    rw [if_neg (fun z => absurd z.1 (by decide)), if_pos ⟨rfl, hC14.symm⟩]
  have l17 : ce_L X 17 j = n := by
    rw [hX]
    show (if (17 : Nat) = 17 ∧ j = (if (17 : Nat) = 14 then ce_C S 14 + 1 else ce_C S 17) then n else ce_L (kS_putS (kS_row S 14 n) 13 0 j) 17 j) = n
    rw [if_pos ⟨rfl, (by rw [if_neg (by decide), hC17])⟩]
  have i1 : ce_I X 13 1 j = le := by
    rw [hX, r_I_sI, if_pos rfl, if_neg (by decide), r_I_sI, if_pos rfl, if_pos rfl, if_pos rfl]
  have i2 : ce_I X 13 2 j = fe := by
    rw [hX, r_I_sI, if_pos rfl, if_pos rfl, if_pos rfl]
  rw [← hX] at hK ⊢
  have a9 : ∀ e, ce_A X 9 0 e = ce_A S 9 0 e := (hK.2.1 9 0 (by decide) (fun w => by rcases w.1 with e | e | e <;> cases e)).2.2.1
  refine jg_copy (i' := 29) (t := 9) (t' := 14) (j := 0) (j' := j) hK rfl rfl w14 ⟨by decide, by decide, hn0, ?_, ?_, Nat.zero_le _⟩ (fun hK => ?_)
  · show 0 + (nI n).toNatClampNeg ≤ 160
    rw [ecl]; omega
  · show 0 + (nI n).toNatClampNeg ≤ ce_L X 14 j
    rw [ecl, l14]; omega
  refine jg_end (x := none) (fun k => rfl) ⟨rfl, hK, i1, i2, l14, l17, fun e he => ?_⟩
  rw [r_A_sF, if_pos rfl, if_pos rfl]
  unfold va_cpy
  rw [if_pos (by show 0 ≤ e ∧ e < 0 + (nI n).toNatClampNeg; rw [ecl]; omega)]
  show ce_A X 9 0 (0 + (e - 0)) = _
  rw [show 0 + (e - 0) = e by omega]
  exact a9 e
set_option maxRecDepth 20000 in
theorem x9_made {S : ce_S} {c : Nat → Nat} {l0 : List (Nat × Nat × Nat)} {j n : Nat} (hK : KN c l0 S) (h60 : ∀ q ∈ l0, q.1 < 60) (hu : ∀ k, (13, k, j) ∉ l0) (hu7 : (7, 2, 0) ∉ l0) (h7 : 0 < c 7) (h13 : c 13 = j) (h14 : c 14 = j) (h17 : c 17 = j) (hn : n ≤ 160) (hi : ce_I S 7 7 0 = nI n) :
    ∃ S', F_X9_made [.inr (.inl (7, 0))] S = some (j, S') ∧ KW (wT j) S (kcv (kcv (kcv c 13 (j + 1)) 14 (j + 1)) 17 (j + 1)) l0 S' ∧ ce_I S' 13 1 j = ce_I S 7 8 0 ∧ ce_I S' 13 2 j = ce_I S 7 9 0 ∧ ce_L S' 14 j = n ∧ ce_L S' 17 j = n ∧ ∀ e, e < n → ce_A S' 14 j e = ce_A S 9 0 e := by
  have w13 : wT j 13 j := ⟨Or.inl rfl, rfl⟩
  have n7 : ¬ wT j 7 0 := fun w => by rcases w.1 with e | e | e <;> cases e
  have n9 : ¬ wT j 9 0 := fun w => by rcases w.1 with e | e | e <;> cases e
  have key : ∃ v S', F_X9_made [.inr (.inl (7, 0))] S = some (v, S') ∧ v = j ∧ KW (wT j) S (kcv (kcv (kcv c 13 (j + 1)) 14 (j + 1)) 17 (j + 1)) l0 S' ∧ ce_I S' 13 1 j = ce_I S 7 8 0 ∧ ce_I S' 13 2 j = ce_I S 7 9 0 ∧ ce_L S' 14 j = n ∧ ce_L S' 17 j = n ∧ ∀ e, e < n → ce_A S' 14 j e = ce_A S 9 0 e := by
    refine fR_jg tl_X9_made (gd_r rfl rfl) ?_
    refine jg_new (i' := 1) (t := 13) (ci := 10) (N := 4) (MC := 3) (MS := 324) (j := j) (nn' := (1, 4)) (W := wT j) (ks := [0, 3]) (l' := (13, 0, j) :: (13, 3, j) :: l0) (c' := kcv c 13 (j + 1)) (KW.rf hK) rfl rfl rfl h13 rfl kref_13 ⟨Nat.le_of_ble_eq_true rfl, Nat.le_of_ble_eq_true rfl⟩ w13 (fun _ => rfl) (fun _ q => q) (fun hK => ?_)
    obtain ⟨X, hX⟩ : ∃ X, X = kS_new S 13 := ⟨_, rfl⟩
    rw [← hX] at hK ⊢
    refine jg_sg tl_X9_made 3 (i' := 3) (fun kk => rfl) ?_
    refine jg_getS (i' := 4) (t := 7) (f := 2) (t' := 9) (g0 := fun _ => 0) (j := 0) (r := 0) hK rfl rfl (fun z => by
      rcases List.mem_cons.mp z with e | z
      · cases e
      rcases List.mem_cons.mp z with e | z
      · cases e
      · exact hu7 z) h7 rfl ?_
    refine jg_sg tl_X9_made 7 (i' := 10) (fun kk => rfl) ?_
    have e7 := (hK.2.1 7 0 (by decide) n7).1
    have e9 := (hK.2.1 9 0 (by decide) n9).2.2.1
    rw [e7 7, e7 8, e7 9, hi]
    obtain ⟨S', h1, h2, h3, h4, h5, h6, h8⟩ := x10_init (le := ce_I S 7 8 0) (fe := ce_I S 7 9 0) hK.1 h60 hu (by show j < j + 1; omega) (show c 14 = j from h14) (show c 17 = j from h17) hn
    refine jg_cv (i' := 11) (n := 5) (mc := 2) (ms := 320) (MC := 3) (MS := 324) (nn' := (3, 324)) (F := F_X10_init) (a := [.inr (.inl (13, j)), .inr (.inl (9, 0)), .inl (nI n), .inl (ce_I S 7 8 0), .inl (ce_I S 7 9 0)]) (rest := [.inr (.inl (13, j))]) rfl rfl rfl rfl rfl h1 ⟨Nat.le_of_ble_eq_true rfl, Nat.le_of_ble_eq_true rfl, Nat.le_of_ble_eq_true rfl, Nat.le_of_ble_eq_true rfl⟩ ?_
    exact jg_end (fun k => rfl) ⟨j, rfl, rfl, ⟨h2.1, hK.2.tr h2.2⟩, h3, h4, h5, h6, fun e he => (h8 e he).trans (e9 e)⟩
  obtain ⟨v, S', h1, h2, h3⟩ := key
  subst h2
  exact ⟨S', h1, h3⟩
