/-! the law: the world between its calls -/
def R_law : String := "CarpetElevenLaw"
def nrm (S S1 : ce_S) : ce_S := (S1.1, (fun t => if t < 100 then S1.2.1 t else S.2.1 t), S1.2.2.1, S1.2.2.2.1, (fun t => if t < 10 then 1 else S1.2.2.2.2.1 t), S1.2.2.2.2.2)
theorem nrm_I (S S1 : ce_S) : ce_I (nrm S S1) = ce_I S1 := rfl
theorem nrm_A (S S1 : ce_S) : ce_A (nrm S S1) = ce_A S1 := rfl
theorem nrm_L (S S1 : ce_S) : ce_L (nrm S S1) = ce_L S1 := rfl
theorem nrm_Q (S S1 : ce_S) : ce_Q (nrm S S1) = ce_Q S1 := rfl
theorem nrm_R (S S1 : ce_S) {t : Nat} (h : t < 100) : ce_R (nrm S S1) t = ce_R S1 t := if_pos h
theorem nrm_R' (S S1 : ce_S) {t : Nat} (h : ¬ t < 100) : ce_R (nrm S S1) t = ce_R S t := if_neg h
theorem nrm_C (S S1 : ce_S) {t : Nat} (h : t < 10) : ce_C (nrm S S1) t = 1 := if_pos h
theorem nrm_C' (S S1 : ce_S) {t : Nat} (h : ¬ t < 10) : ce_C (nrm S S1) t = ce_C S1 t := if_neg h
theorem nrm_le {S S1 : ce_S} (h : ∀ t, t < 10 → 1 ≤ ce_C S1 t) (t : Nat) : ce_C (nrm S S1) t ≤ ce_C S1 t := by
  by_cases e : t < 10
  · rw [nrm_C S S1 e]; exact h t e
  · rw [nrm_C' S S1 e]; exact Nat.le_refl _
theorem so_lt {t : Nat} (h : ce_so t < 3) : t < 42 := by
  rcases Nat.lt_or_ge t 42 with q | q
  · exact q
  · obtain ⟨n, e⟩ : ∃ n, t = n + 42 := ⟨t - 42, by omega⟩
    subst e
    exact absurd h (show ¬ (3 < 3) by decide)
theorem so_2b {t : Nat} (h : ce_so t = 2) : 10 ≤ ce_et t := by
  have h42 := so_lt (by rw [h]; decide)
  revert h
  exact (show ∀ t, t < 42 → ce_so t = 2 → 10 ≤ ce_et t by decide) t h42
theorem fk_fst : ∀ {t k : Nat} {q : Nat × (Nat → Nat)}, ce_fk t k = .inr (.inl q) → q.1 < 10 → ∀ i, q.2 i = 0 := by
  intro t k q h
  match t, h with
  | 0, h =>
    match k, h with
    | 0, h => cases h; exact fun _ _ => rfl
    | 1, h => cases h; exact fun _ _ => rfl
    | 2, h => cases h; exact fun z => absurd z (by decide)
    | 3, h => cases h; exact fun _ _ => rfl
    | 4, h => cases h; exact fun _ _ => rfl
    | 5, h => cases h; exact fun _ _ => rfl
    | 6, h => cases h
    | 7, h => cases h
    | 8, h => cases h; exact fun z => absurd z (by decide)
    | 9, h => cases h; exact fun _ _ => rfl
    | 10, h => cases h; exact fun z => absurd z (by decide)
    | 11, h => cases h; exact fun _ _ => rfl
    | 12, h => cases h; exact fun z => absurd z (by decide)
    | _ + 13, h => cases h
  | 1, h => cases h
  | 2, h => cases h
  | 3, h => cases h
  | 4, h => cases h
  | 5, h => cases h
  | 6, h => cases h
  | 7, h =>
    match k, h with
    | 0, h => cases h
    | 1, h => cases h; exact fun _ _ => rfl
    | 2, h => cases h; exact fun _ _ => rfl
    | _ + 3, h => cases h
  | 8, h => cases h
  | 9, h => cases h
  | 10, h => cases h
  | 11, h =>
    match k, h with
    | 0, h => cases h
    | _ + 1, h => cases h
  | 12, h =>
    match k, h with
    | 0, h => cases h
    | 1, h => cases h
    | 2, h => cases h
    | 3, h => cases h
    | 4, h => cases h
    | _ + 5, h => cases h
  | 13, h =>
    match k, h with
    | 0, h => cases h; exact fun z => absurd z (by decide)
    | 1, h => cases h
    | 2, h => cases h
    | 3, h => cases h; exact fun z => absurd z (by decide)
    | _ + 4, h => cases h
  | 14, h => cases h
  | 15, h =>
    match k, h with
    | 0, h => cases h; exact fun z => absurd z (by decide)
    | _ + 1, h => cases h
  | 16, h => cases h
  | 17, h => cases h
  | 18, h => cases h
  | 19, h => cases h
  | 20, h =>
    match k, h with
    | 0, h => cases h; exact fun z => absurd z (by decide)
    | 1, h => cases h; exact fun z => absurd z (by decide)
    | 2, h => cases h; exact fun z => absurd z (by decide)
    | 3, h => cases h; exact fun z => absurd z (by decide)
    | 4, h => cases h; exact fun z => absurd z (by decide)
    | 5, h => cases h; exact fun z => absurd z (by decide)
    | 6, h => cases h; exact fun z => absurd z (by decide)
    | 7, h => cases h
    | 8, h => cases h
    | 9, h => cases h
    | 10, h => cases h
    | 11, h => cases h
    | 12, h => cases h; exact fun z => absurd z (by decide)
    | 13, h => cases h; exact fun z => absurd z (by decide)
    | 14, h => cases h; exact fun z => absurd z (by decide)
    | 15, h => cases h; exact fun z => absurd z (by decide)
    | 16, h => cases h; exact fun z => absurd z (by decide)
    | 17, h => cases h; exact fun z => absurd z (by decide)
    | 18, h => cases h
    | 19, h => cases h
    | 20, h => cases h
    | 21, h => cases h
    | 22, h => cases h
    | 23, h => cases h
    | 24, h => cases h
    | 25, h => cases h
    | 26, h => cases h
    | 27, h => cases h; exact fun z => absurd z (by decide)
    | 28, h => cases h
    | 29, h => cases h
    | 30, h => cases h
    | 31, h => cases h
    | 32, h => cases h
    | 33, h => cases h
    | 34, h => cases h
    | 35, h => cases h
    | 36, h => cases h
    | 37, h => cases h
    | 38, h => cases h
    | 39, h => cases h
    | 40, h => cases h
    | 41, h => cases h; exact fun z => absurd z (by decide)
    | 42, h => cases h; exact fun z => absurd z (by decide)
    | 43, h => cases h; exact fun z => absurd z (by decide)
    | 44, h => cases h; exact fun z => absurd z (by decide)
    | _ + 45, h => cases h
  | _ + 21, h => cases h
theorem fk_dyn : ∀ {t k t' : Nat}, ce_fk t k = .inr (.inr t') → 10 ≤ t' := by
  intro t k t' h
  match t, h with
  | 0, h =>
    match k, h with
    | 0, h => cases h
    | 1, h => cases h
    | 2, h => cases h
    | 3, h => cases h
    | 4, h => cases h
    | 5, h => cases h
    | 6, h => cases h
    | 7, h => cases h
    | 8, h => cases h
    | 9, h => cases h
    | 10, h => cases h
    | 11, h => cases h
    | 12, h => cases h
    | _ + 13, h => cases h
  | 1, h => cases h
  | 2, h => cases h
  | 3, h => cases h
  | 4, h => cases h
  | 5, h => cases h
  | 6, h => cases h
  | 7, h =>
    match k, h with
    | 0, h => cases h
    | 1, h => cases h
    | 2, h => cases h
    | _ + 3, h => cases h
  | 8, h => cases h
  | 9, h => cases h
  | 10, h => cases h
  | 11, h =>
    match k, h with
    | 0, h => cases h; decide
    | _ + 1, h => cases h
  | 12, h =>
    match k, h with
    | 0, h => cases h
    | 1, h => cases h
    | 2, h => cases h
    | 3, h => cases h
    | 4, h => cases h; decide
    | _ + 5, h => cases h
  | 13, h =>
    match k, h with
    | 0, h => cases h
    | 1, h => cases h
    | 2, h => cases h
    | 3, h => cases h
    | _ + 4, h => cases h
  | 14, h => cases h
  | 15, h =>
    match k, h with
    | 0, h => cases h
    | _ + 1, h => cases h
  | 16, h => cases h
  | 17, h => cases h
  | 18, h => cases h
  | 19, h => cases h
  | 20, h =>
    match k, h with
    | 0, h => cases h
    | 1, h => cases h
    | 2, h => cases h
    | 3, h => cases h
    | 4, h => cases h
    | 5, h => cases h
    | 6, h => cases h
    | 7, h => cases h
    | 8, h => cases h
    | 9, h => cases h
    | 10, h => cases h
    | 11, h => cases h
    | 12, h => cases h
    | 13, h => cases h
    | 14, h => cases h
    | 15, h => cases h
    | 16, h => cases h
    | 17, h => cases h
    | 18, h => cases h
    | 19, h => cases h
    | 20, h => cases h
    | 21, h => cases h
    | 22, h => cases h
    | 23, h => cases h
    | 24, h => cases h
    | 25, h => cases h
    | 26, h => cases h
    | 27, h => cases h
    | 28, h => cases h
    | 29, h => cases h
    | 30, h => cases h
    | 31, h => cases h
    | 32, h => cases h
    | 33, h => cases h
    | 34, h => cases h
    | 35, h => cases h
    | 36, h => cases h
    | 37, h => cases h
    | 38, h => cases h
    | 39, h => cases h
    | 40, h => cases h
    | 41, h => cases h
    | 42, h => cases h
    | 43, h => cases h
    | 44, h => cases h
    | _ + 45, h => cases h
  | _ + 21, h => cases h
theorem nrm_H {D : va_G} {ca : Nat → ClassId} {b0 : Nat → Prop} {ad : Nat → Nat → Nat} {S S1 : ce_S} {H : Heap} (h : ce_H D ca b0 ad S1 H) (hc : ∀ t, t < 10 → 1 ≤ ce_C S1 t) : ce_H D ca b0 ad (nrm S S1) H := by
  refine ⟨fun t i hi ht => ?_, fun t i t' i' h1 h2 h3 h4 h5 => h.2 t i t' i' (Nat.lt_of_lt_of_le h1 (nrm_le hc t)) (Nat.lt_of_lt_of_le h2 (nrm_le hc t')) h3 h4 h5⟩
  obtain ⟨g1, g2, g3⟩ := h.1 t i (Nat.lt_of_lt_of_le hi (nrm_le hc t)) ht
  have hlt : t < 100 := by have := so_lt ht; omega
  exact ⟨g1.kept rfl (fun _ => rfl) (fun k => by rw [nrm_R S S1 hlt]) (fun _ => rfl) rfl (fun _ _ => rfl), g2, g3⟩
theorem nrm_ok {S S1 : ce_S} (h : ce_okS S1) (hc : ∀ t, t < 10 → 1 ≤ ce_C S1 t) : ce_okS (nrm S S1) := by
  refine ⟨fun t k i hi ht => ?_, fun t i e x hi ht he hx => ?_⟩
  · obtain ⟨a, b⟩ := h.1 t k i (Nat.lt_of_lt_of_le hi (nrm_le hc t)) ht
    refine ⟨fun q hq => ?_, fun t' hq => ?_⟩
    · by_cases e : q.1 < 10
      · rw [nrm_C S S1 e, fk_fst hq e]; exact Nat.one_pos
      · rw [nrm_C' S S1 e]; exact a q hq
    · have hlt : t < 100 := by have := so_lt (t := t) (by rw [ht]; decide); omega
      have h10 := fk_dyn hq
      rw [nrm_C' S S1 (by omega), nrm_R S S1 hlt]
      exact b t' hq
  · have h10 := so_2b ht
    rw [nrm_C' S S1 (by omega)]
    refine h.2 t i e x (Nat.lt_of_lt_of_le hi (nrm_le hc t)) ht ?_ hx
    rw [ce_len_kept (S := S1) (S' := nrm S S1) rfl] at he
    exact he
theorem nrm_CR {w : sp_W} {S S1 : ce_S} (h : CR w S1) : CR w (nrm S S1) := by
  have r11 : ce_R (nrm S S1) 11 = ce_R S1 11 := nrm_R _ _ (by decide)
  have r12 : ce_R (nrm S S1) 12 = ce_R S1 12 := nrm_R _ _ (by decide)
  have c13 : ce_C (nrm S S1) 13 = ce_C S1 13 := nrm_C' _ _ (by decide)
  have c14 : ce_C (nrm S S1) 14 = ce_C S1 14 := nrm_C' _ _ (by decide)
  have c17 : ce_C (nrm S S1) 17 = ce_C S1 17 := nrm_C' _ _ (by decide)
  unfold CR CRn CRr CRc CRt CRp CRh CRi rc txok txt at h ⊢
  simp only [nrm_I, nrm_A, nrm_L, nrm_Q, r11, r12, c13, c14, c17]
  exact h
theorem nrm_MR {w : sp_W} {S S1 : ce_S} (h : MR w S1) : MR w (nrm S S1) := by
  unfold MR MS MX MXn MXc MXt MXp MXh MXi MXw MSr m_row kpt mr at h ⊢
  simp only [nrm_I, nrm_A, nrm_L]
  exact h
theorem nrm_fu {S S1 : ce_S} (h : kfu S) : kfu (nrm S S1) := fun t k j => by
  rw [nrm_R' S S1 (by omega)]; exact h t k j
theorem ag_le {S S1 : ce_S} {ad ad' : Nat → Nat → Nat} (h : ce_ag S ad S1 ad') (t : Nat) : ce_C S t ≤ ce_C S1 t := Nat.le_of_not_lt fun q => by
  have := (h t (ce_C S1 t) q).2
  omega
theorem nrm_ag {S S1 : ce_S} {ad ad' : Nat → Nat → Nat} (h : ce_ag S ad S1 ad') (hc : ∀ t, t < 10 → ce_C S t = 1) : ce_ag S ad (nrm S S1) ad' := fun t i hi => by
  refine ⟨(h t i hi).1, ?_⟩
  by_cases e : t < 10
  · rw [nrm_C S S1 e, ← hc t e]; exact hi
  · rw [nrm_C' S S1 e]; exact (h t i hi).2
abbrev lb (s : State) : Nat → Prop := fun q => s.heap.size ≤ q
/-- the world between the law's calls: the component's value, the reference's -/
def LW (D : va_G) (ca : Nat → ClassId) (s : State) (qx qm : Nat) (ad : Nat → Nat → Nat) (S : ce_S) (H : Heap) (locs : List Loc) (wc wm : sp_W) : Prop :=
  ce_H D ca (lb s) ad S H ∧ va_S (lb s) s.heap H locs ∧ ce_okS S ∧ kfu S ∧ (∀ t, t < 10 → ce_C S t = 1) ∧ 0 < ce_C S 20 ∧ CR wc S ∧ MR wm S ∧ ce_61 S ∧ ce_X ad (lb s) s ∧ ad 0 0 = qx ∧ ad 20 0 = qm
theorem LW_next {D : va_G} {ca : Nat → ClassId} {s : State} {qx qm : Nat} {ad ad' : Nat → Nat → Nat} {S S1 : ce_S} {H H1 : Heap} {locs locs1 : List Loc} {wc wm wc' wm' : sp_W} (h : LW D ca s qx qm ad S H locs wc wm) (k1 : ce_ag S ad S1 ad') (k2 : ce_okS S1) (k3 : ce_H D ca (lb s) ad' S1 H1) (k4 : va_S (lb s) s.heap H1 locs1) (hC : CR wc' S1) (hM : MR wm' S1) : LW D ca s qx qm ad' (nrm S S1) H1 locs1 wc' wm' := by
  obtain ⟨a1, a2, a3, a4, a5, a6, a7, a8, a9, a10, a11, a12⟩ := h
  have hc : ∀ t, t < 10 → 1 ≤ ce_C S1 t := fun t ht => by have := ag_le k1 t; rw [a5 t ht] at this; exact this
  have h61 := ce_h61 k1 a9
  refine ⟨nrm_H k3 hc, k4, nrm_ok k2 hc, nrm_fu a4, fun t ht => nrm_C S S1 ht, ?_, nrm_CR hC, nrm_MR hM, ⟨?_, ?_⟩, a10.agree (fun j hj => ⟨(k1 61 j (Nat.lt_of_lt_of_le hj a9.1)).1, (k1 62 j (Nat.lt_of_lt_of_le hj a9.2)).1⟩), ?_, ?_⟩
  · rw [nrm_C' S S1 (by decide)]; exact Nat.lt_of_lt_of_le a6 (ag_le k1 20)
  · rw [nrm_C' S S1 (by decide)]; exact h61.1
  · rw [nrm_C' S S1 (by decide)]; exact h61.2
  · rw [(k1 0 0 (by rw [a5 0 (by decide)]; exact Nat.one_pos)).1]; exact a11
  · rw [(k1 20 0 a6).1]; exact a12
section LWC
variable {p : Program} {l : Launch} {e : Env} {s : State} {m : MethodId} {below : List Frame} {meth : Method} {c : Code} {b : Nat} {H : Heap} {locs : List Loc} {cells slots pc : Nat} {Q : State → Prop} {rls : Array Slot} {rest : List Value} {D : va_G} {ca : Nat → ClassId} {qx qm : Nat} {ad : Nat → Nat → Nat} {S S1 : ce_S} {wc wm wc' wm' : sp_W} {w0 : Cond}
theorem lw_pre (hG : ce_G D ca s) (hL : LW D ca s qx qm ad S H locs wc wm) : ∀ U : State, U.heap = H → s.WarmedH U.vm → ce_Pre D ca (lb s) ad S U := fun U hU hW =>
  ⟨hG.warm hW, hL.2.2.2.2.2.2.2.2.2.1.warm hW (by rw [hU]; exact hL.2.1.1) (fun q g1 g2 => by rw [hU]; exact hL.2.1.2.1 q g1 g2), by rw [hU]; exact hL.1⟩
/-- a call of a plain method from the law -/
theorem lw_call {y : MethodName} {n d' ix p1 p2 p3 p4 t : Nat} {T : u_T} {N : Nat} {F : List ce_V → ce_S → ce_Rs} {as : List ce_V} {v : ce_V} (hx : p.tables.exec = Jvm.exec) (hb : c.code = code) (hml : c.maxLocals = 4) (hown : s.vm.findClass R_law = some m.cls) (hts : ∀ w ∈ w0 :: ce_tw, w.before #[Value.ref b] s = true) (hG : ce_G D ca s) (hL : LW D ca s qx qm ad S H locs wc wm) (hc : ce_callee l y n d' 0 0 F) (hF : F (.inr (.inl (t, 0)) :: as) S = some (some v, S1)) (has : ce_okT S as) (hn : as.length = n) (hso : ce_so t = 0) (ht : 0 < ce_C S t) (hcl : vwCl[ce_ci t 0]? = some (y.cls, T, N))
    (g1 : lw_tbl[p1]? = some (Cond.methodLink R_law ix y)) (g2 : lw_tbl[p2]? = some (Cond.instanceMethod y)) (g3 : lw_tbl[p3]? = some (Cond.selects y.cls y y)) (g4 : lw_tbl[p4]? = some (Cond.initialized y.cls)) (hd : decode code pc = .ok (.invokevirtual ix, 3)) (hD : d' ≤ 1000) (hsz : rls.size = 4) (hrest : (rest.map fun v => v.category).sum ≤ 8) (hce : cells ≤ 600000) (hsl : slots ≤ 7302250) (hC : CR wc' S1) (hM : MR wm' S1) {st0 : List Value} (hst : st0 = (as.map (ce_val ad)).reverse ++ .ref (ad t 0) :: rest)
    (kk : ∀ (ad' : Nat → Nat → Nat) (H1 : Heap) (locs1 : List Loc), LW D ca s qx qm ad' (nrm S S1) H1 locs1 wc' wm' → W p l e room_1 s m #[Value.ref b] below meth c H1 locs1 cells slots Q (F0 m (pc + 3) rls (ce_val ad' v :: rest))) : W p l e room_1 s m #[Value.ref b] below meth c H locs cells slots Q (F0 m pc rls st0) := by
  subst hst
  obtain ⟨cc', nL', rt', hctr, hcode, hnl, hm1, hm2, hlen⟩ := hc
  obtain ⟨a1, a2, a3, a4, a5, a6, a7, a8, a9, a10, a11, a12⟩ := id hL
  have hTa : ce_okT S (.inr (.inl (t, 0)) :: as) := fun v hv => by
    rcases List.mem_cons.mp hv with e | hv
    · subst e; exact ht
    · exact has v hv
  have hM2 := hctr D ca (lb s) ad S _ _ hF a3 hTa a9
  refine ce_call (va_runV (As := as.map (ce_val ad)) (b := ad t 0) (rest := rest) ⟨hx, hb, hml, hown, hts⟩ hM2 (cwV (C := y.cls) n hts (ce_gIn (ex := [.methodLink R_law ix y, .instanceMethod y, .selects y.cls y y, .initialized y.cls]) hcode (by
      intro w hw
      rcases List.mem_cons.mp hw with e | hw
      · subst e; exact ce_tw_at g1 rfl
      rcases List.mem_cons.mp hw with e | hw
      · subst e; exact ce_tw_at g2 rfl
      rcases List.mem_cons.mp hw with e | hw
      · subst e; exact ce_tw_at g3 rfl
      rcases List.mem_cons.mp hw with e | hw
      · subst e; exact ce_tw_at g4 rfl
      · cases hw)) rfl rfl rfl ⟨rfl, hm1, hm2, hlen⟩ ⟨(by show d' + 1 ≤ 2048; omega), by show 8 + (nL' + 11) + 60 * d' ≤ 84000; omega⟩) ⟨ce_blind, ce_recv hG a1 ht hso hcl, fun U hU hW => ⟨rfl, lw_pre hG hL U hU hW⟩⟩ rfl (by rw [List.length_map]; exact hn) hsz rfl (lv_room hrest) hd ⟨hce, hsl⟩) a2 (fun ad' H1 locs1 k1 k2 k3 k4 k5 => ?_)
  exact kk ad' H1 locs1 (LW_next hL k1 k2 k4 k5 hC hM)
/-- a call of a method that makes cells -/
theorem lw_callK {y : MethodName} {n d' mc ms ix p1 p2 p3 p4 t : Nat} {T : u_T} {N : Nat} {F : List ce_V → ce_S → ce_Rs} {as : List ce_V} {v : ce_V} (hx : p.tables.exec = Jvm.exec) (hb : c.code = code) (hml : c.maxLocals = 4) (hown : s.vm.findClass R_law = some m.cls) (hts : ∀ w ∈ w0 :: ce_tw, w.before #[Value.ref b] s = true) (hG : ce_GK D ca s) (hL : LW D ca s qx qm ad S H locs wc wm) (hc : ce_calleeK l y n d' mc ms F) (hF : F (.inr (.inl (t, 0)) :: as) S = some (some v, S1)) (has : ce_okT S as) (hn : as.length = n) (hso : ce_so t = 0) (ht : 0 < ce_C S t) (hcl : vwCl[ce_ci t 0]? = some (y.cls, T, N))
    (g1 : lw_tbl[p1]? = some (Cond.methodLink R_law ix y)) (g2 : lw_tbl[p2]? = some (Cond.instanceMethod y)) (g3 : lw_tbl[p3]? = some (Cond.selects y.cls y y)) (g4 : lw_tbl[p4]? = some (Cond.initialized y.cls)) (hd : decode code pc = .ok (.invokevirtual ix, 3)) (hD : d' ≤ 1000) (hsz : rls.size = 4) (hrest : (rest.map fun v => v.category).sum ≤ 8) (hce : cells + mc ≤ 600000) (hsl : slots + ms ≤ 7302250) (hmc : mc ≤ 600000) (hms : ms ≤ 7302250) (hC : CR wc' S1) (hM : MR wm' S1) (hfu : kfu S1) {st0 : List Value} (hst : st0 = (as.map (ce_val ad)).reverse ++ .ref (ad t 0) :: rest)
    (kk : ∀ (ad' : Nat → Nat → Nat) (H1 : Heap) (locs1 : List Loc), LW D ca s qx qm ad' (nrm S S1) H1 locs1 wc' wm' → W p l e room_1 s m #[Value.ref b] below meth c H1 locs1 (cells + mc) (slots + ms) Q (F0 m (pc + 3) rls (ce_val ad' v :: rest))) : W p l e room_1 s m #[Value.ref b] below meth c H locs cells slots Q (F0 m pc rls st0) := by
  subst hst
  obtain ⟨cc', nL', rt', hctr, hcode, hnl, hm1, hm2, hlen⟩ := hc
  obtain ⟨a1, a2, a3, a4, a5, a6, a7, a8, a9, a10, a11, a12⟩ := id hL
  have hTa : ce_okT S (.inr (.inl (t, 0)) :: as) := fun v hv => by
    rcases List.mem_cons.mp hv with e | hv
    · subst e; exact ht
    · exact has v hv
  have hM2 := hctr D ca (lb s) ad S _ _ hF (kokS_of (kfu_full a4) a3) hTa a9
  refine ce_callK (va_runV (As := as.map (ce_val ad)) (b := ad t 0) (rest := rest) ⟨hx, hb, hml, hown, hts⟩ hM2 (cwV (C := y.cls) n hts (ce_gIn (ex := [.methodLink R_law ix y, .instanceMethod y, .selects y.cls y y, .initialized y.cls]) hcode (by
      intro w hw
      rcases List.mem_cons.mp hw with e | hw
      · subst e; exact ce_tw_at g1 rfl
      rcases List.mem_cons.mp hw with e | hw
      · subst e; exact ce_tw_at g2 rfl
      rcases List.mem_cons.mp hw with e | hw
      · subst e; exact ce_tw_at g3 rfl
      rcases List.mem_cons.mp hw with e | hw
      · subst e; exact ce_tw_at g4 rfl
      · cases hw)) rfl rfl rfl ⟨rfl, hm1, hm2, hlen⟩ ⟨(by show d' + 1 ≤ 2048; omega), by show 8 + (nL' + 11) + 60 * d' ≤ 84000; omega⟩) ⟨ce_blindK, ce_recv hG.1 a1 ht hso hcl, fun U hU hW => ⟨rfl, hG.warm hW, (lw_pre hG.1 hL U hU hW).2.1, HK_of (kfu_full a4) (lw_pre hG.1 hL U hU hW).2.2⟩⟩ rfl (by rw [List.length_map]; exact hn) hsz rfl (lv_room hrest) hd ⟨hce, hsl⟩) a2 (fun ad' H1 locs1 k1 k2 k3 k4 k5 => ?_)
  exact kk ad' H1 locs1 (LW_next hL k1 (kokS_to (kfu_full hfu) k2) (HK_to (kfu_full hfu) k4) k5 hC hM)
end LWC
