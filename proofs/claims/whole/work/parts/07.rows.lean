/-! steps on rows, Math, instanceof -/
theorem ce_P1 {D : va_G} {cl : List vw_C} {q : Nat × va_E} {H : Heap} (h : va_at D cl q H) : va_P D cl [q] H := by
  intro k z hz
  cases k with
  | zero => cases hz; exact h
  | succ k => simp at hz
theorem ce_cat (st : List Value) : (st.map fun v => v.category).sum ≤ 2 * st.length := by
  induction st with
  | nil => simp
  | cons v r ih =>
    have : v.category ≤ 2 := by rcases lv_cat v with h | h <;> omega
    simp only [List.map_cons, List.sum_cons, List.length_cons]
    omega
theorem ce_cat8 {ad : Nat → Nat → Nat} {r : List ce_V} (h : r.length ≤ 4) : ((r.map (ce_val ad)).map fun v => v.category).sum ≤ 8 := by
  have := ce_cat (r.map (ce_val ad))
  rw [List.length_map] at this
  omega
theorem ce_H.putA {D : va_G} {ca : Nat → ClassId} {b0 : Nat → Prop} {ad : Nat → Nat → Nat} {S S' : ce_S} {t j : Nat} {H H1 : Heap} (h : ce_H D ca b0 ad S H) (hj : j < ce_C S t) (hso : ce_so t = 1) (hc : H1[ad t j]? = some (vp_cell (ca 0) (ce_len S t j, .inl (fun e => ce_A S' t j e)))) (hz : H1.size = H.size) (ho : ∀ q : Nat, q ≠ ad t j → H1[q]? = H[q]?) (hI : S'.1 = S.1) (hR : S'.2.1 = S.2.1) (hL : S'.2.2.2 = S.2.2.2) (hA : ∀ t' i', ¬ (t' = t ∧ i' = j) → ∀ e, ce_A S' t' i' e = ce_A S t' i' e) : ce_H D ca b0 ad S' H1 := by
  have hl : ∀ a b, ce_L S' a b = ce_L S a b := fun a b => by unfold ce_L; rw [hL]
  have hC : ∀ a, ce_C S' a = ce_C S a := fun a => by unfold ce_C; rw [hL]
  have hq : ∀ a b, ce_el S' a b = ce_el S a b := fun a b => by unfold ce_el ce_Q; rw [hL]
  refine h.set hj (by rw [hso]; decide) hz ho hC ⟨(fun h1 => by rw [hso] at h1; cases h1), fun _ => ?_, (fun h1 => by rw [hso] at h1; cases h1)⟩ (fun t' i' hne => ⟨fun k => by unfold ce_I; rw [hI], fun k => by unfold ce_R; rw [hR], hA t' i' hne, hl _ _, fun _ _ e => hq _ _⟩)
  rw [ce_len_kept (hl t j)]
  exact hc
def ce_kn (j : Nat) : String := match j with
  | 0 => RX3
  | 1 => RX2
  | 2 => RX8
  | 3 => RX7
  | 4 => RX0
  | _ => RX1
theorem ce_kn_ci (j : Nat) : ∃ T : u_T, vwCl[ce_ci 10 j]? = some (ce_kn j, T, 0) := by
  match j with
  | 0 => exact ⟨_, rfl⟩
  | 1 => exact ⟨_, rfl⟩
  | 2 => exact ⟨_, rfl⟩
  | 3 => exact ⟨_, rfl⟩
  | 4 => exact ⟨_, rfl⟩
  | n + 5 => exact ⟨_, rfl⟩
theorem ce_kn_in (j : Nat) : ce_kn j ∈ [RX0, RX1, RX2, RX3, RX7, RX8] := by
  match j with
  | 0 => exact List.mem_of_getElem? (i := 3) rfl
  | 1 => exact List.mem_of_getElem? (i := 2) rfl
  | 2 => exact List.mem_of_getElem? (i := 5) rfl
  | 3 => exact List.mem_of_getElem? (i := 4) rfl
  | 4 => exact List.mem_of_getElem? (i := 0) rfl
  | n + 5 => exact List.mem_of_getElem? (i := 1) rfl
def ce_isU (b : String) (j : Nat) : Int32 := if ce_kn j = b then 1 else if (ce_kn j, b) ∈ ce_castW then 1 else 0
section CERO
variable {l : Launch} {cc : ByteArray} {own : String} {nL : Nat} {rt : Option FieldType} {d MC MS : Nat} {pcs : List Nat} {i pc : Nat}
theorem ok_ild {t : Nat} (hp : pcs.getD i 0 = pc) (hp' : pcs.getD (i + 1) 0 = pc + 1) (hd : decode cc pc = .ok (.iaload, 1)) (hso : ce_so t = 1) : ce_Ok l cc own nL rt d MC MS pcs i (o_ild t) := by
  intro nn ls st S k res h hk p e s m args below meth c D ca b0 ad0 S0 ad H locs rls hC h61 hX hR hT h1 h2
  obtain ⟨hx, hb, hml, hown, ⟨w0, hts⟩, hr, hlk, hG⟩ := id hC
  unfold o_ild at h
  simp only [ce_bt] at h
  split at h
  · rename_i j q r
    by_cases hq : q.1 = t
    · rw [if_pos hq] at h
      by_cases hj : j < 0 ∨ ce_len S t q.2 ≤ j.toNatClampNeg
      · rw [if_pos hj] at h; cases h
      · rw [if_neg hj] at h
        have w := hk _ _ _ _ _ h p e s m args below meth c D ca b0 ad0 S0 ad H locs rls hC h61 hX hR (ce_okT_cons trivial (ce_okT_tl (ce_okT_tl hT))) h1 h2
        rw [hp'] at w
        rw [hp]
        have hv : q.2 < ce_C S t := by have := ce_okT_hd (ce_okT_tl hT); rw [← hq]; exact this
        obtain ⟨⟨-, ho, -⟩, -, -⟩ := hR.1.1 t q.2 hv (by rw [hso]; decide)
        have hq2 : ce_val ad (.inr (.inl q)) = .ref (ad t q.2) := by rw [← hq]; rfl
        rw [List.map_cons, List.map_cons, hq2]
        exact va_iald (D := D) (cl := vwCl) (ws := [(ad t q.2, .inl (ca 0, ce_len S t q.2, .inl (fun e => ce_A S t q.2 e)))]) hx hb hG.1 (ce_P1 (ho hso)) 0 0 rfl rfl hj hd w
    · rw [if_neg hq] at h; cases h
  · cases h
theorem ok_ist {t : Nat} (hp : pcs.getD i 0 = pc) (hp' : pcs.getD (i + 1) 0 = pc + 1) (hd : decode cc pc = .ok (.iastore, 1)) (hso : ce_so t = 1) : ce_Ok l cc own nL rt d MC MS pcs i (o_ist t) := by
  intro nn ls st S k res h hk p e s m args below meth c D ca b0 ad0 S0 ad H locs rls hC h61 hX hR hT h1 h2
  obtain ⟨hx, hb, hml, hown, ⟨w0, hts⟩, hr, hlk, hG⟩ := id hC
  unfold o_ist at h
  simp only [ce_bt] at h
  split at h
  · rename_i x j q r
    by_cases hq : q.1 = t
    · rw [if_pos hq] at h
      by_cases hj : j < 0 ∨ ce_len S t q.2 ≤ j.toNatClampNeg
      · rw [if_pos hj] at h; cases h
      · rw [if_neg hj] at h
        rw [hp]
        have hv : q.2 < ce_C S t := by have := ce_okT_hd (ce_okT_tl (ce_okT_tl hT)); rw [← hq]; exact this
        obtain ⟨⟨-, ho, -⟩, hb0, -⟩ := hR.1.1 t q.2 hv (by rw [hso]; decide)
        have hq2 : ce_val ad (.inr (.inl q)) = .ref (ad t q.2) := by rw [← hq]; rfl
        rw [List.map_cons, List.map_cons, List.map_cons, hq2]
        refine W.iast hx hb (ho hso) ((hG.1.2 0 _ rfl).1 _ (fun j => .int (ce_A S t q.2 j))) (fun q => by cases q) (by show ¬ (j < 0 ∨ (arrV _ _ _).slots.size ≤ _); rw [arrV_size]; exact hj) rfl rfl hd (fun H1 e1 e2 e3 => ?_)
        have hc : H1[ad t q.2]? = some (vp_cell (ca 0) (ce_len S t q.2, .inl (fun e => ce_A (ce_sA S t q.2 j.toNatClampNeg x) t q.2 e))) := by
          rw [e1, vp_cell_i, vp_cell_i, arrV_store]
          congr 2
          funext z
          unfold updV
          by_cases hz : z = j.toNatClampNeg
          · subst hz
            rw [if_pos rfl]
            exact congrArg Value.int (ce_u_eq S.2.2.1 t q.2 _ x).symm
          · rw [if_neg hz]
            exact congrArg Value.int (ce_u_ne S.2.2.1 x (fun y => hz y.2.2)).symm
        have w := hk _ _ _ _ _ h p e s m args below meth c D ca b0 ad0 S0 ad H1 _ rls hC h61 hX ⟨hR.1.putA hv hso hc e2 e3 rfl rfl rfl (fun t' i' hne e => ce_u_ne S.2.2.1 x (fun y => hne ⟨y.1, y.2.1⟩)), ce_S_put (lc := ⟨ad t q.2, j.toNatClampNeg⟩) hR.2.1 e2 e3 hb0 rfl, hR.2.2.1, ce_okS_sA hR.2.2.2.1, ce_okL_kept (fun _ => rfl) hR.2.2.2.2.1, ce_ag_kept (fun _ => rfl) hR.2.2.2.2.2⟩ (ce_okT_kept (fun _ => rfl) (ce_okT_tl (ce_okT_tl (ce_okT_tl hT)))) h1 h2
        rw [hp'] at w
        exact w
    · rw [if_neg hq] at h; cases h
  · cases h
theorem ok_alen {t : Nat} (hp : pcs.getD i 0 = pc) (hp' : pcs.getD (i + 1) 0 = pc + 1) (hd : decode cc pc = .ok (.arraylength, 1)) (hso : ce_so t = 1 ∨ ce_so t = 2 ∧ ce_ac t < 6) : ce_Ok l cc own nL rt d MC MS pcs i (o_alen t) := by
  intro nn ls st S k res h hk p e s m args below meth c D ca b0 ad0 S0 ad H locs rls hC h61 hX hR hT h1 h2
  obtain ⟨hx, hb, hml, hown, ⟨w0, hts⟩, hr, hlk, hG⟩ := id hC
  unfold o_alen at h
  simp only [ce_bt] at h
  split at h
  · rename_i q r
    by_cases hq : q.1 = t
    · rw [if_pos hq] at h
      have w := hk _ _ _ _ _ h p e s m args below meth c D ca b0 ad0 S0 ad H locs rls hC h61 hX hR (ce_okT_cons trivial (ce_okT_tl hT)) h1 h2
      rw [hp'] at w
      rw [hp]
      have hv : q.2 < ce_C S t := by have := ce_okT_hd hT; rw [← hq]; exact this
      have hq2 : ce_val ad (.inr (.inl q)) = .ref (ad t q.2) := by rw [← hq]; rfl
      rw [List.map_cons, hq2]
      rcases hso with hso | ⟨hso, hac⟩
      · obtain ⟨⟨-, ho, -⟩, -, -⟩ := hR.1.1 t q.2 hv (by rw [hso]; decide)
        exact va_alen (D := D) (cl := vwCl) (ws := [(ad t q.2, .inl (ca 0, ce_len S t q.2, .inl (fun e => ce_A S t q.2 e)))]) hx hb hG.1 (ce_P1 (ho hso)) 0 0 rfl rfl rfl hd w
      · obtain ⟨⟨-, -, ho⟩, -, -⟩ := hR.1.1 t q.2 hv (by rw [hso]; decide)
        have hty : ∃ ty, (ce_tys ca)[ce_ac t]? = some (ca (ce_ac t), ty) := by
          generalize ce_ac t = z at hac
          match z, hac with
          | 0, _ => exact ⟨_, rfl⟩
          | 1, _ => exact ⟨_, rfl⟩
          | 2, _ => exact ⟨_, rfl⟩
          | 3, _ => exact ⟨_, rfl⟩
          | 4, _ => exact ⟨_, rfl⟩
          | 5, _ => exact ⟨_, rfl⟩
          | n + 6, h => omega
        obtain ⟨ty, hty⟩ := hty
        exact va_alen (D := D) (cl := vwCl) (ws := [(ad t q.2, .inl (ca (ce_ac t), ce_len S t q.2, .inr (.inr (.inr (.inr (fun e => (ce_el S t e).map (ad (ce_et t))))))))]) hx hb hG.1 (ce_P1 (ho hso)) 0 (ce_ac t) rfl hty rfl hd w
    · rw [if_neg hq] at h; cases h
  · cases h
theorem ok_ald {t t' : Nat} {g : Nat → Nat} {ty : FieldType} (hp : pcs.getD i 0 = pc) (hp' : pcs.getD (i + 1) 0 = pc + 1) (hd : decode cc pc = .ok (.aaload, 1)) (hso : ce_so t = 2) (heg : ce_eg t = some g) (het : ce_et t = t') (hty : ∀ ca : Nat → ClassId, (ce_tys ca)[ce_ac t]? = some (ca (ce_ac t), ty)) (href : ty.isReference = true) : ce_Ok l cc own nL rt d MC MS pcs i (o_ald t t' g) := by
  intro nn ls st S k res h hk p e s m args below meth c D ca b0 ad0 S0 ad H locs rls hC h61 hX hR hT h1 h2
  obtain ⟨hx, hb, hml, hown, ⟨w0, hts⟩, hr, hlk, hG⟩ := id hC
  unfold o_ald at h
  simp only [ce_bt] at h
  split at h
  · rename_i j q r
    by_cases hq : q.1 = t
    · rw [if_pos hq] at h
      by_cases hj : j < 0 ∨ ce_len S t q.2 ≤ j.toNatClampNeg
      · rw [if_pos hj] at h; cases h
      · rw [if_neg hj] at h
        have hv : q.2 < ce_C S t := by have := ce_okT_hd (ce_okT_tl hT); rw [← hq]; exact this
        have hlt : j.toNatClampNeg < ce_len S t q.2 := Nat.not_le.mp fun q => hj (Or.inr q)
        have hel : ce_el S t j.toNatClampNeg = some (g j.toNatClampNeg) := by unfold ce_el; rw [heg]
        have w := hk _ _ _ _ _ h p e s m args below meth c D ca b0 ad0 S0 ad H locs rls hC h61 hX hR (ce_okT_cons (by show _ < ce_C S t'; rw [← het]; exact hR.2.2.2.1.2 t q.2 _ _ hv hso hlt hel) (ce_okT_tl (ce_okT_tl hT))) h1 h2
        rw [hp'] at w
        rw [hp]
        obtain ⟨⟨-, -, ho⟩, -, -⟩ := hR.1.1 t q.2 hv (by rw [hso]; decide)
        have hq2 : ce_val ad (.inr (.inl q)) = .ref (ad t q.2) := by rw [← hq]; rfl
        rw [List.map_cons, List.map_cons, hq2]
        exact W.aald (v := .ref (ad t' (g j.toNatClampNeg))) (ty := ty) hx hb (ho hso) ((hG.1.2 (ce_ac t) _ (hty ca)).1 _ (fun e => va_rf ((ce_el S t e).map (ad (ce_et t))))) href (fun q => by cases q) (by show ¬ (j < 0 ∨ (arrV _ _ _).slots.size ≤ _); rw [arrV_size]; exact hj) (by show (arrV _ _ _).slots[_]? = _; rw [arrV_read _ _ hlt]; show some (va_rf (Option.map (ad (ce_et t)) (ce_el S t j.toNatClampNeg))) = _; rw [hel, het]; rfl) rfl rfl hd w
    · rw [if_neg hq] at h; cases h
  · cases h
theorem ok_aldQ (hp : pcs.getD i 0 = pc) (hp' : pcs.getD (i + 1) 0 = pc + 1) (hd : decode cc pc = .ok (.aaload, 1)) : ce_Ok l cc own nL rt d MC MS pcs i o_aldQ := by
  intro nn ls st S k res h hk p e s m args below meth c D ca b0 ad0 S0 ad H locs rls hC h61 hX hR hT h1 h2
  obtain ⟨hx, hb, hml, hown, ⟨w0, hts⟩, hr, hlk, hG⟩ := id hC
  unfold o_aldQ at h
  simp only [ce_bt] at h
  split at h
  · rename_i j q r
    by_cases hq : q.1 = 5
    · rw [if_pos hq] at h
      by_cases hj : j < 0 ∨ 6 ≤ j.toNatClampNeg
      · rw [if_pos hj] at h; cases h
      · rw [if_neg hj] at h
        cases hQ : ce_Q S j.toNatClampNeg with
        | none => rw [hQ] at h; cases h
        | some x =>
          rw [hQ] at h
          have hv : q.2 < ce_C S 5 := by have := ce_okT_hd (ce_okT_tl hT); rw [← hq]; exact this
          have hlt : j.toNatClampNeg < ce_len S 5 q.2 := Nat.not_le.mp fun q => hj (Or.inr q)
          have hel : ce_el S 5 j.toNatClampNeg = some x := hQ
          have w := hk _ _ _ _ _ h p e s m args below meth c D ca b0 ad0 S0 ad H locs rls hC h61 hX hR (ce_okT_cons (hR.2.2.2.1.2 5 q.2 _ _ hv rfl hlt hel) (ce_okT_tl (ce_okT_tl hT))) h1 h2
          rw [hp'] at w
          rw [hp]
          obtain ⟨⟨-, -, ho⟩, -, -⟩ := hR.1.1 5 q.2 hv (by decide)
          have hq2 : ce_val ad (.inr (.inl q)) = .ref (ad 5 q.2) := by rw [← hq]; rfl
          rw [List.map_cons, List.map_cons, hq2]
          exact W.aald (v := .ref (ad 13 x)) (ty := .object RX10) hx hb (ho rfl) ((hG.1.2 3 _ rfl).1 _ (fun e => va_rf ((ce_el S 5 e).map (ad (ce_et 5))))) rfl (fun q => by cases q) (by show ¬ (j < 0 ∨ (arrV _ _ _).slots.size ≤ _); rw [arrV_size]; exact hj) (by show (arrV _ _ _).slots[_]? = _; rw [arrV_read _ _ hlt]; show some (va_rf (Option.map (ad (ce_et 5)) (ce_el S 5 j.toNatClampNeg))) = _; rw [hel]; rfl) rfl rfl hd w
    · rw [if_neg hq] at h; cases h
  · cases h
theorem ok_mmax {ix p1 p2 p3 p4 : Nat} (hp : pcs.getD i 0 = pc) (hp' : pcs.getD (i + 1) 0 = pc + 3) (hd : decode cc pc = .ok (.invokestatic ix, 3)) (hD : 1 ≤ d) (g1 : lw_tbl[p1]? = some (Cond.methodLink own ix Lib.Math.max.name)) (g2 : lw_tbl[p2]? = some (Cond.static Lib.Math.max.name)) (g3 : lw_tbl[p3]? = some (Cond.initialized "java/lang/Math")) (g4 : lw_tbl[p4]? = some (Cond.code Lib.Math.max.name Lib.Math.max.code 2 (some .int))) : ce_Ok l cc own nL rt d MC MS pcs i o_mmax := by
  intro nn ls st S k res h hk p e s m args below meth c D ca b0 ad0 S0 ad H locs rls hC h61 hX hR hT h1 h2
  obtain ⟨hx, hb, hml, hown, ⟨w0, hts⟩, hr, hlk, hG⟩ := id hC
  unfold o_mmax at h
  simp only [ce_bl] at h
  split at h
  · rename_i y x r
    by_cases hl : r.length ≤ 4
    · rw [if_pos hl] at h
      have w := hk _ _ _ _ _ h p e s m args below meth c D ca b0 ad0 S0 ad H locs rls hC h61 hX hR (ce_okT_cons trivial (ce_okT_tl (ce_okT_tl hT))) h1 h2
      rw [hp'] at w
      rw [hp]
      have h8 := ce_cat8 (ad := ad) hl
      exact va_mmax hx hb (hml.trans hR.2.2.1.1.symm) hown (ce_wIn hts g1 rfl) (ce_wIn hts g2 rfl) (ce_wIn hts g3 rfl) (ce_wIn hts g4 rfl) hD (by show _ ≤ 60 * d; omega) h1 h2 hd w
    · rw [if_neg hl] at h; cases h
  · cases h
theorem ok_mmin {ix p1 p2 p3 p4 : Nat} (hp : pcs.getD i 0 = pc) (hp' : pcs.getD (i + 1) 0 = pc + 3) (hd : decode cc pc = .ok (.invokestatic ix, 3)) (hD : 1 ≤ d) (g1 : lw_tbl[p1]? = some (Cond.methodLink own ix Lib.Math.min.name)) (g2 : lw_tbl[p2]? = some (Cond.static Lib.Math.min.name)) (g3 : lw_tbl[p3]? = some (Cond.initialized "java/lang/Math")) (g4 : lw_tbl[p4]? = some (Cond.code Lib.Math.min.name Lib.Math.min.code 2 (some .int))) : ce_Ok l cc own nL rt d MC MS pcs i o_mmin := by
  intro nn ls st S k res h hk p e s m args below meth c D ca b0 ad0 S0 ad H locs rls hC h61 hX hR hT h1 h2
  obtain ⟨hx, hb, hml, hown, ⟨w0, hts⟩, hr, hlk, hG⟩ := id hC
  unfold o_mmin at h
  simp only [ce_bl] at h
  split at h
  · rename_i y x r
    by_cases hl : r.length ≤ 4
    · rw [if_pos hl] at h
      have w := hk _ _ _ _ _ h p e s m args below meth c D ca b0 ad0 S0 ad H locs rls hC h61 hX hR (ce_okT_cons trivial (ce_okT_tl (ce_okT_tl hT))) h1 h2
      rw [hp'] at w
      rw [hp]
      have h8 := ce_cat8 (ad := ad) hl
      exact va_mmin hx hb (hml.trans hR.2.2.1.1.symm) hown (ce_wIn hts g1 rfl) (ce_wIn hts g2 rfl) (ce_wIn hts g3 rfl) (ce_wIn hts g4 rfl) hD (by show _ ≤ 60 * d; omega) h1 h2 hd w
    · rw [if_neg hl] at h; cases h
  · cases h
theorem ok_inst {ix wp : Nat} {nm : String} {f : Nat → Int32} (hp : pcs.getD i 0 = pc) (hp' : pcs.getD (i + 1) 0 = pc + 3) (hd : decode cc pc = .ok (.instanceof ix, 3)) (hnm : nm ∈ [RX2, RX8, RX7, RX0, RX1]) (hf : ∀ j, f j = ce_isU nm j) (hw : lw_tbl[wp]? = some (Cond.classLink own ix nm)) : ce_Ok l cc own nL rt d MC MS pcs i (o_inst f) := by
  intro nn ls st S k res h hk p e s m args below meth c D ca b0 ad0 S0 ad H locs rls hC h61 hX hR hT h1 h2
  obtain ⟨hx, hb, hml, hown, ⟨w0, hts⟩, hr, hlk, hG⟩ := id hC
  unfold o_inst at h
  simp only [ce_bt] at h
  split at h
  · rename_i q r
    by_cases hq : q.1 = 10
    · rw [if_pos hq] at h
      have w := hk _ _ _ _ _ h p e s m args below meth c D ca b0 ad0 S0 ad H locs rls hC h61 hX hR (ce_okT_cons trivial (ce_okT_tl hT)) h1 h2
      rw [hp', hf] at w
      rw [hp]
      have hv : q.2 < ce_C S 10 := by have := ce_okT_hd hT; rw [← hq]; exact this
      obtain ⟨⟨ho, -, -⟩, -, -⟩ := hR.1.1 10 q.2 hv (by decide)
      obtain ⟨r', hr1, cell, c1, c2, c3, c4⟩ := ho rfl
      obtain ⟨T, hT2⟩ := ce_kn_ci q.2
      have hcls := (hG.1.1 _ _ hT2).2
      have hrc : ∃ cell : Cell, H[ad 10 q.2]? = some cell ∧ cell.vm.isStatics = false ∧ s.vm.findClass (ce_kn q.2) = some cell.cls := ⟨cell, c1, by rw [c3]; rfl, by rw [c2]; exact hcls.1⟩
      have hq2 : ce_val ad (.inr (.inl q)) = .ref (ad 10 q.2) := by rw [← hq]; rfl
      rw [List.map_cons, hq2]
      unfold ce_isU at w
      by_cases e1 : ce_kn q.2 = nm
      · rw [if_pos e1] at w
        exact va_instE hx hb hown (ce_wIn hts hw rfl) (by rw [← e1]; exact hrc) hd w
      · rw [if_neg e1] at w
        by_cases e2 : (ce_kn q.2, nm) ∈ ce_castW
        · rw [if_pos e2] at w
          exact va_instY hx hb hown (ce_wIn hts hw rfl) (hG.2.2.1 _ e2) hrc hd w
        · rw [if_neg e2] at w
          rcases hG.2.2.2 _ (ce_kn_in q.2) _ hnm with e3 | e3 | e3
          · exact absurd e3 e1
          · exact absurd e3 e2
          · exact va_instNo hx hb hown (ce_wIn hts hw rfl) e3 hrc hd w
    · rw [if_neg hq] at h; cases h
  · cases h
end CERO
