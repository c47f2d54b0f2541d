/-! steps on the heap -/
theorem ce_ag.refl {S : ce_S} {ad : Nat → Nat → Nat} : ce_ag S ad S ad := fun _ _ h => ⟨rfl, h⟩
theorem ce_uws {C : String} {T : u_T} {N : Nat} (ps : List Nat) (h : (List.range N).all (fun k => decide (lw_tbl[ps.getD k 0]? = some (u_lay C T k)) && goodWord (u_lay C T k)) = true) : ∀ w ∈ u_ws C T N, w ∈ ce_tw := by
  intro w hw
  obtain ⟨k, hk, rfl⟩ := List.mem_map.mp hw
  have := List.all_eq_true.mp h k hk
  simp only [Bool.and_eq_true, decide_eq_true_eq] at this
  exact ce_tw_in (List.mem_of_getElem? this.1) this.2
theorem ce_len_kept {S S' : ce_S} {t i : Nat} (h : ce_L S' t i = ce_L S t i) : ce_len S' t i = ce_len S t i := by
  unfold ce_len
  cases ce_sl t <;> simp [h]
theorem ce_okV_kept {S S' : ce_S} (h : ∀ t, ce_C S' t = ce_C S t) {v : ce_V} (hv : ce_okV S v) : ce_okV S' v := by
  unfold ce_okV at hv ⊢
  split at hv
  · rw [h]; exact hv
  · trivial
theorem ce_okT_kept {S S' : ce_S} (h : ∀ t, ce_C S' t = ce_C S t) {st : List ce_V} (hv : ce_okT S st) : ce_okT S' st := fun v hq => ce_okV_kept h (hv v hq)
theorem ce_okL_kept {S S' : ce_S} (h : ∀ t, ce_C S' t = ce_C S t) {ls : List (Option ce_V)} (hv : ce_okL S ls) : ce_okL S' ls := fun j v hq => ce_okV_kept h (hv j v hq)
theorem ce_ag_kept {S0 S S' : ce_S} {ad0 ad : Nat → Nat → Nat} (h : ∀ t, ce_C S' t = ce_C S t) (hv : ce_ag S0 ad0 S ad) : ce_ag S0 ad0 S' ad := fun t i q => ⟨(hv t i q).1, by rw [h]; exact (hv t i q).2⟩
section CEHO
variable {l : Launch} {cc : ByteArray} {own : String} {nL : Nat} {rt : Option FieldType} {d MC MS : Nat} {pcs : List Nat} {i pc : Nat}
theorem ok_getI {t f ci ix wp N : Nat} {C : String} {T : u_T} (hp : pcs.getD i 0 = pc) (hp' : pcs.getD (i + 1) 0 = pc + 3) (hd : decode cc pc = .ok (.getfield ix, 3)) (hso : ce_so t = 0) (hci : ∀ j, ce_ci t j = ci) (hc : vwCl[ci]? = some (C, T, N)) (hcw : ∀ w ∈ u_ws C T N, w ∈ ce_tw) (hf : f < N) (hfk : ce_fk t f = .inl ()) (hw : lw_tbl[wp]? = some (Cond.fieldLink own ix (T f).1 (T f).2.1 (T f).2.2.1)) : ce_Ok l cc own nL rt d MC MS pcs i (o_getI t f) := by
  intro nn ls st S k res h hk p e s m args below meth c D ca b0 ad0 S0 ad H locs rls hC h61 hX hR hT h1 h2
  obtain ⟨hx, hb, hml, hown, ⟨w0, hts⟩, hr, hlk, hG⟩ := id hC
  unfold o_getI at h
  simp only [ce_bt] at h
  split at h
  · rename_i q r
    by_cases hq : q.1 = t
    · rw [if_pos hq] at h
      have w := hk _ _ _ _ _ h p e s m args below meth c D ca b0 ad0 S0 ad H locs rls hC h61 hX hR (ce_okT_cons trivial (ce_okT_tl hT)) h1 h2
      rw [hp'] at w
      rw [hp]
      have hv : q.2 < ce_C S t := by have := ce_okT_hd hT; rw [← hq]; exact this
      obtain ⟨⟨ho, -, -⟩, -, -⟩ := hR.1.1 t q.2 hv (by rw [hso]; decide)
      obtain ⟨r', hr1, hr2⟩ := ho hso
      rw [hci, hc] at hr1
      cases hr1
      rw [hci] at hr2
      have hq2 : ce_val ad (.inr (.inl q)) = .ref (ad t q.2) := by rw [← hq]; rfl
      rw [List.map_cons, hq2]
      exact ce_get hx hb hts (fun w hw => List.mem_cons_of_mem _ (hcw w hw)) hown hG.1 hr2 hc f hf (ce_wIn hts hw rfl) (by show ce_fv ad S t f q.2 = _; unfold ce_fv; rw [hfk]; rfl) hd w
    · rw [if_neg hq] at h; cases h
  · cases h
theorem ok_getS {t f ci ix wp N t' : Nat} {g : Nat → Nat} {C : String} {T : u_T} (hp : pcs.getD i 0 = pc) (hp' : pcs.getD (i + 1) 0 = pc + 3) (hd : decode cc pc = .ok (.getfield ix, 3)) (hso : ce_so t = 0) (hci : ∀ j, ce_ci t j = ci) (hc : vwCl[ci]? = some (C, T, N)) (hcw : ∀ w ∈ u_ws C T N, w ∈ ce_tw) (hf : f < N) (hfk : ce_fk t f = .inr (.inl (t', g))) (hw : lw_tbl[wp]? = some (Cond.fieldLink own ix (T f).1 (T f).2.1 (T f).2.2.1)) : ce_Ok l cc own nL rt d MC MS pcs i (o_getS t t' g) := by
  intro nn ls st S k res h hk p e s m args below meth c D ca b0 ad0 S0 ad H locs rls hC h61 hX hR hT h1 h2
  obtain ⟨hx, hb, hml, hown, ⟨w0, hts⟩, hr, hlk, hG⟩ := id hC
  unfold o_getS at h
  simp only [ce_bt] at h
  split at h
  · rename_i q r
    by_cases hq : q.1 = t
    · rw [if_pos hq] at h
      have hv : q.2 < ce_C S t := by have := ce_okT_hd hT; rw [← hq]; exact this
      have w := hk _ _ _ _ _ h p e s m args below meth c D ca b0 ad0 S0 ad H locs rls hC h61 hX hR (ce_okT_cons ((hR.2.2.2.1.1 t f q.2 hv hso).1 _ hfk) (ce_okT_tl hT)) h1 h2
      rw [hp'] at w
      rw [hp]
      obtain ⟨⟨ho, -, -⟩, -, -⟩ := hR.1.1 t q.2 hv (by rw [hso]; decide)
      obtain ⟨r', hr1, hr2⟩ := ho hso
      rw [hci, hc] at hr1
      cases hr1
      rw [hci] at hr2
      have hq2 : ce_val ad (.inr (.inl q)) = .ref (ad t q.2) := by rw [← hq]; rfl
      rw [List.map_cons, hq2]
      exact ce_get hx hb hts (fun w hw => List.mem_cons_of_mem _ (hcw w hw)) hown hG.1 hr2 hc f hf (ce_wIn hts hw rfl) (by show ce_fv ad S t f q.2 = _; unfold ce_fv; rw [hfk]; rfl) hd w
    · rw [if_neg hq] at h; cases h
  · cases h
theorem ok_getM {t f ci ix wp N t' : Nat} {C : String} {T : u_T} (hp : pcs.getD i 0 = pc) (hp' : pcs.getD (i + 1) 0 = pc + 3) (hd : decode cc pc = .ok (.getfield ix, 3)) (hso : ce_so t = 0) (hci : ∀ j, ce_ci t j = ci) (hc : vwCl[ci]? = some (C, T, N)) (hcw : ∀ w ∈ u_ws C T N, w ∈ ce_tw) (hf : f < N) (hfk : ce_fk t f = .inr (.inr t')) (hw : lw_tbl[wp]? = some (Cond.fieldLink own ix (T f).1 (T f).2.1 (T f).2.2.1)) : ce_Ok l cc own nL rt d MC MS pcs i (o_getM t f t') := by
  intro nn ls st S k res h hk p e s m args below meth c D ca b0 ad0 S0 ad H locs rls hC h61 hX hR hT h1 h2
  obtain ⟨hx, hb, hml, hown, ⟨w0, hts⟩, hr, hlk, hG⟩ := id hC
  unfold o_getM at h
  simp only [ce_bt] at h
  split at h
  · rename_i q r
    by_cases hq : q.1 = t
    · rw [if_pos hq] at h
      have hv : q.2 < ce_C S t := by have := ce_okT_hd hT; rw [← hq]; exact this
      have w := hk _ _ _ _ _ h p e s m args below meth c D ca b0 ad0 S0 ad H locs rls hC h61 hX hR (ce_okT_cons ((hR.2.2.2.1.1 t f q.2 hv hso).2 _ hfk) (ce_okT_tl hT)) h1 h2
      rw [hp'] at w
      rw [hp]
      obtain ⟨⟨ho, -, -⟩, -, -⟩ := hR.1.1 t q.2 hv (by rw [hso]; decide)
      obtain ⟨r', hr1, hr2⟩ := ho hso
      rw [hci, hc] at hr1
      cases hr1
      rw [hci] at hr2
      have hq2 : ce_val ad (.inr (.inl q)) = .ref (ad t q.2) := by rw [← hq]; rfl
      rw [List.map_cons, hq2]
      exact ce_get hx hb hts (fun w hw => List.mem_cons_of_mem _ (hcw w hw)) hown hG.1 hr2 hc f hf (ce_wIn hts hw rfl) (by show ce_fv ad S t f q.2 = _; unfold ce_fv; rw [hfk]; rfl) hd w
    · rw [if_neg hq] at h; cases h
  · cases h
/-- behind a write of an int field -/
theorem ce_H.putI {D : va_G} {ca : Nat → ClassId} {b0 : Nat → Prop} {ad : Nat → Nat → Nat} {S : ce_S} {t f j : Nat} {x : Int32} {H H1 : Heap} {r : vw_C} (h : ce_H D ca b0 ad S H) (hj : j < ce_C S t) (hso : ce_so t = 0) (hfk : ce_fk t f = .inl ()) (hr : vwCl[ce_ci t j]? = some r) (hO : t_OB (ad t j) (D.1 (ce_ci t j)) r.2.2 (D.2 (ce_ci t j)) H1 (updV (fun k => ce_fv ad S t k j) f (.int x))) (hz : H1.size = H.size) (ho : ∀ q : Nat, q ≠ ad t j → H1[q]? = H[q]?) : ce_H D ca b0 ad (ce_sI S t f j x) H1 := by
  refine h.set hj (by rw [hso]; decide) hz ho (fun _ => rfl) ⟨fun _ => ⟨r, hr, hO.to (fun k _ => ?_)⟩, (fun h1 => by rw [hso] at h1; cases h1), (fun h1 => by rw [hso] at h1; cases h1)⟩ (fun t' i' hne => ⟨fun k => ?_, fun _ => rfl, fun _ => rfl, rfl, fun _ _ _ => rfl⟩)
  · unfold updV
    by_cases hk : k = f
    · subst hk
      rw [if_pos rfl]
      unfold ce_fv
      rw [hfk]
      exact congrArg Value.int (ce_u_eq S.1 t k j x).symm
    · rw [if_neg hk]
      show ce_fv ad S t k j = ce_fv ad _ t k j
      unfold ce_fv
      cases ce_fk t k with
      | inl u => exact congrArg Value.int (ce_u_ne S.1 x (fun q => hk q.2.1)).symm
      | inr u => cases u <;> rfl
  · exact ce_u_ne S.1 x (fun q => hne ⟨q.1, q.2.2⟩)
theorem ce_H.putR {D : va_G} {ca : Nat → ClassId} {b0 : Nat → Prop} {ad : Nat → Nat → Nat} {S : ce_S} {t f j x t' : Nat} {H H1 : Heap} {r : vw_C} (h : ce_H D ca b0 ad S H) (hj : j < ce_C S t) (hso : ce_so t = 0) (hfk : ce_fk t f = .inr (.inr t')) (hr : vwCl[ce_ci t j]? = some r) (hO : t_OB (ad t j) (D.1 (ce_ci t j)) r.2.2 (D.2 (ce_ci t j)) H1 (updV (fun k => ce_fv ad S t k j) f (.ref (ad t' x)))) (hz : H1.size = H.size) (ho : ∀ q : Nat, q ≠ ad t j → H1[q]? = H[q]?) : ce_H D ca b0 ad (ce_sR S t f j x) H1 := by
  refine h.set hj (by rw [hso]; decide) hz ho (fun _ => rfl) ⟨fun _ => ⟨r, hr, hO.to (fun k _ => ?_)⟩, (fun h1 => by rw [hso] at h1; cases h1), (fun h1 => by rw [hso] at h1; cases h1)⟩ (fun t'' i' hne => ⟨fun _ => rfl, fun k => ?_, fun _ => rfl, rfl, fun _ _ _ => rfl⟩)
  · unfold updV
    by_cases hk : k = f
    · subst hk
      rw [if_pos rfl]
      unfold ce_fv
      rw [hfk]
      exact congrArg (fun z => Value.ref (ad t' z)) (ce_u_eq S.2.1 t k j x).symm
    · rw [if_neg hk]
      show ce_fv ad S t k j = ce_fv ad _ t k j
      unfold ce_fv
      cases ce_fk t k with
      | inl u => rfl
      | inr u => cases u with
        | inl u => rfl
        | inr u => exact congrArg (fun z => Value.ref (ad u z)) (ce_u_ne S.2.1 x (fun q => hk q.2.1)).symm
  · exact ce_u_ne S.2.1 x (fun q => hne ⟨q.1, q.2.2⟩)
theorem ce_S_put {b0 : Nat → Prop} {H0 H H1 : Heap} {locs : List Loc} {lc : Loc} {a : Nat} (h : va_S (fun q => b0 q) H0 H locs) (hz : H1.size = H.size) (ho : ∀ q : Nat, q ≠ a → H1[q]? = H[q]?) (ha : b0 a) (hl : lc.base = a) : va_S (fun q => b0 q) H0 H1 (locs ++ [lc]) := by
  refine ⟨by rw [hz]; exact h.1, fun q g1 g2 => ?_, fun q hq => ?_⟩
  · rw [ho q (fun e => g2 (by rw [e]; exact ha))]
    exact h.2.1 q g1 g2
  · rcases List.mem_append.mp hq with g | g
    · exact h.2.2 q g
    · rw [List.mem_singleton.mp g]
      show b0 lc.base
      rw [hl]; exact ha
theorem ce_okS_sI {S : ce_S} {t f j : Nat} {x : Int32} (h : ce_okS S) : ce_okS (ce_sI S t f j x) := h
theorem ce_okS_sA {S : ce_S} {t f j : Nat} {x : Int32} (h : ce_okS S) : ce_okS (ce_sA S t f j x) := h
theorem ce_okS_sR {S : ce_S} {t f j x t' : Nat} (h : ce_okS S) (hfk : ce_fk t f = .inr (.inr t')) (hx : x < ce_C S t') : ce_okS (ce_sR S t f j x) := by
  refine ⟨fun a k b hb hs => ⟨fun q hq => (h.1 a k b hb hs).1 q hq, fun a' hq => ?_⟩, h.2⟩
  show ce_u S.2.1 t f j x a k b < _
  by_cases e : a = t ∧ k = f ∧ b = j
  · obtain ⟨rfl, rfl, rfl⟩ := e
    rw [ce_u_eq]
    cases hfk.symm.trans hq
    exact hx
  · rw [ce_u_ne _ _ e]
    exact (h.1 a k b hb hs).2 a' hq
theorem ok_putI {t f ci ix wp N : Nat} {C : String} {T : u_T} {ty : Nat → FieldType} (hp : pcs.getD i 0 = pc) (hp' : pcs.getD (i + 1) 0 = pc + 3) (hd : decode cc pc = .ok (.putfield ix, 3)) (hso : ce_so t = 0) (hci : ∀ j, ce_ci t j = ci) (hc : vwCl[ci]? = some (C, T, N)) (hcw : ∀ w ∈ u_ws C T N, w ∈ ce_tw) (hty : ∀ k, k < N → parseFieldDescriptor (T k).2.2.1 = some (ty k)) (hnm : ∀ a, a < N → ∀ b, b < N → a ≠ b → (T a).2.1 ≠ (T b).2.1) (hf : f < N) (hfk : ce_fk t f = .inl ()) (hfin : (T f).2.2.2 = false) (hint : ty f = .int) (hw : lw_tbl[wp]? = some (Cond.fieldLink own ix (T f).1 (T f).2.1 (T f).2.2.1)) : ce_Ok l cc own nL rt d MC MS pcs i (o_putI t f) := by
  intro nn ls st S k res h hk p e s m args below meth c D ca b0 ad0 S0 ad H locs rls hC h61 hX hR hT h1 h2
  obtain ⟨hx, hb, hml, hown, ⟨w0, hts⟩, hr, hlk, hG⟩ := id hC
  unfold o_putI at h
  simp only [ce_bt] at h
  split at h
  · rename_i x q r
    by_cases hq : q.1 = t
    · rw [if_pos hq] at h
      have hv : q.2 < ce_C S t := by have := ce_okT_hd (ce_okT_tl hT); rw [← hq]; exact this
      rw [hp]
      obtain ⟨⟨ho, -, -⟩, hb0, -⟩ := hR.1.1 t q.2 hv (by rw [hso]; decide)
      obtain ⟨r', hr1, hr2⟩ := ho hso
      have hr3 := hr1
      rw [hci, hc] at hr3
      cases hr3
      have hq2 : ce_val ad (.inr (.inl q)) = .ref (ad t q.2) := by rw [← hq]; rfl
      rw [List.map_cons, List.map_cons, hq2]
      refine ce_put hx hb hts (fun w hw => List.mem_cons_of_mem _ (hcw w hw)) ty hty hnm hown hG.1 hr2 hr1 f hf (ce_wIn hts hw rfl) hfin (v := .int x) (by rw [hint]; rfl) (by rw [hint]; rfl) hd (fun H1 lc hl hO hz hoq => ?_)
      have w := hk _ _ _ _ _ h p e s m args below meth c D ca b0 ad0 S0 ad H1 (locs ++ [lc]) rls hC h61 hX ⟨hR.1.putI hv hso hfk hr1 hO hz hoq, ce_S_put hR.2.1 hz hoq hb0 hl, hR.2.2.1, ce_okS_sI hR.2.2.2.1, ce_okL_kept (fun _ => rfl) hR.2.2.2.2.1, ce_ag_kept (fun _ => rfl) hR.2.2.2.2.2⟩ (ce_okT_kept (fun _ => rfl) (ce_okT_tl (ce_okT_tl hT))) h1 h2
      rw [hp'] at w
      exact w
    · rw [if_neg hq] at h; cases h
  · cases h
theorem ok_putZ {t f ci ix wp N : Nat} {C : String} {T : u_T} {ty : Nat → FieldType} (hp : pcs.getD i 0 = pc) (hp' : pcs.getD (i + 1) 0 = pc + 3) (hd : decode cc pc = .ok (.putfield ix, 3)) (hso : ce_so t = 0) (hci : ∀ j, ce_ci t j = ci) (hc : vwCl[ci]? = some (C, T, N)) (hcw : ∀ w ∈ u_ws C T N, w ∈ ce_tw) (hty : ∀ k, k < N → parseFieldDescriptor (T k).2.2.1 = some (ty k)) (hnm : ∀ a, a < N → ∀ b, b < N → a ≠ b → (T a).2.1 ≠ (T b).2.1) (hf : f < N) (hfk : ce_fk t f = .inl ()) (hfin : (T f).2.2.2 = false) (hint : ty f = .boolean) (hw : lw_tbl[wp]? = some (Cond.fieldLink own ix (T f).1 (T f).2.1 (T f).2.2.1)) : ce_Ok l cc own nL rt d MC MS pcs i (o_putZ t f) := by
  intro nn ls st S k res h hk p e s m args below meth c D ca b0 ad0 S0 ad H locs rls hC h61 hX hR hT h1 h2
  obtain ⟨hx, hb, hml, hown, ⟨w0, hts⟩, hr, hlk, hG⟩ := id hC
  unfold o_putZ at h
  simp only [ce_bt] at h
  split at h
  · rename_i x q r
    by_cases hq : q.1 = t
    · rw [if_pos hq] at h
      by_cases hz01 : x = 0 ∨ x = 1
      · rw [if_pos hz01] at h
        have hv : q.2 < ce_C S t := by have := ce_okT_hd (ce_okT_tl hT); rw [← hq]; exact this
        rw [hp]
        obtain ⟨⟨ho, -, -⟩, hb0, -⟩ := hR.1.1 t q.2 hv (by rw [hso]; decide)
        obtain ⟨r', hr1, hr2⟩ := ho hso
        have hr3 := hr1
        rw [hci, hc] at hr3
        cases hr3
        have hq2 : ce_val ad (.inr (.inl q)) = .ref (ad t q.2) := by rw [← hq]; rfl
        rw [List.map_cons, List.map_cons, hq2]
        refine ce_put hx hb hts (fun w hw => List.mem_cons_of_mem _ (hcw w hw)) ty hty hnm hown hG.1 hr2 hr1 f hf (ce_wIn hts hw rfl) hfin (v := .int x) (by rw [hint]; rcases hz01 with rfl | rfl <;> decide) (by rw [hint]; rcases hz01 with rfl | rfl <;> decide) hd (fun H1 lc hl hO hz hoq => ?_)
        have w := hk _ _ _ _ _ h p e s m args below meth c D ca b0 ad0 S0 ad H1 (locs ++ [lc]) rls hC h61 hX ⟨hR.1.putI hv hso hfk hr1 hO hz hoq, ce_S_put hR.2.1 hz hoq hb0 hl, hR.2.2.1, ce_okS_sI hR.2.2.2.1, ce_okL_kept (fun _ => rfl) hR.2.2.2.2.1, ce_ag_kept (fun _ => rfl) hR.2.2.2.2.2⟩ (ce_okT_kept (fun _ => rfl) (ce_okT_tl (ce_okT_tl hT))) h1 h2
        rw [hp'] at w
        exact w
      · rw [if_neg hz01] at h; cases h
    · rw [if_neg hq] at h; cases h
  · cases h
theorem ok_putM {t f ci ix wp N t' : Nat} {C C' : String} {T : u_T} {ty : Nat → FieldType} (hp : pcs.getD i 0 = pc) (hp' : pcs.getD (i + 1) 0 = pc + 3) (hd : decode cc pc = .ok (.putfield ix, 3)) (hso : ce_so t = 0) (hci : ∀ j, ce_ci t j = ci) (hc : vwCl[ci]? = some (C, T, N)) (hcw : ∀ w ∈ u_ws C T N, w ∈ ce_tw) (hty : ∀ k, k < N → parseFieldDescriptor (T k).2.2.1 = some (ty k)) (hnm : ∀ a, a < N → ∀ b, b < N → a ≠ b → (T a).2.1 ≠ (T b).2.1) (hf : f < N) (hfk : ce_fk t f = .inr (.inr t')) (hfin : (T f).2.2.2 = false) (hint : ty f = .object C') (hw : lw_tbl[wp]? = some (Cond.fieldLink own ix (T f).1 (T f).2.1 (T f).2.2.1)) : ce_Ok l cc own nL rt d MC MS pcs i (o_putM t f t') := by
  intro nn ls st S k res h hk p e s m args below meth c D ca b0 ad0 S0 ad H locs rls hC h61 hX hR hT h1 h2
  obtain ⟨hx, hb, hml, hown, ⟨w0, hts⟩, hr, hlk, hG⟩ := id hC
  unfold o_putM at h
  simp only [ce_bt] at h
  split at h
  · rename_i v q r
    by_cases hq : q.1 = t
    · rw [if_pos hq] at h
      by_cases hv1 : v.1 = t'
      · rw [if_pos hv1] at h
        have hv : q.2 < ce_C S t := by have := ce_okT_hd (ce_okT_tl hT); rw [← hq]; exact this
        have hv' : v.2 < ce_C S t' := by have := ce_okT_hd hT; rw [← hv1]; exact this
        rw [hp]
        obtain ⟨⟨ho, -, -⟩, hb0, -⟩ := hR.1.1 t q.2 hv (by rw [hso]; decide)
        obtain ⟨r', hr1, hr2⟩ := ho hso
        have hr3 := hr1
        rw [hci, hc] at hr3
        cases hr3
        have hq2 : ce_val ad (.inr (.inl q)) = .ref (ad t q.2) := by rw [← hq]; rfl
        have hv2 : ce_val ad (.inr (.inl v)) = .ref (ad t' v.2) := by rw [← hv1]; rfl
        rw [List.map_cons, List.map_cons, hq2, hv2]
        refine ce_put hx hb hts (fun w hw => List.mem_cons_of_mem _ (hcw w hw)) ty hty hnm hown hG.1 hr2 hr1 f hf (ce_wIn hts hw rfl) hfin (v := .ref (ad t' v.2)) (by rw [hint]; rfl) (by rw [hint]; rfl) hd (fun H1 lc hl hO hz hoq => ?_)
        have w := hk _ _ _ _ _ h p e s m args below meth c D ca b0 ad0 S0 ad H1 (locs ++ [lc]) rls hC h61 hX ⟨hR.1.putR hv hso hfk hr1 hO hz hoq, ce_S_put hR.2.1 hz hoq hb0 hl, hR.2.2.1, ce_okS_sR hR.2.2.2.1 hfk hv', ce_okL_kept (fun _ => rfl) hR.2.2.2.2.1, ce_ag_kept (fun _ => rfl) hR.2.2.2.2.2⟩ (ce_okT_kept (fun _ => rfl) (ce_okT_tl (ce_okT_tl hT))) h1 h2
        rw [hp'] at w
        exact w
      · rw [if_neg hv1] at h; cases h
    · rw [if_neg hq] at h; cases h
  · cases h
end CEHO
