/-! the K-machine: putfield -/
def o_kputI (t f : Nat) : ce_Op := fun i nn ls st S k => match st with
  | .inl x :: .inr (.inl q) :: r => if q.1 = t then k (i + 1) nn ls r (ce_sI S t f q.2 x) else none
  | _ => none
def o_kputS (t f t' : Nat) (g : Nat → Nat) : ce_Op := fun i nn ls st S k => match st with
  | .inr (.inl v) :: .inr (.inl q) :: r => if q.1 = t ∧ v.1 = t' ∧ v.2 = g q.2 then k (i + 1) nn ls r (kS_putS S t f q.2) else none
  | _ => none
def o_kputM (t f t' : Nat) : ce_Op := fun i nn ls st S k => match st with
  | .inr (.inl v) :: .inr (.inl q) :: r => if q.1 = t ∧ v.1 = t' then k (i + 1) nn ls r (kS_putM S t f q.2 v.2) else none
  | _ => none
section KPF
variable {l : Launch} {cc : ByteArray} {own : String} {nL : Nat} {rt : Option FieldType} {d MC MS : Nat} {pcs : List Nat} {i pc : Nat}
theorem kk_putI {t f ci ix wp N : Nat} {C : String} {T : u_T} {ty : Nat → FieldType} (hp : pcs.getD i 0 = pc) (hp' : pcs.getD (i + 1) 0 = pc + 3) (hd : decode cc pc = .ok (.putfield ix, 3)) (hso : ce_so t = 0) (hci : ∀ j, ce_ci t j = ci) (hc : vwCl[ci]? = some (C, T, N)) (hcw : ∀ w ∈ u_ws C T N, w ∈ ce_tw) (hty : ∀ k, k < N → parseFieldDescriptor (T k).2.2.1 = some (ty k)) (hnm : ∀ a, a < N → ∀ b, b < N → a ≠ b → (T a).2.1 ≠ (T b).2.1) (hf : f < N) (hfk : ce_fk t f = .inl ()) (hfin : (T f).2.2.2 = false) (hint : ty f = .int) (hw : lw_tbl[wp]? = some (Cond.fieldLink own ix (T f).1 (T f).2.1 (T f).2.2.1)) : ce_OkK l cc own nL rt d MC MS pcs i (o_kputI t f) := by
  intro nn ls st S k res h hk p e s m args below meth c D ca b0 ad0 S0 ad H locs rls hC h61 hX hR hT h1 h2
  obtain ⟨hx, hb, hml, hown, ⟨w0, hts⟩, hr, hlk, hG, hnmI⟩ := id hC
  unfold o_kputI at h
  split at h
  · rename_i x q r
    by_cases hq : q.1 = t
    · rw [if_pos hq] at h
      have hv : q.2 < ce_C S t := by have := ce_okT_hd (ce_okT_tl hT); rw [← hq]; exact this
      rw [hp]
      obtain ⟨⟨ho, -, -⟩, hb0, -⟩ := hR.1.1 t q.2 hv (by rw [hso]; decide)
      obtain ⟨r', hr1, hr2⟩ := ho hso
      have hr3 := hr1
      rw [hci, hc] at hr3
      cases hr3
      have hq2 : ce_val ad (.inr (.inl q)) = .ref (ad t q.2) := by rw [← hq]; rfl
      rw [List.map_cons, List.map_cons, hq2]
      refine ce_put hx hb hts (fun w hw => List.mem_cons_of_mem _ (hcw w hw)) ty hty hnm hown hG.1.1 hr2 hr1 f hf (ce_wIn hts hw rfl) hfin (v := .int x) (by rw [hint]; rfl) (by rw [hint]; rfl) hd (fun H1 lc hl hO hz hoq => ?_)
      have hat : ce_atK D ca ad (ce_sI S t f q.2 x) t q.2 H1 := ce_atK.put hso hr1 hO (by
        unfold ce_fvK
        rw [hfk]
        exact congrArg Value.int (ce_u_eq S.1 t f q.2 x)) (fun k hk => by
        unfold ce_fvK
        cases hz0 : ce_fk t k with
        | inl u => exact congrArg Value.int (ce_u_ne S.1 x (fun z => hk z.2.1))
        | inr u => cases u <;> rfl)
      have w := hk _ _ _ _ _ h p e s m args below meth c D ca b0 ad0 S0 ad H1 (locs ++ [lc]) rls hC h61 hX ⟨hR.1.set hR.2.2.2.1 hv (by rw [hso]; decide) hz hoq (fun _ => rfl) hat (kstay_I S t f q.2 x), ce_S_put hR.2.1 hz hoq hb0 hl, hR.2.2.1, kokS_I hR.2.2.2.1, ce_okL_kept (fun _ => rfl) hR.2.2.2.2.1, ce_ag_kept (fun _ => rfl) hR.2.2.2.2.2⟩ (ce_okT_kept (fun _ => rfl) (ce_okT_tl (ce_okT_tl hT))) h1 h2
      rw [hp'] at w
      exact w
    · rw [if_neg hq] at h; cases h
  · cases h

theorem kk_putS {t f ci ix wp N t' : Nat} {g : Nat → Nat} {zz : Nat} {C : String} {T : u_T} {ty : Nat → FieldType} (hp : pcs.getD i 0 = pc) (hp' : pcs.getD (i + 1) 0 = pc + 3) (hd : decode cc pc = .ok (.putfield ix, 3)) (hso : ce_so t = 0) (hci : ∀ j, ce_ci t j = ci) (hc : vwCl[ci]? = some (C, T, N)) (hcw : ∀ w ∈ u_ws C T N, w ∈ ce_tw) (hty : ∀ k, k < N → parseFieldDescriptor (T k).2.2.1 = some (ty k)) (hnm : ∀ a, a < N → ∀ b, b < N → a ≠ b → (T a).2.1 ≠ (T b).2.1) (hf : f < N) (hfk : ce_fk t f = .inr (.inl (t', g))) (hfin : (T f).2.2.2 = false) (hint : ∀ a, narrow (ty f) (.ref a) = .ref a ∧ fits (ty f) (.ref a) = true) (hw : lw_tbl[wp]? = some (Cond.fieldLink own ix (T f).1 (T f).2.1 (T f).2.2.1)) : ce_OkK l cc own nL rt d MC MS pcs i (o_kputS t f t' g) := by
  intro nn ls st S k res h hk p e s m args below meth c D ca b0 ad0 S0 ad H locs rls hC h61 hX hR hT h1 h2
  obtain ⟨hx, hb, hml, hown, ⟨w0, hts⟩, hr, hlk, hG, hnmI⟩ := id hC
  unfold o_kputS at h
  split at h
  · rename_i v q r
    by_cases hq : q.1 = t ∧ v.1 = t' ∧ v.2 = g q.2
    · rw [if_pos hq] at h
      have hv : q.2 < ce_C S t := by have := ce_okT_hd (ce_okT_tl hT); rw [← hq.1]; exact this
      have hv' : v.2 < ce_C S v.1 := ce_okT_hd hT
      have ht1 : t < 1000 := ce_so_lt (by rw [hso]; decide)
      rw [hp]
      obtain ⟨⟨ho, -, -⟩, hb0, -⟩ := hR.1.1 t q.2 hv (by rw [hso]; decide)
      obtain ⟨r', hr1, hr2⟩ := ho hso
      have hr3 := hr1
      rw [hci, hc] at hr3
      cases hr3
      have hq2 : ce_val ad (.inr (.inl q)) = .ref (ad t q.2) := by rw [← hq.1]; rfl
      rw [List.map_cons, List.map_cons, hq2]
      refine ce_put hx hb hts (fun w hw => List.mem_cons_of_mem _ (hcw w hw)) ty hty hnm hown hG.1.1 hr2 hr1 f hf (ce_wIn hts hw rfl) hfin (v := .ref (ad v.1 v.2)) (hint _).1 (hint _).2 hd (fun H1 lc hl hO hz hoq => ?_)
      have hat : ce_atK D ca ad (kS_putS S t f q.2) t q.2 H1 := ce_atK.put hso hr1 hO (by
        have e1 : ce_R (kS_putS S t f q.2) (1000 + t) f q.2 = 0 := by unfold kS_putS; rw [r_R_sR2, if_pos ⟨rfl, rfl, rfl⟩]
        unfold ce_fvK
        rw [hfk, e1]
        rw [show v = (t', g q.2) from Prod.ext hq.2.1 hq.2.2]; rfl) (fun k hk => by
        have e1 : ce_R (kS_putS S t f q.2) (1000 + t) k q.2 = ce_R S (1000 + t) k q.2 := by unfold kS_putS; rw [r_R_sR2, if_neg (fun z => hk z.2.1)]
        have e2 : ce_R (kS_putS S t f q.2) t k q.2 = ce_R S t k q.2 := by unfold kS_putS; rw [r_R_sR2, if_neg (fun z => by omega)]
        unfold ce_fvK
        rw [e1, e2]; rfl)
      have w := hk _ _ _ _ _ h p e s m args below meth c D ca b0 ad0 S0 ad H1 (locs ++ [lc]) rls hC h61 hX ⟨hR.1.set hR.2.2.2.1 hv (by rw [hso]; decide) hz hoq (fun _ => rfl) hat (kstay_S S t f q.2), ce_S_put hR.2.1 hz hoq hb0 hl, hR.2.2.1, (kokS_S hR.2.2.2.1 hso hfk (by show g q.2 < ce_C S t'; rw [← hq.2.2, ← hq.2.1]; exact hv')), ce_okL_kept (fun _ => rfl) hR.2.2.2.2.1, ce_ag_kept (fun _ => rfl) hR.2.2.2.2.2⟩ (ce_okT_kept (fun _ => rfl) (ce_okT_tl (ce_okT_tl hT))) h1 h2
      rw [hp'] at w
      exact w
    · rw [if_neg hq] at h; cases h
  · cases h

theorem kk_putM {t f ci ix wp N t' : Nat} {C : String} {T : u_T} {ty : Nat → FieldType} (hp : pcs.getD i 0 = pc) (hp' : pcs.getD (i + 1) 0 = pc + 3) (hd : decode cc pc = .ok (.putfield ix, 3)) (hso : ce_so t = 0) (hci : ∀ j, ce_ci t j = ci) (hc : vwCl[ci]? = some (C, T, N)) (hcw : ∀ w ∈ u_ws C T N, w ∈ ce_tw) (hty : ∀ k, k < N → parseFieldDescriptor (T k).2.2.1 = some (ty k)) (hnm : ∀ a, a < N → ∀ b, b < N → a ≠ b → (T a).2.1 ≠ (T b).2.1) (hf : f < N) (hfk : ce_fk t f = .inr (.inr t')) (hfin : (T f).2.2.2 = false) (hint : ∀ a, narrow (ty f) (.ref a) = .ref a ∧ fits (ty f) (.ref a) = true) (hw : lw_tbl[wp]? = some (Cond.fieldLink own ix (T f).1 (T f).2.1 (T f).2.2.1)) : ce_OkK l cc own nL rt d MC MS pcs i (o_kputM t f t') := by
  intro nn ls st S k res h hk p e s m args below meth c D ca b0 ad0 S0 ad H locs rls hC h61 hX hR hT h1 h2
  obtain ⟨hx, hb, hml, hown, ⟨w0, hts⟩, hr, hlk, hG, hnmI⟩ := id hC
  unfold o_kputM at h
  split at h
  · rename_i v q r
    by_cases hq : q.1 = t ∧ v.1 = t'
    · rw [if_pos hq] at h
      have hv : q.2 < ce_C S t := by have := ce_okT_hd (ce_okT_tl hT); rw [← hq.1]; exact this
      have hv' : v.2 < ce_C S v.1 := ce_okT_hd hT
      have ht1 : t < 1000 := ce_so_lt (by rw [hso]; decide)
      rw [hp]
      obtain ⟨⟨ho, -, -⟩, hb0, -⟩ := hR.1.1 t q.2 hv (by rw [hso]; decide)
      obtain ⟨r', hr1, hr2⟩ := ho hso
      have hr3 := hr1
      rw [hci, hc] at hr3
      cases hr3
      have hq2 : ce_val ad (.inr (.inl q)) = .ref (ad t q.2) := by rw [← hq.1]; rfl
      rw [List.map_cons, List.map_cons, hq2]
      refine ce_put hx hb hts (fun w hw => List.mem_cons_of_mem _ (hcw w hw)) ty hty hnm hown hG.1.1 hr2 hr1 f hf (ce_wIn hts hw rfl) hfin (v := .ref (ad v.1 v.2)) (hint _).1 (hint _).2 hd (fun H1 lc hl hO hz hoq => ?_)
      have hat : ce_atK D ca ad (kS_putM S t f q.2 v.2) t q.2 H1 := ce_atK.put hso hr1 hO (by
        have e1 : ce_R (kS_putM S t f q.2 v.2) (1000 + t) f q.2 = 0 := by unfold kS_putM; rw [r_R_sR2, if_pos ⟨rfl, rfl, rfl⟩]
        have e2 : ce_R (kS_putM S t f q.2 v.2) t f q.2 = v.2 := by unfold kS_putM; rw [r_R_sR2, if_neg (fun z => by omega), r_R_sR2, if_pos ⟨rfl, rfl, rfl⟩]
        unfold ce_fvK
        rw [hfk, e1, e2]
        rw [show v = (t', v.2) from Prod.ext hq.2 rfl]; rfl) (fun k hk => by
        have e1 : ce_R (kS_putM S t f q.2 v.2) (1000 + t) k q.2 = ce_R S (1000 + t) k q.2 := by unfold kS_putM; rw [r_R_sR2, if_neg (fun z => hk z.2.1), r_R_sR2, if_neg (fun z => by omega)]
        have e2 : ce_R (kS_putM S t f q.2 v.2) t k q.2 = ce_R S t k q.2 := by unfold kS_putM; rw [r_R_sR2, if_neg (fun z => by omega), r_R_sR2, if_neg (fun z => hk z.2.1)]
        unfold ce_fvK
        rw [e1, e2]; rfl)
      have w := hk _ _ _ _ _ h p e s m args below meth c D ca b0 ad0 S0 ad H1 (locs ++ [lc]) rls hC h61 hX ⟨hR.1.set hR.2.2.2.1 hv (by rw [hso]; decide) hz hoq (fun _ => rfl) hat (kstay_M S t f q.2 v.2 ht1), ce_S_put hR.2.1 hz hoq hb0 hl, hR.2.2.1, (kokS_M hR.2.2.2.1 hso hfk (by rw [← hq.2]; exact hv')), ce_okL_kept (fun _ => rfl) hR.2.2.2.2.1, ce_ag_kept (fun _ => rfl) hR.2.2.2.2.2⟩ (ce_okT_kept (fun _ => rfl) (ce_okT_tl (ce_okT_tl hT))) h1 h2
      rw [hp'] at w
      exact w
    · rw [if_neg hq] at h; cases h
  · cases h

theorem kk_putIF {t f ci ix wp N : Nat} {C : String} {T : u_T} {ty : Nat → FieldType} (hp : pcs.getD i 0 = pc) (hp' : pcs.getD (i + 1) 0 = pc + 3) (hd : decode cc pc = .ok (.putfield ix, 3)) (hso : ce_so t = 0) (hci : ∀ j, ce_ci t j = ci) (hc : vwCl[ci]? = some (C, T, N)) (hcw : ∀ w ∈ u_ws C T N, w ∈ ce_tw) (hty : ∀ k, k < N → parseFieldDescriptor (T k).2.2.1 = some (ty k)) (hnm : ∀ a, a < N → ∀ b, b < N → a ≠ b → (T a).2.1 ≠ (T b).2.1) (hf : f < N) (hfk : ce_fk t f = .inl ()) (hfin : (T f).2.2.2 = true) (hrt : rt = none) (hdecl : (T f).1 = own) (hint : ty f = .int) (hw : lw_tbl[wp]? = some (Cond.fieldLink own ix (T f).1 (T f).2.1 (T f).2.2.1)) : ce_OkK l cc own nL rt d MC MS pcs i (o_kputI t f) := by
  intro nn ls st S k res h hk p e s m args below meth c D ca b0 ad0 S0 ad H locs rls hC h61 hX hR hT h1 h2
  obtain ⟨hx, hb, hml, hown, ⟨w0, hts⟩, hr, hlk, hG, hnmI⟩ := id hC
  unfold o_kputI at h
  split at h
  · rename_i x q r
    by_cases hq : q.1 = t
    · rw [if_pos hq] at h
      have hv : q.2 < ce_C S t := by have := ce_okT_hd (ce_okT_tl hT); rw [← hq]; exact this
      rw [hp]
      obtain ⟨⟨ho, -, -⟩, hb0, -⟩ := hR.1.1 t q.2 hv (by rw [hso]; decide)
      obtain ⟨r', hr1, hr2⟩ := ho hso
      have hr3 := hr1
      rw [hci, hc] at hr3
      cases hr3
      have hq2 : ce_val ad (.inr (.inl q)) = .ref (ad t q.2) := by rw [← hq]; rfl
      rw [List.map_cons, List.map_cons, hq2]
      refine ce_putF hx hb hts (fun w hw => List.mem_cons_of_mem _ (hcw w hw)) ty hty hnm hown hG.1.1 hr2 hr1 f hf (ce_wIn hts hw rfl) hfin (hnmI hrt) hdecl (v := .int x) (by rw [hint]; rfl) (by rw [hint]; rfl) hd (fun H1 lc hl hO hz hoq => ?_)
      have hat : ce_atK D ca ad (ce_sI S t f q.2 x) t q.2 H1 := ce_atK.put hso hr1 hO (by
        unfold ce_fvK
        rw [hfk]
        exact congrArg Value.int (ce_u_eq S.1 t f q.2 x)) (fun k hk => by
        unfold ce_fvK
        cases hz0 : ce_fk t k with
        | inl u => exact congrArg Value.int (ce_u_ne S.1 x (fun z => hk z.2.1))
        | inr u => cases u <;> rfl)
      have w := hk _ _ _ _ _ h p e s m args below meth c D ca b0 ad0 S0 ad H1 (locs ++ [lc]) rls hC h61 hX ⟨hR.1.set hR.2.2.2.1 hv (by rw [hso]; decide) hz hoq (fun _ => rfl) hat (kstay_I S t f q.2 x), ce_S_put hR.2.1 hz hoq hb0 hl, hR.2.2.1, kokS_I hR.2.2.2.1, ce_okL_kept (fun _ => rfl) hR.2.2.2.2.1, ce_ag_kept (fun _ => rfl) hR.2.2.2.2.2⟩ (ce_okT_kept (fun _ => rfl) (ce_okT_tl (ce_okT_tl hT))) h1 h2
      rw [hp'] at w
      exact w
    · rw [if_neg hq] at h; cases h
  · cases h

theorem kk_putSF {t f ci ix wp N t' : Nat} {g : Nat → Nat} {zz : Nat} {C : String} {T : u_T} {ty : Nat → FieldType} (hp : pcs.getD i 0 = pc) (hp' : pcs.getD (i + 1) 0 = pc + 3) (hd : decode cc pc = .ok (.putfield ix, 3)) (hso : ce_so t = 0) (hci : ∀ j, ce_ci t j = ci) (hc : vwCl[ci]? = some (C, T, N)) (hcw : ∀ w ∈ u_ws C T N, w ∈ ce_tw) (hty : ∀ k, k < N → parseFieldDescriptor (T k).2.2.1 = some (ty k)) (hnm : ∀ a, a < N → ∀ b, b < N → a ≠ b → (T a).2.1 ≠ (T b).2.1) (hf : f < N) (hfk : ce_fk t f = .inr (.inl (t', g))) (hfin : (T f).2.2.2 = true) (hrt : rt = none) (hdecl : (T f).1 = own) (hint : ∀ a, narrow (ty f) (.ref a) = .ref a ∧ fits (ty f) (.ref a) = true) (hw : lw_tbl[wp]? = some (Cond.fieldLink own ix (T f).1 (T f).2.1 (T f).2.2.1)) : ce_OkK l cc own nL rt d MC MS pcs i (o_kputS t f t' g) := by
  intro nn ls st S k res h hk p e s m args below meth c D ca b0 ad0 S0 ad H locs rls hC h61 hX hR hT h1 h2
  obtain ⟨hx, hb, hml, hown, ⟨w0, hts⟩, hr, hlk, hG, hnmI⟩ := id hC
  unfold o_kputS at h
  split at h
  · rename_i v q r
    by_cases hq : q.1 = t ∧ v.1 = t' ∧ v.2 = g q.2
    · rw [if_pos hq] at h
      have hv : q.2 < ce_C S t := by have := ce_okT_hd (ce_okT_tl hT); rw [← hq.1]; exact this
      have hv' : v.2 < ce_C S v.1 := ce_okT_hd hT
      have ht1 : t < 1000 := ce_so_lt (by rw [hso]; decide)
      rw [hp]
      obtain ⟨⟨ho, -, -⟩, hb0, -⟩ := hR.1.1 t q.2 hv (by rw [hso]; decide)
      obtain ⟨r', hr1, hr2⟩ := ho hso
      have hr3 := hr1
      rw [hci, hc] at hr3
      cases hr3
      have hq2 : ce_val ad (.inr (.inl q)) = .ref (ad t q.2) := by rw [← hq.1]; rfl
      rw [List.map_cons, List.map_cons, hq2]
      refine ce_putF hx hb hts (fun w hw => List.mem_cons_of_mem _ (hcw w hw)) ty hty hnm hown hG.1.1 hr2 hr1 f hf (ce_wIn hts hw rfl) hfin (hnmI hrt) hdecl (v := .ref (ad v.1 v.2)) (hint _).1 (hint _).2 hd (fun H1 lc hl hO hz hoq => ?_)
      have hat : ce_atK D ca ad (kS_putS S t f q.2) t q.2 H1 := ce_atK.put hso hr1 hO (by
        have e1 : ce_R (kS_putS S t f q.2) (1000 + t) f q.2 = 0 := by unfold kS_putS; rw [r_R_sR2, if_pos ⟨rfl, rfl, rfl⟩]
        unfold ce_fvK
        rw [hfk, e1]
        rw [show v = (t', g q.2) from Prod.ext hq.2.1 hq.2.2]; rfl) (fun k hk => by
        have e1 : ce_R (kS_putS S t f q.2) (1000 + t) k q.2 = ce_R S (1000 + t) k q.2 := by unfold kS_putS; rw [r_R_sR2, if_neg (fun z => hk z.2.1)]
        have e2 : ce_R (kS_putS S t f q.2) t k q.2 = ce_R S t k q.2 := by unfold kS_putS; rw [r_R_sR2, if_neg (fun z => by omega)]
        unfold ce_fvK
        rw [e1, e2]; rfl)
      have w := hk _ _ _ _ _ h p e s m args below meth c D ca b0 ad0 S0 ad H1 (locs ++ [lc]) rls hC h61 hX ⟨hR.1.set hR.2.2.2.1 hv (by rw [hso]; decide) hz hoq (fun _ => rfl) hat (kstay_S S t f q.2), ce_S_put hR.2.1 hz hoq hb0 hl, hR.2.2.1, (kokS_S hR.2.2.2.1 hso hfk (by show g q.2 < ce_C S t'; rw [← hq.2.2, ← hq.2.1]; exact hv')), ce_okL_kept (fun _ => rfl) hR.2.2.2.2.1, ce_ag_kept (fun _ => rfl) hR.2.2.2.2.2⟩ (ce_okT_kept (fun _ => rfl) (ce_okT_tl (ce_okT_tl hT))) h1 h2
      rw [hp'] at w
      exact w
    · rw [if_neg hq] at h; cases h
  · cases h

theorem kk_putMF {t f ci ix wp N t' : Nat} {C : String} {T : u_T} {ty : Nat → FieldType} (hp : pcs.getD i 0 = pc) (hp' : pcs.getD (i + 1) 0 = pc + 3) (hd : decode cc pc = .ok (.putfield ix, 3)) (hso : ce_so t = 0) (hci : ∀ j, ce_ci t j = ci) (hc : vwCl[ci]? = some (C, T, N)) (hcw : ∀ w ∈ u_ws C T N, w ∈ ce_tw) (hty : ∀ k, k < N → parseFieldDescriptor (T k).2.2.1 = some (ty k)) (hnm : ∀ a, a < N → ∀ b, b < N → a ≠ b → (T a).2.1 ≠ (T b).2.1) (hf : f < N) (hfk : ce_fk t f = .inr (.inr t')) (hfin : (T f).2.2.2 = true) (hrt : rt = none) (hdecl : (T f).1 = own) (hint : ∀ a, narrow (ty f) (.ref a) = .ref a ∧ fits (ty f) (.ref a) = true) (hw : lw_tbl[wp]? = some (Cond.fieldLink own ix (T f).1 (T f).2.1 (T f).2.2.1)) : ce_OkK l cc own nL rt d MC MS pcs i (o_kputM t f t') := by
  intro nn ls st S k res h hk p e s m args below meth c D ca b0 ad0 S0 ad H locs rls hC h61 hX hR hT h1 h2
  obtain ⟨hx, hb, hml, hown, ⟨w0, hts⟩, hr, hlk, hG, hnmI⟩ := id hC
  unfold o_kputM at h
  split at h
  · rename_i v q r
    by_cases hq : q.1 = t ∧ v.1 = t'
    · rw [if_pos hq] at h
      have hv : q.2 < ce_C S t := by have := ce_okT_hd (ce_okT_tl hT); rw [← hq.1]; exact this
      have hv' : v.2 < ce_C S v.1 := ce_okT_hd hT
      have ht1 : t < 1000 := ce_so_lt (by rw [hso]; decide)
      rw [hp]
      obtain ⟨⟨ho, -, -⟩, hb0, -⟩ := hR.1.1 t q.2 hv (by rw [hso]; decide)
      obtain ⟨r', hr1, hr2⟩ := ho hso
      have hr3 := hr1
      rw [hci, hc] at hr3
      cases hr3
      have hq2 : ce_val ad (.inr (.inl q)) = .ref (ad t q.2) := by rw [← hq.1]; rfl
      rw [List.map_cons, List.map_cons, hq2]
      refine ce_putF hx hb hts (fun w hw => List.mem_cons_of_mem _ (hcw w hw)) ty hty hnm hown hG.1.1 hr2 hr1 f hf (ce_wIn hts hw rfl) hfin (hnmI hrt) hdecl (v := .ref (ad v.1 v.2)) (hint _).1 (hint _).2 hd (fun H1 lc hl hO hz hoq => ?_)
      have hat : ce_atK D ca ad (kS_putM S t f q.2 v.2) t q.2 H1 := ce_atK.put hso hr1 hO (by
        have e1 : ce_R (kS_putM S t f q.2 v.2) (1000 + t) f q.2 = 0 := by unfold kS_putM; rw [r_R_sR2, if_pos ⟨rfl, rfl, rfl⟩]
        have e2 : ce_R (kS_putM S t f q.2 v.2) t f q.2 = v.2 := by unfold kS_putM; rw [r_R_sR2, if_neg (fun z => by omega), r_R_sR2, if_pos ⟨rfl, rfl, rfl⟩]
        unfold ce_fvK
        rw [hfk, e1, e2]
        rw [show v = (t', v.2) from Prod.ext hq.2 rfl]; rfl) (fun k hk => by
        have e1 : ce_R (kS_putM S t f q.2 v.2) (1000 + t) k q.2 = ce_R S (1000 + t) k q.2 := by unfold kS_putM; rw [r_R_sR2, if_neg (fun z => hk z.2.1), r_R_sR2, if_neg (fun z => by omega)]
        have e2 : ce_R (kS_putM S t f q.2 v.2) t k q.2 = ce_R S t k q.2 := by unfold kS_putM; rw [r_R_sR2, if_neg (fun z => by omega), r_R_sR2, if_neg (fun z => hk z.2.1)]
        unfold ce_fvK
        rw [e1, e2]; rfl)
      have w := hk _ _ _ _ _ h p e s m args below meth c D ca b0 ad0 S0 ad H1 (locs ++ [lc]) rls hC h61 hX ⟨hR.1.set hR.2.2.2.1 hv (by rw [hso]; decide) hz hoq (fun _ => rfl) hat (kstay_M S t f q.2 v.2 ht1), ce_S_put hR.2.1 hz hoq hb0 hl, hR.2.2.1, (kokS_M hR.2.2.2.1 hso hfk (by rw [← hq.2]; exact hv')), ce_okL_kept (fun _ => rfl) hR.2.2.2.2.1, ce_ag_kept (fun _ => rfl) hR.2.2.2.2.2⟩ (ce_okT_kept (fun _ => rfl) (ce_okT_tl (ce_okT_tl hT))) h1 h2
      rw [hp'] at w
      exact w
    · rw [if_neg hq] at h; cases h
  · cases h

end KPF
