/-! the K-machine: reads, rows of ints, Object's constructor -/
def o_kgetS (t f t' : Nat) (g : Nat → Nat) : ce_Op := fun i nn ls st S k => match st with
  | .inr (.inl q) :: r => if q.1 = t ∧ ce_R S (1000 + t) f q.2 = 0 then k (i + 1) nn ls (.inr (.inl (t', g q.2)) :: r) S else none
  | _ => none
def o_kgetM (t f t' : Nat) : ce_Op := fun i nn ls st S k => match st with
  | .inr (.inl q) :: r => if q.1 = t ∧ ce_R S (1000 + t) f q.2 = 0 then k (i + 1) nn ls (.inr (.inl (t', ce_R S t f q.2)) :: r) S else none
  | _ => none
def o_kinit : ce_Op := fun i nn ls st S k => match st with
  | .inr (.inl _) :: r => if r.length ≤ 4 then k (i + 1) nn ls r S else none
  | _ => none
section KRD
variable {l : Launch} {cc : ByteArray} {own : String} {nL : Nat} {rt : Option FieldType} {d MC MS : Nat} {pcs : List Nat} {i pc : Nat}
theorem kk_getI {t f ci ix wp N : Nat} {C : String} {T : u_T} (hp : pcs.getD i 0 = pc) (hp' : pcs.getD (i + 1) 0 = pc + 3) (hd : decode cc pc = .ok (.getfield ix, 3)) (hso : ce_so t = 0) (hci : ∀ j, ce_ci t j = ci) (hc : vwCl[ci]? = some (C, T, N)) (hcw : ∀ w ∈ u_ws C T N, w ∈ ce_tw) (hf : f < N) (hfk : ce_fk t f = .inl ()) (hw : lw_tbl[wp]? = some (Cond.fieldLink own ix (T f).1 (T f).2.1 (T f).2.2.1)) : ce_OkK l cc own nL rt d MC MS pcs i (o_getI t f) := by
  intro nn ls st S k res h hk p e s m args below meth c D ca b0 ad0 S0 ad H locs rls hC h61 hX hR hT h1 h2
  obtain ⟨hx, hb, hml, hown, ⟨w0, hts⟩, hr, hlk, hG⟩ := id hC
  unfold o_getI at h
  simp only [ce_bt] at h
  split at h
  · rename_i q r
    by_cases hq : q.1 = t
    · rw [if_pos hq] at h
      have w := hk _ _ _ _ _ h p e s m args below meth c D ca b0 ad0 S0 ad H locs rls hC h61 hX hR (ce_okT_cons trivial (ce_okT_tl hT)) h1 h2
      rw [hp'] at w
      rw [hp]
      have hv : q.2 < ce_C S t := by have := ce_okT_hd hT; rw [← hq]; exact this
      obtain ⟨⟨ho, -, -⟩, -, -⟩ := hR.1.1 t q.2 hv (by rw [hso]; decide)
      obtain ⟨r', hr1, hr2⟩ := ho hso
      rw [hci, hc] at hr1
      cases hr1
      rw [hci] at hr2
      have hq2 : ce_val ad (.inr (.inl q)) = .ref (ad t q.2) := by rw [← hq]; rfl
      rw [List.map_cons, hq2]
      exact ce_get hx hb hts (fun w hw => List.mem_cons_of_mem _ (hcw w hw)) hown hG.1.1.1 hr2 hc f hf (ce_wIn hts hw rfl) (by show ce_fvK ad S t f q.2 = _; unfold ce_fvK; rw [hfk]; rfl) hd w
    · rw [if_neg hq] at h; cases h
  · cases h
theorem kk_getS {t f ci ix wp N t' : Nat} {g : Nat → Nat} {C : String} {T : u_T} (hp : pcs.getD i 0 = pc) (hp' : pcs.getD (i + 1) 0 = pc + 3) (hd : decode cc pc = .ok (.getfield ix, 3)) (hso : ce_so t = 0) (hci : ∀ j, ce_ci t j = ci) (hc : vwCl[ci]? = some (C, T, N)) (hcw : ∀ w ∈ u_ws C T N, w ∈ ce_tw) (hf : f < N) (hfk : ce_fk t f = .inr (.inl (t', g))) (hw : lw_tbl[wp]? = some (Cond.fieldLink own ix (T f).1 (T f).2.1 (T f).2.2.1)) : ce_OkK l cc own nL rt d MC MS pcs i (o_kgetS t f t' g) := by
  intro nn ls st S k res h hk p e s m args below meth c D ca b0 ad0 S0 ad H locs rls hC h61 hX hR hT h1 h2
  obtain ⟨hx, hb, hml, hown, ⟨w0, hts⟩, hr, hlk, hG⟩ := id hC
  unfold o_kgetS at h
  split at h
  · rename_i q r
    by_cases hq : q.1 = t ∧ ce_R S (1000 + t) f q.2 = 0
    · rw [if_pos hq] at h
      have hv : q.2 < ce_C S t := by have := ce_okT_hd hT; rw [← hq.1]; exact this
      have w := hk _ _ _ _ _ h p e s m args below meth c D ca b0 ad0 S0 ad H locs rls hC h61 hX hR (ce_okT_cons ((hR.2.2.2.1.1 t f q.2 hv hso hq.2).1 _ hfk) (ce_okT_tl hT)) h1 h2
      rw [hp'] at w
      rw [hp]
      obtain ⟨⟨ho, -, -⟩, -, -⟩ := hR.1.1 t q.2 hv (by rw [hso]; decide)
      obtain ⟨r', hr1, hr2⟩ := ho hso
      rw [hci, hc] at hr1
      cases hr1
      rw [hci] at hr2
      have hq2 : ce_val ad (.inr (.inl q)) = .ref (ad t q.2) := by rw [← hq.1]; rfl
      rw [List.map_cons, hq2]
      exact ce_get hx hb hts (fun w hw => List.mem_cons_of_mem _ (hcw w hw)) hown hG.1.1.1 hr2 hc f hf (ce_wIn hts hw rfl) (by show ce_fvK ad S t f q.2 = _; unfold ce_fvK; rw [hfk]; exact if_pos hq.2) hd w
    · rw [if_neg hq] at h; cases h
  · cases h
theorem kk_getM {t f ci ix wp N t' : Nat} {C : String} {T : u_T} (hp : pcs.getD i 0 = pc) (hp' : pcs.getD (i + 1) 0 = pc + 3) (hd : decode cc pc = .ok (.getfield ix, 3)) (hso : ce_so t = 0) (hci : ∀ j, ce_ci t j = ci) (hc : vwCl[ci]? = some (C, T, N)) (hcw : ∀ w ∈ u_ws C T N, w ∈ ce_tw) (hf : f < N) (hfk : ce_fk t f = .inr (.inr t')) (hw : lw_tbl[wp]? = some (Cond.fieldLink own ix (T f).1 (T f).2.1 (T f).2.2.1)) : ce_OkK l cc own nL rt d MC MS pcs i (o_kgetM t f t') := by
  intro nn ls st S k res h hk p e s m args below meth c D ca b0 ad0 S0 ad H locs rls hC h61 hX hR hT h1 h2
  obtain ⟨hx, hb, hml, hown, ⟨w0, hts⟩, hr, hlk, hG⟩ := id hC
  unfold o_kgetM at h
  split at h
  · rename_i q r
    by_cases hq : q.1 = t ∧ ce_R S (1000 + t) f q.2 = 0
    · rw [if_pos hq] at h
      have hv : q.2 < ce_C S t := by have := ce_okT_hd hT; rw [← hq.1]; exact this
      have w := hk _ _ _ _ _ h p e s m args below meth c D ca b0 ad0 S0 ad H locs rls hC h61 hX hR (ce_okT_cons ((hR.2.2.2.1.1 t f q.2 hv hso hq.2).2 _ hfk) (ce_okT_tl hT)) h1 h2
      rw [hp'] at w
      rw [hp]
      obtain ⟨⟨ho, -, -⟩, -, -⟩ := hR.1.1 t q.2 hv (by rw [hso]; decide)
      obtain ⟨r', hr1, hr2⟩ := ho hso
      rw [hci, hc] at hr1
      cases hr1
      rw [hci] at hr2
      have hq2 : ce_val ad (.inr (.inl q)) = .ref (ad t q.2) := by rw [← hq.1]; rfl
      rw [List.map_cons, hq2]
      exact ce_get hx hb hts (fun w hw => List.mem_cons_of_mem _ (hcw w hw)) hown hG.1.1.1 hr2 hc f hf (ce_wIn hts hw rfl) (by show ce_fvK ad S t f q.2 = _; unfold ce_fvK; rw [hfk]; exact if_pos hq.2) hd w
    · rw [if_neg hq] at h; cases h
  · cases h
theorem kk_ist {t : Nat} (hp : pcs.getD i 0 = pc) (hp' : pcs.getD (i + 1) 0 = pc + 1) (hd : decode cc pc = .ok (.iastore, 1)) (hso : ce_so t = 1) : ce_OkK l cc own nL rt d MC MS pcs i (o_ist t) := by
  intro nn ls st S k res h hk p e s m args below meth c D ca b0 ad0 S0 ad H locs rls hC h61 hX hR hT h1 h2
  obtain ⟨hx, hb, hml, hown, ⟨w0, hts⟩, hr, hlk, hG⟩ := id hC
  unfold o_ist at h
  simp only [ce_bt] at h
  split at h
  · rename_i x j q r
    by_cases hq : q.1 = t
    · rw [if_pos hq] at h
      by_cases hj : j < 0 ∨ ce_len S t q.2 ≤ j.toNatClampNeg
      · rw [if_pos hj] at h; cases h
      · rw [if_neg hj] at h
        rw [hp]
        have hv : q.2 < ce_C S t := by have := ce_okT_hd (ce_okT_tl (ce_okT_tl hT)); rw [← hq]; exact this
        obtain ⟨⟨-, ho, -⟩, hb0, -⟩ := hR.1.1 t q.2 hv (by rw [hso]; decide)
        have hq2 : ce_val ad (.inr (.inl q)) = .ref (ad t q.2) := by rw [← hq]; rfl
        rw [List.map_cons, List.map_cons, List.map_cons, hq2]
        refine W.iast hx hb (ho hso) ((hG.1.1.1.2 0 _ rfl).1 _ (fun j => .int (ce_A S t q.2 j))) (fun q => by cases q) (by show ¬ (j < 0 ∨ (arrV _ _ _).slots.size ≤ _); rw [arrV_size]; exact hj) rfl rfl hd (fun H1 e1 e2 e3 => ?_)
        have hc : H1[ad t q.2]? = some (vp_cell (ca 0) (ce_len S t q.2, .inl (fun e => ce_A (ce_sA S t q.2 j.toNatClampNeg x) t q.2 e))) := by
          rw [e1, vp_cell_i, vp_cell_i, arrV_store]
          congr 2
          funext z
          unfold updV
          by_cases hz : z = j.toNatClampNeg
          · subst hz
            rw [if_pos rfl]
            exact congrArg Value.int (ce_u_eq S.2.2.1 t q.2 _ x).symm
          · rw [if_neg hz]
            exact congrArg Value.int (ce_u_ne S.2.2.1 x (fun y => hz y.2.2)).symm
        have w := hk _ _ _ _ _ h p e s m args below meth c D ca b0 ad0 S0 ad H1 _ rls hC h61 hX ⟨hR.1.set hR.2.2.2.1 hv (by rw [hso]; decide) e2 e3 (fun _ => rfl) ⟨(fun z => by rw [hso] at z; cases z), fun _ => hc, (fun z => by rw [hso] at z; cases z)⟩ (fun t' i' hne _ => ⟨fun _ => rfl, fun _ => rfl, fun _ => rfl, fun e => ce_u_ne S.2.2.1 x (fun y => hne ⟨y.1, y.2.1⟩), rfl, fun _ _ _ => rfl⟩), ce_S_put (lc := ⟨ad t q.2, j.toNatClampNeg⟩) hR.2.1 e2 e3 hb0 rfl, hR.2.2.1, hR.2.2.2.1, ce_okL_kept (fun _ => rfl) hR.2.2.2.2.1, ce_ag_kept (fun _ => rfl) hR.2.2.2.2.2⟩ (ce_okT_kept (fun _ => rfl) (ce_okT_tl (ce_okT_tl (ce_okT_tl hT)))) h1 h2
        rw [hp'] at w
        exact w
    · rw [if_neg hq] at h; cases h
  · cases h
theorem kk_alen {t : Nat} (hp : pcs.getD i 0 = pc) (hp' : pcs.getD (i + 1) 0 = pc + 1) (hd : decode cc pc = .ok (.arraylength, 1)) (hso : ce_so t = 1 ∨ ce_so t = 2 ∧ ce_ac t < 6) : ce_OkK l cc own nL rt d MC MS pcs i (o_alen t) := by
  intro nn ls st S k res h hk p e s m args below meth c D ca b0 ad0 S0 ad H locs rls hC h61 hX hR hT h1 h2
  obtain ⟨hx, hb, hml, hown, ⟨w0, hts⟩, hr, hlk, hG⟩ := id hC
  unfold o_alen at h
  simp only [ce_bt] at h
  split at h
  · rename_i q r
    by_cases hq : q.1 = t
    · rw [if_pos hq] at h
      have w := hk _ _ _ _ _ h p e s m args below meth c D ca b0 ad0 S0 ad H locs rls hC h61 hX hR (ce_okT_cons trivial (ce_okT_tl hT)) h1 h2
      rw [hp'] at w
      rw [hp]
      have hv : q.2 < ce_C S t := by have := ce_okT_hd hT; rw [← hq]; exact this
      have hq2 : ce_val ad (.inr (.inl q)) = .ref (ad t q.2) := by rw [← hq]; rfl
      rw [List.map_cons, hq2]
      rcases hso with hso | ⟨hso, hac⟩
      · obtain ⟨⟨-, ho, -⟩, -, -⟩ := hR.1.1 t q.2 hv (by rw [hso]; decide)
        exact va_alen (D := D) (cl := vwCl) (ws := [(ad t q.2, .inl (ca 0, ce_len S t q.2, .inl (fun e => ce_A S t q.2 e)))]) hx hb hG.1.1.1 (ce_P1 (ho hso)) 0 0 rfl rfl rfl hd w
      · obtain ⟨⟨-, -, ho⟩, -, -⟩ := hR.1.1 t q.2 hv (by rw [hso]; decide)
        have hty : ∃ ty, (ce_tys ca)[ce_ac t]? = some (ca (ce_ac t), ty) := by
          generalize ce_ac t = z at hac
          match z, hac with
          | 0, _ => exact ⟨_, rfl⟩
          | 1, _ => exact ⟨_, rfl⟩
          | 2, _ => exact ⟨_, rfl⟩
          | 3, _ => exact ⟨_, rfl⟩
          | 4, _ => exact ⟨_, rfl⟩
          | 5, _ => exact ⟨_, rfl⟩
          | n + 6, h => omega
        obtain ⟨ty, hty⟩ := hty
        exact va_alen (D := D) (cl := vwCl) (ws := [(ad t q.2, .inl (ca (ce_ac t), ce_len S t q.2, .inr (.inr (.inr (.inr (fun e => (ce_elK S t q.2 e).map (ad (ce_et t))))))))]) hx hb hG.1.1.1 (ce_P1 (ho hso)) 0 (ce_ac t) rfl hty rfl hd w
    · rw [if_neg hq] at h; cases h
  · cases h
theorem kk_oinit {ix p1 p2 p3 : Nat} (hp : pcs.getD i 0 = pc) (hp' : pcs.getD (i + 1) 0 = pc + 3) (hd : decode cc pc = .ok (.invokespecial ix, 3)) (hD : 1 ≤ d) (w1 : lw_tbl[p1]? = some (Cond.methodLink own ix Lib.objectInit)) (w2 : lw_tbl[p2]? = some (Cond.instanceMethod Lib.objectInit)) (w3 : lw_tbl[p3]? = some (Cond.code Lib.objectInit ⟨#[0xb1]⟩ 1 none)) (g1 : goodWord (Cond.methodLink own ix Lib.objectInit) = true) (g2 : goodWord (Cond.instanceMethod Lib.objectInit) = true) (g3 : goodWord (Cond.code Lib.objectInit ⟨#[0xb1]⟩ 1 none) = true) : ce_OkK l cc own nL rt d MC MS pcs i o_kinit := by
  intro nn ls st S k res h hk p e s m args below meth c D ca b0 ad0 S0 ad H locs rls hC h61 hX hR hT h1 h2
  obtain ⟨hx, hb, hml, hown, ⟨w0, hts⟩, hr, hlk, hG, hnm⟩ := id hC
  unfold o_kinit at h
  split at h
  · rename_i q r
    split at h
    · rename_i hl
      have w := hk _ _ _ _ _ h p e s m args below meth c D ca b0 ad0 S0 ad H locs rls hC h61 hX hR (ce_okT_tl hT) h1 h2
      rw [hp'] at w
      rw [hp, List.map_cons]
      have h8 := ce_cat8 (ad := ad) hl
      refine W.objInit hx hb hown (ce_wIn hts w1 g1) (ce_wIn hts w2 g2) (ce_wIn hts w3 g3) (g := F0 m pc rls (ce_val ad (.inr (.inl q)) :: r.map (ce_val ad))) rfl (by rw [hml]; exact hR.2.2.1.1) (a := ad q.1 q.2) rfl hd hD (by show 2 * 0 + _ + 12 ≤ 60 * d; omega) ?_
      exact w
    · cases h
  · cases h
end KRD
