/-! the K-machine: rows of references -/
def o_kaast (t : Nat) (g : Nat → Nat) : ce_Op := fun i nn ls st S k => match st with
  | .inr (.inl v) :: .inl x :: .inr (.inl q) :: r => if (q.1 = t ∧ v.1 = ce_et t ∧ v.2 = g x.toNatClampNeg) ∧ ¬ (x < 0 ∨ ce_len S t q.2 ≤ x.toNatClampNeg) then k (i + 1) nn ls r (kS_putS S t x.toNatClampNeg q.2) else none
  | _ => none
def o_kaastQ : ce_Op := fun i nn ls st S k => match st with
  | .inr (.inl v) :: .inl x :: .inr (.inl q) :: r => if ((q.1 = 5 ∧ v.1 = 13) ∧ ce_C S 5 = 1 ∧ ce_R S 1005 x.toNatClampNeg q.2 = 0) ∧ ¬ (x < 0 ∨ ce_len S 5 q.2 ≤ x.toNatClampNeg) then k (i + 1) nn ls r (ce_sQ S x.toNatClampNeg v.2) else none
  | _ => none
section KAA
variable {l : Launch} {cc : ByteArray} {own : String} {nL : Nat} {rt : Option FieldType} {d MC MS : Nat} {pcs : List Nat} {i pc : Nat}
/-- an item is put into a row -/
theorem k_aast {p : Program} {e : Env} {R : Room} {s : State} {m : MethodId} {args : Array Value} {below : List Frame} {meth : Method} {c : Code} {H : Heap} {locs : List Loc} {cells slots : Nat} {Q : State → Prop} {ls : Array Slot} {rest : List Value} {D : va_G} {ca : Nat → ClassId} {b0 : Nat → Prop} {ad : Nat → Nat → Nat} {S : ce_S} {t j v : Nat} {x : Int32} {E : String}
    (hx : p.tables.exec = Jvm.exec) (hb : c.code = cc) (hd : decode cc pc = .ok (.aastore, 1)) (hG : ce_GK D ca s) (hH : ce_HK D ca b0 ad S H) (hj : j < ce_C S t) (hv : v < ce_C S (ce_et t)) (hso : ce_so t = 2) (het : ce_so (ce_et t) = 0) (hty : (ca (ce_ac t), FieldType.object E) ∈ ce_tys ca) (hE : ∀ r, vwCl[ce_ci (ce_et t) v]? = some r → r.1 = E ∨ (E = RX3 ∧ r.1 ∈ [RX0, RX1, RX2, RX7, RX8])) (hin : ¬ (x < 0 ∨ ce_len S t j ≤ x.toNatClampNeg))
    (kk : ∀ (H1 : Heap), H1[ad t j]? = some (vp_cell (ca (ce_ac t)) (ce_len S t j, .inr (.inr (.inr (.inr (fun e => if e = x.toNatClampNeg then some (ad (ce_et t) v) else (ce_elK S t j e).map (ad (ce_et t)))))))) → H1.size = H.size → (∀ q : Nat, q ≠ ad t j → H1[q]? = H[q]?) → W p l e R s m args below meth c H1 (locs ++ [⟨ad t j, x.toNatClampNeg⟩]) cells slots Q (F0 m (pc + 1) ls rest)) : W p l e R s m args below meth c H locs cells slots Q (F0 m pc ls (.ref (ad (ce_et t) v) :: .int x :: .ref (ad t j) :: rest)) := by
  have hlt : x.toNatClampNeg < ce_len S t j := Nat.not_le.mp fun q => hin (Or.inr q)
  have h0 : ¬ x < 0 := fun q => hin (Or.inl q)
  obtain ⟨⟨-, -, ho⟩, -, -⟩ := hH.1 t j hj (by rw [hso]; decide)
  obtain ⟨⟨hov, -, -⟩, -, -⟩ := hH.1 (ce_et t) v hv (by rw [het]; decide)
  obtain ⟨r, hr1, cellV, g1, g2, g3, -⟩ := hov het
  have hcls := (hG.1.1.1 _ r hr1).2
  obtain ⟨i5, hi5⟩ := List.getElem?_of_mem hty
  obtain ⟨kA, comp, k1, k2, k3, -⟩ := (hG.1.1.2 i5 _ hi5).2
  obtain ⟨kE, hkE, -⟩ := Vm.findClass_spec k3
  obtain ⟨kC, hkC, -⟩ := hcls.2
  have hasg : s.vm.assignable (D.1 (ce_ci (ce_et t) v)) comp = true := by
    rcases hE r hr1 with q | ⟨q1, q2⟩
    · have hcomp : comp = D.1 (ce_ci (ce_et t) v) := Option.some.inj (k3.symm.trans (by rw [← q]; exact hcls.1))
      rw [hcomp]; exact va_assign hcls
    · obtain ⟨c0, t1, f1, f2, f3⟩ := Cond.castable_spec (va_Nw.use (A := args) rfl (hG.2.2.2.1 _ q2))
      cases hcls.1.symm.trans f1
      rw [q1] at k3
      cases k3.symm.trans f2
      exact f3
  refine W.aast hx hb (ho hso) (fun q h => by cases h) (fun h => by cases h) k1 k2 rfl hkE ⟨h0, by show _ < (arrV _ _ _).slots.size; rw [arrV_size]; exact hlt⟩ g1 (fun q h => by rw [g3] at h; cases h) (by rw [g2]; exact hkC) (by rw [g2]; exact hasg) rfl rfl hd (fun H1 e1 e2 e3 => kk H1 ?_ e2 e3)
  rw [e1, vp_cell_q, vp_cell_q, arrV_store]
  congr 2
  funext z
  unfold updV
  by_cases hz : z = x.toNatClampNeg
  · rw [if_pos hz, if_pos hz]; rfl
  · rw [if_neg hz, if_neg hz]
theorem kk_aast {t : Nat} {g : Nat → Nat} {E : String} (hp : pcs.getD i 0 = pc) (hp' : pcs.getD (i + 1) 0 = pc + 1) (hd : decode cc pc = .ok (.aastore, 1)) (hso : ce_so t = 2) (heg : ce_eg t = some g) (het : ce_so (ce_et t) = 0) (hty : ∀ ca : Nat → ClassId, (ca (ce_ac t), FieldType.object E) ∈ ce_tys ca) (hE : ∀ v r, vwCl[ce_ci (ce_et t) v]? = some r → r.1 = E ∨ (E = RX3 ∧ r.1 ∈ [RX0, RX1, RX2, RX7, RX8])) : ce_OkK l cc own nL rt d MC MS pcs i (o_kaast t g) := by
  intro nn ls st S k res h hk p e s m args below meth c D ca b0 ad0 S0 ad H locs rls hC h61 hX hR hT h1 h2
  obtain ⟨hx, hb, hml, hown, ⟨w0, hts⟩, hr, hlk, hG, hnm⟩ := id hC
  unfold o_kaast at h
  split at h
  · rename_i v x q r
    split at h
    · rename_i hcond
      obtain ⟨⟨hq1, hq2, hq3⟩, hin⟩ := hcond
      have hj : q.2 < ce_C S t := by have := ce_okT_hd (ce_okT_tl (ce_okT_tl hT)); rw [← hq1]; exact this
      have hv : v.2 < ce_C S (ce_et t) := by have := ce_okT_hd hT; rw [← hq2]; exact this
      have ev : ce_val ad (.inr (.inl v)) = .ref (ad (ce_et t) v.2) := by rw [← hq2]; rfl
      have eq : ce_val ad (.inr (.inl q)) = .ref (ad t q.2) := by rw [← hq1]; rfl
      have hb0 := (hR.1.1 t q.2 hj (by rw [hso]; decide)).2.1
      rw [hp, List.map_cons, List.map_cons, List.map_cons, ev, eq]
      refine k_aast hx hb hd hG hR.1 hj hv hso het (hty ca) (hE v.2) hin (fun H1 e1 e2 e3 => ?_)
      have hlt0 := ce_so_lt (t := t) (by rw [hso]; decide)
      have eU : ∀ e, e ≠ x.toNatClampNeg → ce_R (kS_putS S t x.toNatClampNeg q.2) (1000 + t) e q.2 = ce_R S (1000 + t) e q.2 := fun e he => by unfold kS_putS; rw [r_R_sR2, if_neg (fun z => he z.2.1)]
      have eU2 : ce_R (kS_putS S t x.toNatClampNeg q.2) (1000 + t) x.toNatClampNeg q.2 = 0 := by unfold kS_putS; rw [r_R_sR2, if_pos ⟨rfl, rfl, rfl⟩]
      have eL : ∀ e, ce_el (kS_putS S t x.toNatClampNeg q.2) t e = ce_el S t e := fun e => rfl
      have eX : ce_elK (kS_putS S t x.toNatClampNeg q.2) t q.2 x.toNatClampNeg = some v.2 := by
        unfold ce_elK ce_el
        rw [eU2, if_pos rfl, heg]
        exact congrArg some hq3.symm
      have hat : ce_atK D ca ad (kS_putS S t x.toNatClampNeg q.2) t q.2 H1 := by
        refine ⟨(fun z => by rw [hso] at z; cases z), (fun z => by rw [hso] at z; cases z), fun _ => ?_⟩
        rw [e1, vp_cell_q, vp_cell_q]
        show some (arrV _ (ce_len S t q.2) _) = some (arrV _ (ce_len S t q.2) _)
        refine congrArg some (arrV_cg (fun e _ => congrArg va_rf ?_))
        by_cases he : e = x.toNatClampNeg
        · rw [if_pos he, he, eX]; rfl
        · rw [if_neg he]
          unfold ce_elK
          rw [eU e he, eL]
      have hok : kokS (kS_putS S t x.toNatClampNeg q.2) := by
        refine ⟨fun t' k i hi ht hU => ?_, fun t' i e y hi ht he hy => ?_⟩
        · have hlt := ce_so_lt (t := t') (by rw [ht]; decide)
          have hR2 : ce_R (kS_putS S t x.toNatClampNeg q.2) t' k i = ce_R S t' k i := by unfold kS_putS; rw [r_R_sR2, if_neg (fun z => by omega)]
          rw [hR2]
          refine hR.2.2.2.1.1 t' k i hi ht ?_
          unfold kS_putS at hU
          rw [r_R_sR2, if_neg (fun z => by
            have : t' = t := by omega
            subst this; rw [hso] at ht; cases ht)] at hU
          exact hU
        · by_cases hc3 : t' = t ∧ e = x.toNatClampNeg ∧ i = q.2
          · obtain ⟨rfl, rfl, rfl⟩ := hc3
            rw [eX] at hy
            cases hy
            exact hv
          · refine hR.2.2.2.1.2 t' i e y hi ht he ?_
            have eU3 : ce_R (kS_putS S t x.toNatClampNeg q.2) (1000 + t') e i = ce_R S (1000 + t') e i := by unfold kS_putS; rw [r_R_sR2, if_neg (fun z => hc3 ⟨by omega, z.2⟩)]
            unfold ce_elK at hy ⊢
            rw [eU3] at hy
            exact hy
      have w := hk _ _ _ _ _ h p e s m args below meth c D ca b0 ad0 S0 ad H1 _ rls hC h61 hX ⟨hR.1.set hR.2.2.2.1 hj (by rw [hso]; decide) e2 e3 (fun _ => rfl) hat (kstay_S S t x.toNatClampNeg q.2), ce_S_put (lc := ⟨ad t q.2, x.toNatClampNeg⟩) hR.2.1 e2 e3 hb0 rfl, hR.2.2.1, hok, ce_okL_kept (fun _ => rfl) hR.2.2.2.2.1, ce_ag_kept (fun _ => rfl) hR.2.2.2.2.2⟩ (ce_okT_kept (fun _ => rfl) (ce_okT_tl (ce_okT_tl (ce_okT_tl hT)))) h1 h2
      rw [hp'] at w
      exact w
    · cases h
  · cases h
theorem kk_aastQ (hp : pcs.getD i 0 = pc) (hp' : pcs.getD (i + 1) 0 = pc + 1) (hd : decode cc pc = .ok (.aastore, 1)) (hty : ∀ ca : Nat → ClassId, (ca (ce_ac 5), FieldType.object RX10) ∈ ce_tys ca) (hE : ∀ v r, vwCl[ce_ci 13 v]? = some r → r.1 = RX10 ∨ (RX10 = RX3 ∧ r.1 ∈ [RX0, RX1, RX2, RX7, RX8])) : ce_OkK l cc own nL rt d MC MS pcs i o_kaastQ := by
  intro nn ls st S k res h hk p e s m args below meth c D ca b0 ad0 S0 ad H locs rls hC h61 hX hR hT h1 h2
  obtain ⟨hx, hb, hml, hown, ⟨w0, hts⟩, hr, hlk, hG, hnm⟩ := id hC
  unfold o_kaastQ at h
  split at h
  · rename_i v x q r
    split at h
    · rename_i hcond
      obtain ⟨⟨⟨hq1, hq2⟩, hq3, hq4⟩, hin⟩ := hcond
      have hj : q.2 < ce_C S 5 := by have := ce_okT_hd (ce_okT_tl (ce_okT_tl hT)); rw [← hq1]; exact this
      have hv : v.2 < ce_C S 13 := by have := ce_okT_hd hT; rw [← hq2]; exact this
      have ev : ce_val ad (.inr (.inl v)) = .ref (ad (ce_et 5) v.2) := by show Value.ref (ad v.1 v.2) = _; rw [hq2]; rfl
      have eq : ce_val ad (.inr (.inl q)) = .ref (ad 5 q.2) := by show Value.ref (ad q.1 q.2) = _; rw [hq1]
      have hb0 := (hR.1.1 5 q.2 hj (by decide)).2.1
      rw [hp, List.map_cons, List.map_cons, List.map_cons, ev, eq]
      refine k_aast (t := 5) hx hb hd hG hR.1 hj hv rfl rfl (hty ca) (hE v.2) hin (fun H1 e1 e2 e3 => ?_)
      have eX : ∀ e, ce_elK (ce_sQ S x.toNatClampNeg v.2) 5 q.2 e = if e = x.toNatClampNeg then some v.2 else ce_elK S 5 q.2 e := fun e => by
        show (if ce_R S 1005 e q.2 = 0 then (if e = x.toNatClampNeg then some v.2 else ce_Q S e) else none) = _
        by_cases he : e = x.toNatClampNeg
        · rw [if_pos he, he, if_pos hq4, if_pos rfl]
        · rw [if_neg he, if_neg he]; rfl
      have hat : ce_atK D ca ad (ce_sQ S x.toNatClampNeg v.2) 5 q.2 H1 := by
        refine ⟨(fun z => by cases z), (fun z => by cases z), fun _ => ?_⟩
        rw [e1, vp_cell_q, vp_cell_q]
        show some (arrV _ (ce_len S 5 q.2) _) = some (arrV _ (ce_len S 5 q.2) _)
        refine congrArg some (arrV_cg (fun e _ => congrArg va_rf ?_))
        rw [eX]
        by_cases he : e = x.toNatClampNeg
        · rw [if_pos he, if_pos he]; rfl
        · rw [if_neg he, if_neg he]
      have h5 : ∀ t', ce_so t' = 2 → ce_eg t' = none → t' = 5 := fun t' h2 hg => by
        unfold ce_so at h2
        unfold ce_eg at hg
        split at h2 <;> first | rfl | (cases h2; done) | (cases hg; done) | (simp at h2; done) | (simp at hg; done)
      have hstay : kstay S (ce_sQ S x.toNatClampNeg v.2) 5 q.2 := fun t' i' hne hs => ⟨fun _ => rfl, fun _ => rfl, fun _ => rfl, fun _ => rfl, rfl, fun h2 hi e => by
        unfold ce_el
        cases hg : ce_eg t' with
        | some g => rfl
        | none =>
          have := h5 t' h2 hg
          subst this
          exact absurd ⟨rfl, by omega⟩ hne⟩
      have hok : kokS (ce_sQ S x.toNatClampNeg v.2) := by
        refine ⟨hR.2.2.2.1.1, fun t' i e y hi ht he hy => ?_⟩
        by_cases h5' : t' = 5
        · subst h5'
          have hi1 : i = q.2 := by have hi : i < ce_C S 5 := hi; omega
          subst hi1
          rw [eX] at hy
          by_cases he2 : e = x.toNatClampNeg
          · rw [if_pos he2] at hy; cases hy; exact hv
          · rw [if_neg he2] at hy; exact hR.2.2.2.1.2 5 q.2 e y hi ht he hy
        · refine hR.2.2.2.1.2 t' i e y hi ht he ?_
          unfold ce_elK ce_el at hy ⊢
          cases hg : ce_eg t' with
          | some g => rw [hg] at hy; exact hy
          | none => exact absurd (h5 t' ht hg) h5'
      have w := hk _ _ _ _ _ h p e s m args below meth c D ca b0 ad0 S0 ad H1 _ rls hC h61 hX ⟨hR.1.set hR.2.2.2.1 hj (by decide) e2 e3 (fun _ => rfl) hat hstay, ce_S_put (lc := ⟨ad 5 q.2, x.toNatClampNeg⟩) hR.2.1 e2 e3 hb0 rfl, hR.2.2.1, hok, ce_okL_kept (fun _ => rfl) hR.2.2.2.2.1, ce_ag_kept (fun _ => rfl) hR.2.2.2.2.2⟩ (ce_okT_kept (fun _ => rfl) (ce_okT_tl (ce_okT_tl (ce_okT_tl hT)))) h1 h2
      rw [hp'] at w
      exact w
    · cases h
  · cases h
end KAA
