/-! the K-machine: rows of rows -/
section KAB
variable {l : Launch} {cc : ByteArray} {own : String} {nL : Nat} {rt : Option FieldType} {d MC MS : Nat} {pcs : List Nat} {i pc : Nat}
theorem k_aastA {p : Program} {e : Env} {R : Room} {s : State} {m : MethodId} {args : Array Value} {below : List Frame} {meth : Method} {c : Code} {H : Heap} {locs : List Loc} {cells slots : Nat} {Q : State → Prop} {ls : Array Slot} {rest : List Value} {D : va_G} {ca : Nat → ClassId} {b0 : Nat → Prop} {ad : Nat → Nat → Nat} {S : ce_S} {t j v : Nat} {x : Int32}
    (hx : p.tables.exec = Jvm.exec) (hb : c.code = cc) (hd : decode cc pc = .ok (.aastore, 1)) (hG : ce_GK D ca s) (hH : ce_HK D ca b0 ad S H) (hj : j < ce_C S t) (hv : v < ce_C S (ce_et t)) (hso : ce_so t = 2) (het : ce_so (ce_et t) = 1) (hac : ce_ac t = 5) (hin : ¬ (x < 0 ∨ ce_len S t j ≤ x.toNatClampNeg))
    (kk : ∀ (H1 : Heap), H1[ad t j]? = some (vp_cell (ca (ce_ac t)) (ce_len S t j, .inr (.inr (.inr (.inr (fun e => if e = x.toNatClampNeg then some (ad (ce_et t) v) else (ce_elK S t j e).map (ad (ce_et t)))))))) → H1.size = H.size → (∀ q : Nat, q ≠ ad t j → H1[q]? = H[q]?) → W p l e R s m args below meth c H1 (locs ++ [⟨ad t j, x.toNatClampNeg⟩]) cells slots Q (F0 m (pc + 1) ls rest)) : W p l e R s m args below meth c H locs cells slots Q (F0 m pc ls (.ref (ad (ce_et t) v) :: .int x :: .ref (ad t j) :: rest)) := by
  have hlt : x.toNatClampNeg < ce_len S t j := Nat.not_le.mp fun q => hin (Or.inr q)
  have h0 : ¬ x < 0 := fun q => hin (Or.inl q)
  obtain ⟨⟨-, -, ho⟩, -, -⟩ := hH.1 t j hj (by rw [hso]; decide)
  obtain ⟨⟨-, hov, -⟩, -, -⟩ := hH.1 (ce_et t) v hv (by rw [het]; decide)
  have g1 := hov het
  obtain ⟨comp, cA, kA, f1, -, k1, k2, f5⟩ := arrayOverA_spec hG.2.2.1
  have hc5 : cA = ca (ce_ac t) := by
    rw [hac]
    exact Option.some.inj (f5.symm.trans (hG.1.1.2 5 (ca 5, .array .int) rfl).2)
  have hc0 : comp = ca 0 := ce_arr0 hG f1
  rw [hc5] at k1
  obtain ⟨kE, hkE, -⟩ := Vm.findClass_spec f1
  have hkC : s.vm.classes[ca 0]? = some kE := by rw [← hc0]; exact hkE
  refine W.aast hx hb (ho hso) (fun q h => by cases h) (fun h => by cases h) k1 k2 rfl hkE ⟨h0, by show _ < (arrV _ _ _).slots.size; rw [arrV_size]; exact hlt⟩ g1 (fun q h => by cases h) hkC (by rw [hc0]; exact va_asg _ _) rfl rfl hd (fun H1 e1 e2 e3 => kk H1 ?_ e2 e3)
  rw [e1, vp_cell_q, vp_cell_q, arrV_store]
  congr 2
  funext z
  unfold updV
  by_cases hz : z = x.toNatClampNeg
  · rw [if_pos hz, if_pos hz]; rfl
  · rw [if_neg hz, if_neg hz]
theorem kk_aastA {t : Nat} {g : Nat → Nat} (hp : pcs.getD i 0 = pc) (hp' : pcs.getD (i + 1) 0 = pc + 1) (hd : decode cc pc = .ok (.aastore, 1)) (hso : ce_so t = 2) (heg : ce_eg t = some g) (het : ce_so (ce_et t) = 1) (hac : ce_ac t = 5) : ce_OkK l cc own nL rt d MC MS pcs i (o_kaast t g) := by
  intro nn ls st S k res h hk p e s m args below meth c D ca b0 ad0 S0 ad H locs rls hC h61 hX hR hT h1 h2
  obtain ⟨hx, hb, hml, hown, ⟨w0, hts⟩, hr, hlk, hG, hnm⟩ := id hC
  unfold o_kaast at h
  split at h
  · rename_i v x q r
    split at h
    · rename_i hcond
      obtain ⟨⟨hq1, hq2, hq3⟩, hin⟩ := hcond
      have hj : q.2 < ce_C S t := by have := ce_okT_hd (ce_okT_tl (ce_okT_tl hT)); rw [← hq1]; exact this
      have hv : v.2 < ce_C S (ce_et t) := by have := ce_okT_hd hT; rw [← hq2]; exact this
      have ev : ce_val ad (.inr (.inl v)) = .ref (ad (ce_et t) v.2) := by rw [← hq2]; rfl
      have eq : ce_val ad (.inr (.inl q)) = .ref (ad t q.2) := by rw [← hq1]; rfl
      have hb0 := (hR.1.1 t q.2 hj (by rw [hso]; decide)).2.1
      rw [hp, List.map_cons, List.map_cons, List.map_cons, ev, eq]
      refine k_aastA hx hb hd hG hR.1 hj hv hso het hac hin (fun H1 e1 e2 e3 => ?_)
      have hlt0 := ce_so_lt (t := t) (by rw [hso]; decide)
      have eU : ∀ e, e ≠ x.toNatClampNeg → ce_R (kS_putS S t x.toNatClampNeg q.2) (1000 + t) e q.2 = ce_R S (1000 + t) e q.2 := fun e he => by unfold kS_putS; rw [r_R_sR2, if_neg (fun z => he z.2.1)]
      have eU2 : ce_R (kS_putS S t x.toNatClampNeg q.2) (1000 + t) x.toNatClampNeg q.2 = 0 := by unfold kS_putS; rw [r_R_sR2, if_pos ⟨rfl, rfl, rfl⟩]
      have eL : ∀ e, ce_el (kS_putS S t x.toNatClampNeg q.2) t e = ce_el S t e := fun e => rfl
      have eX : ce_elK (kS_putS S t x.toNatClampNeg q.2) t q.2 x.toNatClampNeg = some v.2 := by
        unfold ce_elK ce_el
        rw [eU2, if_pos rfl, heg]
        exact congrArg some hq3.symm
      have hat : ce_atK D ca ad (kS_putS S t x.toNatClampNeg q.2) t q.2 H1 := by
        refine ⟨(fun z => by rw [hso] at z; cases z), (fun z => by rw [hso] at z; cases z), fun _ => ?_⟩
        rw [e1, vp_cell_q, vp_cell_q]
        show some (arrV _ (ce_len S t q.2) _) = some (arrV _ (ce_len S t q.2) _)
        refine congrArg some (arrV_cg (fun e _ => congrArg va_rf ?_))
        by_cases he : e = x.toNatClampNeg
        · rw [if_pos he, he, eX]; rfl
        · rw [if_neg he]
          unfold ce_elK
          rw [eU e he, eL]
      have hok : kokS (kS_putS S t x.toNatClampNeg q.2) := by
        refine ⟨fun t' k i hi ht hU => ?_, fun t' i e y hi ht he hy => ?_⟩
        · have hlt := ce_so_lt (t := t') (by rw [ht]; decide)
          have hR2 : ce_R (kS_putS S t x.toNatClampNeg q.2) t' k i = ce_R S t' k i := by unfold kS_putS; rw [r_R_sR2, if_neg (fun z => by omega)]
          rw [hR2]
          refine hR.2.2.2.1.1 t' k i hi ht ?_
          unfold kS_putS at hU
          rw [r_R_sR2, if_neg (fun z => by
            have : t' = t := by omega
            subst this; rw [hso] at ht; cases ht)] at hU
          exact hU
        · by_cases hc3 : t' = t ∧ e = x.toNatClampNeg ∧ i = q.2
          · obtain ⟨rfl, rfl, rfl⟩ := hc3
            rw [eX] at hy
            cases hy
            exact hv
          · refine hR.2.2.2.1.2 t' i e y hi ht he ?_
            have eU3 : ce_R (kS_putS S t x.toNatClampNeg q.2) (1000 + t') e i = ce_R S (1000 + t') e i := by unfold kS_putS; rw [r_R_sR2, if_neg (fun z => hc3 ⟨by omega, z.2⟩)]
            unfold ce_elK at hy ⊢
            rw [eU3] at hy
            exact hy
      have w := hk _ _ _ _ _ h p e s m args below meth c D ca b0 ad0 S0 ad H1 _ rls hC h61 hX ⟨hR.1.set hR.2.2.2.1 hj (by rw [hso]; decide) e2 e3 (fun _ => rfl) hat (kstay_S S t x.toNatClampNeg q.2), ce_S_put (lc := ⟨ad t q.2, x.toNatClampNeg⟩) hR.2.1 e2 e3 hb0 rfl, hR.2.2.1, hok, ce_okL_kept (fun _ => rfl) hR.2.2.2.2.1, ce_ag_kept (fun _ => rfl) hR.2.2.2.2.2⟩ (ce_okT_kept (fun _ => rfl) (ce_okT_tl (ce_okT_tl (ce_okT_tl hT)))) h1 h2
      rw [hp'] at w
      exact w
    · cases h
  · cases h
end KAB
