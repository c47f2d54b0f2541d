/-! the K-machine: steps that make cells -/
section KMK
variable {l : Launch} {cc : ByteArray} {own : String} {nL : Nat} {rt : Option FieldType} {d MC MS : Nat} {pcs : List Nat} {i pc : Nat}
theorem ce_RelK.push {D : va_G} {ca : Nat → ClassId} {b0 : Nat → Prop} {ad0 : Nat → Nat → Nat} {S0 : ce_S} {ad : Nat → Nat → Nat} {s : State} {H H1 : Heap} {locs : List Loc} {rls : Array Slot} {ls : List (Option ce_V)} {S S' : ce_S} {t : Nat} (hR : ce_RelK D ca b0 ad0 S0 ad s H locs rls nL ls S) (hX : ce_X ad0 b0 s) (hz : H1.size = H.size + 1) (ho : ∀ q : Nat, q < H.size → H1[q]? = H[q]?) (hC : ∀ t', ce_C S' t' = if t' = t then ce_C S t + 1 else ce_C S t') (hc : ce_so t < 3 → ce_atK D ca (kad ad S t H.size) S' t (ce_C S t) H1)
    (hkp : ∀ t' i', i' < ce_C S t' → ce_so t' < 3 → (∀ k, ce_I S' t' k i' = ce_I S t' k i') ∧ (∀ k, ce_R S' t' k i' = ce_R S t' k i') ∧ (∀ k, ce_R S' (1000 + t') k i' = ce_R S (1000 + t') k i') ∧ (∀ e, ce_A S' t' i' e = ce_A S t' i' e) ∧ ce_L S' t' i' = ce_L S t' i' ∧ (ce_so t' = 2 → ∀ e, ce_el S' t' e = ce_el S t' e)) (h1 : ce_so t = 0 → ∀ k, ce_R S' (1000 + t) k (ce_C S t) = 0 → ∃ u, ce_fk t k = .inl u) (h2 : ce_so t = 2 → ∀ e, e < ce_len S' t (ce_C S t) → ce_elK S' t (ce_C S t) e = none) : ce_RelK D ca b0 ad0 S0 (kad ad S t H.size) s H1 locs rls nL ls S' := by
  obtain ⟨r1, r2, r3, r4, r5, r6⟩ := hR
  have hb : b0 H.size := hX.2.2.2.2 _ r2.1
  have ha : ce_ag S ad S' (kad ad S t H.size) := kag hC
  refine ⟨r1.push r4 hb hz ho hC hc hkp, ⟨by rw [hz]; exact Nat.le_succ_of_le r2.1, fun q g1 g2 => (ho q (Nat.lt_of_lt_of_le g1 r2.1)).trans (r2.2.1 q g1 g2), r2.2.2⟩, ce_lv_ag ha r3 r5, kokS_push r4 hC hkp h1 h2, fun j v hj => ce_okV_ag ha (r5 j v hj), r6.trans ha⟩
theorem ce_okT_ag {S S' : ce_S} {ad ad' : Nat → Nat → Nat} (h : ce_ag S ad S' ad') {st : List ce_V} (hv : ce_okT S st) : ce_okT S' st := fun v hq => ce_okV_ag h (hv v hq)
theorem kk_new {t ix p1 p2 p3 N ci : Nat} {C : String} {T : u_T} (hp : pcs.getD i 0 = pc) (hp' : pcs.getD (i + 1) 0 = pc + 3) (hd : decode cc pc = .ok (.new ix, 3)) (hso : ce_so t = 0) (hc : vwCl[ci]? = some (C, T, N)) (hcw : ∀ w ∈ u_ws C T N, w ∈ ce_tw) (ty : Nat → FieldType) (hty : ∀ k, k < N → parseFieldDescriptor (T k).2.2.1 = some (ty k)) (hdf : ∀ k, k < N → defaultValue (ty k) = if kref t k = 0 then .int 0 else .null)
    (w1 : lw_tbl[p1]? = some (Cond.classLink own ix C)) (w2 : lw_tbl[p2]? = some (Cond.instantiable C N)) (w3 : lw_tbl[p3]? = some (Cond.initialized C)) (g1 : goodWord (Cond.classLink own ix C) = true) (g2 : goodWord (Cond.instantiable C N) = true) (g3 : goodWord (Cond.initialized C) = true) : ce_OkK l cc own nL rt d MC MS pcs i (o_knew t ci N MC MS) := by
  intro nn ls st S k res h hk p e s m args below meth c D ca b0 ad0 S0 ad H locs rls hC h61 hX hR hT h1 h2
  obtain ⟨hx, hb, hml, hown, ⟨w0, hts⟩, hr, hlk, hG, hnm⟩ := id hC
  unfold o_knew at h
  split at h
  · rename_i hcond
    obtain ⟨⟨q1, q2⟩, q3⟩ := hcond
    rw [hp]
    have hKn := hG.1.1.1 ci _ hc
    refine W.newcK hx hb hown (ce_wIn hts w1 g1) (ce_wIn hts w2 g2) (ce_wIn hts w3 g3) (g := F0 m pc rls (st.map (ce_val ad))) rfl hd q1 q2 hKn.2.1 rfl (fun H1 kC hkC e1 z1 o1 => ?_)
    have hcell : ce_so t < 3 → ce_atK D ca (kad ad S t H.size) (kS_new S t) t (ce_C S t) H1 := fun _ => by
      refine ⟨fun _ => ⟨(C, T, N), by rw [q3]; exact hc, ?_⟩, (fun z => by rw [hso] at z; cases z), (fun z => by rw [hso] at z; cases z)⟩
      rw [kad_new, q3]
      refine (u_born ty hts (fun w hw => List.mem_cons_of_mem _ (hcw w hw)) hKn hkC e1 hty).to (fun k hk => ?_)
      rw [hdf k hk]
      have eI : ce_I (kS_new S t) t k (ce_C S t) = 0 := by
        show (if t = t ∧ ce_C S t = ce_C S t then (0 : Int32) else _) = 0
        rw [if_pos ⟨rfl, rfl⟩]
      have eR : ce_R (kS_new S t) (1000 + t) k (ce_C S t) = kref t k := by
        show (if 1000 + t = 1000 + t ∧ ce_C S t = ce_C S t then kref t k else _) = _
        rw [if_pos ⟨rfl, rfl⟩]
      unfold ce_fvK
      rw [eR, eI]
      unfold kref
      cases ce_fk t k with
      | inl u => rfl
      | inr u => cases u <;> rfl
    have hR' := hR.push hX z1 o1 (kS_C_new S t) hcell (kS_kp_new S t) (fun _ k hz => by
      have eR : ce_R (kS_new S t) (1000 + t) k (ce_C S t) = kref t k := by
        show (if 1000 + t = 1000 + t ∧ ce_C S t = ce_C S t then kref t k else _) = _
        rw [if_pos ⟨rfl, rfl⟩]
      rw [eR] at hz
      unfold kref at hz
      cases hf : ce_fk t k with
      | inl u => exact ⟨u, rfl⟩
      | inr u => rw [hf] at hz; cases hz) (fun z => by rw [hso] at z; cases z)
    have ha : ce_ag S ad (kS_new S t) (kad ad S t H.size) := kag (kS_C_new S t)
    have w := hk _ _ _ _ _ h p e s m args below meth c D ca b0 ad0 S0 (kad ad S t H.size) H1 locs rls hC h61 hX hR' (ce_okT_cons (show ce_C S t < ce_C (kS_new S t) t by rw [kS_C_new, if_pos rfl]; omega) (ce_okT_ag ha hT)) q1 q2
    rw [hp', List.map_cons, ce_map_ag ha hT] at w
    have ev : ce_val (kad ad S t H.size) (.inr (.inl (t, ce_C S t))) = .ref H.size := congrArg Value.ref kad_new
    rw [ev] at w
    exact w
  · cases h
theorem ce_arr0 {D : va_G} {ca : Nat → ClassId} {s : State} (hG : ce_GK D ca s) {cA : ClassId} (h : s.vm.findClass ("[" ++ (FieldType.int).toString) = some cA) : cA = ca 0 := by
  have h2 := (hG.1.1.2 0 (ca 0, .int) rfl).2
  exact Option.some.inj (h.symm.trans h2)
theorem kk_newa {t p1 : Nat} (hp : pcs.getD i 0 = pc) (hp' : pcs.getD (i + 1) 0 = pc + 2) (hd : decode cc pc = .ok (.newarray .int, 2)) (hso : ce_so t = 1) (w1 : lw_tbl[p1]? = some (Cond.arrayClass .int)) : ce_OkK l cc own nL rt d MC MS pcs i (o_knewa t MC MS) := by
  intro nn ls st S k res h hk p e s m args below meth c D ca b0 ad0 S0 ad H locs rls hC h61 hX hR hT h1 h2
  obtain ⟨hx, hb, hml, hown, ⟨w0, hts⟩, hr, hlk, hG, hnm⟩ := id hC
  unfold o_knewa at h
  split at h
  · rename_i x r
    split at h
    · rename_i hcond
      obtain ⟨⟨⟨q1, q2⟩, q3⟩, q4, q5⟩ := hcond
      rw [hp]
      have h5 : ¬ t = 5 := fun z => by subst z; cases hso
      refine va_newaK hx hb (atype := .int) (ce_wIn hts w1 rfl) (g := F0 m pc rls ((.inl x :: r : List ce_V).map (ce_val ad))) rfl hd (n := x) (N := x.toNatClampNeg) rfl q3 rfl (by show x.toNatClampNeg * 4 ≤ 536870912; omega) q1 q2 rfl (fun H1 cA e1 z1 o1 hAr hNm => ?_)
      have hca : cA = ca 0 := ce_arr0 hG hNm
      have hcell : ce_so t < 3 → ce_atK D ca (kad ad S t H.size) (kS_row S t x.toNatClampNeg) t (ce_C S t) H1 := fun _ => by
        refine ⟨(fun z => by rw [hso] at z; cases z), fun _ => ?_, (fun z => by rw [hso] at z; cases z)⟩
        rw [kad_new, e1, hca, vp_cell_i]
        have el : ce_len (kS_row S t x.toNatClampNeg) t (ce_C S t) = x.toNatClampNeg := by
          unfold ce_len
          cases hs : ce_sl t with
          | some n => rw [hs] at q5; exact q5
          | none =>
            show (if t = t ∧ ce_C S t = ce_C S t then x.toNatClampNeg else _) = _
            rw [if_pos ⟨rfl, rfl⟩]
        rw [el]
        refine congrArg some (arrV_cg (fun j _ => ?_))
        have eA : ce_A (kS_row S t x.toNatClampNeg) t (ce_C S t) j = 0 := by
          show (if t = t ∧ ce_C S t = ce_C S t then (0 : Int32) else _) = 0
          rw [if_pos ⟨rfl, rfl⟩]
        rw [eA]; rfl
      have hR' := hR.push hX z1 o1 (kS_C_row S t x.toNatClampNeg) hcell (kS_kp_row S t x.toNatClampNeg (fun z => absurd z h5)) (fun z => by rw [hso] at z; cases z) (fun z => by rw [hso] at z; cases z)
      have ha : ce_ag S ad (kS_row S t x.toNatClampNeg) (kad ad S t H.size) := kag (kS_C_row S t x.toNatClampNeg)
      have hT' := ce_okT_tl hT
      have w := hk _ _ _ _ _ h p e s m args below meth c D ca b0 ad0 S0 (kad ad S t H.size) H1 locs rls hC h61 hX hR' (ce_okT_cons (show ce_C S t < ce_C (kS_row S t x.toNatClampNeg) t by rw [kS_C_row, if_pos rfl]; omega) (ce_okT_ag ha hT')) q1 q2
      rw [hp', List.map_cons, ce_map_ag ha hT'] at w
      have ev : ce_val (kad ad S t H.size) (.inr (.inl (t, ce_C S t))) = .ref H.size := congrArg Value.ref kad_new
      rw [ev] at w
      exact w
    · cases h
  · cases h
theorem krow_el {S : ce_S} {t n e : Nat} (h2 : ce_so t = 2) (hQ : t = 5 → ce_eg 5 = none) (he : e < n) : ce_elK (kS_row S t n) t (ce_C S t) e = none := by
  unfold ce_elK
  have eR : ce_R (kS_row S t n) (1000 + t) e (ce_C S t) = if ce_so t = 2 ∧ ¬ t = 5 ∧ e < n then 1 else 0 := by
    show (if 1000 + t = 1000 + t ∧ ce_C S t = ce_C S t then _ else _) = _
    rw [if_pos ⟨rfl, rfl⟩]
  by_cases h5 : t = 5
  · rw [if_neg (fun q => q.2.1 h5)] at eR
    rw [if_pos eR, h5]
    show (if (5 : Nat) = 5 then none else ce_Q S e) = none
    rw [if_pos rfl]
  · rw [if_pos ⟨h2, h5, he⟩] at eR
    rw [if_neg (by rw [eR]; decide)]
theorem krow_at {D : va_G} {ca : Nat → ClassId} {ad : Nat → Nat → Nat} {S : ce_S} {t n a : Nat} {H1 : Heap} (hso : ce_so t = 2) (hl : (ce_sl t).getD n = n) (e1 : H1[a]? = some (arrV (ca (ce_ac t)) n (fun _ => .null))) : ce_atK D ca (kad ad S t a) (kS_row S t n) t (ce_C S t) H1 := by
  refine ⟨(fun z => by rw [hso] at z; cases z), (fun z => by rw [hso] at z; cases z), fun _ => ?_⟩
  rw [kad_new, e1, vp_cell_q]
  have el : ce_len (kS_row S t n) t (ce_C S t) = n := by
    unfold ce_len
    cases hs : ce_sl t with
    | some n => rw [hs] at hl; exact hl
    | none =>
      show (if t = t ∧ ce_C S t = ce_C S t then n else _) = _
      rw [if_pos ⟨rfl, rfl⟩]
  rw [el]
  refine congrArg some (arrV_cg (fun j hj => ?_))
  rw [krow_el hso (fun _ => rfl) hj]; rfl
def o_kanew (t MC MS : Nat) : ce_Op := fun i nn ls st S k => match st with
  | .inl x :: r => if (((nn.1 + 1 ≤ MC ∧ nn.2 + x.toNatClampNeg ≤ MS) ∧ ¬ x < 0) ∧ x.toNatClampNeg ≤ 100000 ∧ (ce_sl t).getD x.toNatClampNeg = x.toNatClampNeg) ∧ (t = 5 → ce_C S 5 = 0) then k (i + 1) (nn.1 + 1, nn.2 + x.toNatClampNeg) ls (.inr (.inl (t, ce_C S t)) :: r) (kS_row S t x.toNatClampNeg) else none
  | _ => none
theorem kk_anew {t p1 ix : Nat} {C : String} (hp : pcs.getD i 0 = pc) (hp' : pcs.getD (i + 1) 0 = pc + 3) (hd : decode cc pc = .ok (.anewarray ix, 3)) (hso : ce_so t = 2) (hC5 : C ∈ [RX3, RX5, RX10, RX6]) (hty : ∀ ca : Nat → ClassId, (ca (ce_ac t), FieldType.object C) ∈ ce_tys ca) (w1 : lw_tbl[p1]? = some (Cond.classLink own ix C)) (g1 : goodWord (Cond.classLink own ix C) = true) : ce_OkK l cc own nL rt d MC MS pcs i (o_kanew t MC MS) := by
  intro nn ls st S k res h hk p e s m args below meth c D ca b0 ad0 S0 ad H locs rls hC h61 hX hR hT h1 h2
  obtain ⟨hx, hb, hml, hown, ⟨w0, hts⟩, hr, hlk, hG, hnm⟩ := id hC
  unfold o_kanew at h
  split at h
  · rename_i x r
    split at h
    · rename_i hcond
      obtain ⟨⟨⟨⟨q1, q2⟩, q3⟩, q4, q5⟩, q6⟩ := hcond
      rw [hp]
      refine W.anew hx hb hown (ce_wIn hts w1 g1) (va_AO.use (hG.2.1 C hC5)) (g := F0 m pc rls ((.inl x :: r : List ce_V).map (ce_val ad))) rfl hd (n := x) rfl q3 (by omega) q1 q2 (fun cA kA comp f1 f2 f3 f4 => ?_)
      generalize hH1 : H.push ({ cls := cA, slots := Array.replicate x.toNatClampNeg .null, vm := .none } : Cell) = H1
      have z1 : H1.size = H.size + 1 := by rw [← hH1, Array.size_push]
      have e1 : H1[H.size]? = some (arrV cA x.toNatClampNeg (fun _ => .null)) := by rw [← hH1, Array.getElem?_push_size, ← arrV_new]
      have o1 : ∀ q : Nat, q < H.size → H1[q]? = H[q]? := fun q hq => by rw [← hH1, Array.getElem?_push, if_neg (Nat.ne_of_lt hq)]
      have hca : cA = ca (ce_ac t) := by
        obtain ⟨j, hj⟩ := List.getElem?_of_mem (hty ca)
        obtain ⟨kA2, comp2, y1, y2, y3, y4⟩ := (hG.1.1.2 j _ hj).2
        exact Option.some.inj (f1.symm.trans y4)
      rw [hca] at e1
      have hR' := hR.push hX z1 o1 (kS_C_row S t x.toNatClampNeg) (fun _ => krow_at hso q5 e1) (kS_kp_row S t x.toNatClampNeg q6) (fun z => by rw [hso] at z; cases z) (fun z e he => krow_el hso (fun _ => rfl) (by
        have el : ce_len (kS_row S t x.toNatClampNeg) t (ce_C S t) = x.toNatClampNeg := by
          unfold ce_len
          cases hs : ce_sl t with
          | some n => rw [hs] at q5; exact q5
          | none =>
            show (if t = t ∧ ce_C S t = ce_C S t then x.toNatClampNeg else _) = _
            rw [if_pos ⟨rfl, rfl⟩]
        rw [el] at he; exact he))
      have ha : ce_ag S ad (kS_row S t x.toNatClampNeg) (kad ad S t H.size) := kag (kS_C_row S t x.toNatClampNeg)
      have hT' := ce_okT_tl hT
      have w := hk _ _ _ _ _ h p e s m args below meth c D ca b0 ad0 S0 (kad ad S t H.size) H1 locs rls hC h61 hX hR' (ce_okT_cons (show ce_C S t < ce_C (kS_row S t x.toNatClampNeg) t by rw [kS_C_row, if_pos rfl]; omega) (ce_okT_ag ha hT')) q1 q2
      rw [hp', List.map_cons, ce_map_ag ha hT'] at w
      have ev : ce_val (kad ad S t H.size) (.inr (.inl (t, ce_C S t))) = .ref H.size := congrArg Value.ref kad_new
      rw [ev] at w
      exact w
    · cases h
  · cases h
end KMK
