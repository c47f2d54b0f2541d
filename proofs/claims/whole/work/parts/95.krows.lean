/-! the K-machine: the copy, items of rows, the rows of rows -/
theorem ce_HK.putA {D : va_G} {ca : Nat → ClassId} {b0 : Nat → Prop} {ad : Nat → Nat → Nat} {S S' : ce_S} {t j : Nat} {H H1 : Heap} (h : ce_HK D ca b0 ad S H) (hk : kokS S) (hj : j < ce_C S t) (hso : ce_so t = 1) (hc : H1[ad t j]? = some (vp_cell (ca 0) (ce_len S t j, .inl (fun e => ce_A S' t j e)))) (hz : H1.size = H.size) (ho : ∀ q : Nat, q ≠ ad t j → H1[q]? = H[q]?) (hI : S'.1 = S.1) (hR : S'.2.1 = S.2.1) (hL : S'.2.2.2 = S.2.2.2) (hA : ∀ t' i', ¬ (t' = t ∧ i' = j) → ∀ e, ce_A S' t' i' e = ce_A S t' i' e) : ce_HK D ca b0 ad S' H1 := by
  have hl : ∀ a b, ce_L S' a b = ce_L S a b := fun a b => by unfold ce_L; rw [hL]
  have hC : ∀ a, ce_C S' a = ce_C S a := fun a => by unfold ce_C; rw [hL]
  have hq : ∀ a b, ce_el S' a b = ce_el S a b := fun a b => by unfold ce_el ce_Q; rw [hL]
  refine h.set hk hj (by rw [hso]; decide) hz ho hC ⟨(fun h1 => by rw [hso] at h1; cases h1), fun _ => ?_, (fun h1 => by rw [hso] at h1; cases h1)⟩ (fun t' i' hne _ => ⟨fun k => by unfold ce_I; rw [hI], fun k => by unfold ce_R; rw [hR], fun k => by unfold ce_R; rw [hR], hA t' i' hne, hl _ _, fun _ _ e => hq _ _⟩)
  rw [ce_len_kept (hl t j)]
  exact hc
def o_kald (t t' : Nat) (g : Nat → Nat) : ce_Op := fun i nn ls st S k => match st with
  | .inl j :: .inr (.inl q) :: r => if (q.1 = t ∧ ce_R S (1000 + t) j.toNatClampNeg q.2 = 0) ∧ ¬ (j < 0 ∨ ce_len S t q.2 ≤ j.toNatClampNeg) then k (i + 1) nn ls (.inr (.inl (t', g j.toNatClampNeg)) :: r) S else none
  | _ => none
section KRW
variable {l : Launch} {cc : ByteArray} {own : String} {nL : Nat} {rt : Option FieldType} {d MC MS : Nat} {pcs : List Nat} {i pc : Nat}
theorem kk_copy {t t' ix p1 p2 p3 p4 : Nat} (hp : pcs.getD i 0 = pc) (hp' : pcs.getD (i + 1) 0 = pc + 3) (hd : decode cc pc = .ok (.invokestatic ix, 3)) (hD : 2 ≤ d) (hso : ce_so t = 1) (hso' : ce_so t' = 1) (g1 : lw_tbl[p1]? = some (Cond.methodLink own ix arraycopyName)) (g2 : lw_tbl[p2]? = some (Cond.native arraycopyName)) (g3 : lw_tbl[p3]? = some (Cond.static arraycopyName)) (g4 : lw_tbl[p4]? = some (Cond.initialized "java/lang/System")) : ce_OkK l cc own nL rt d MC MS pcs i (o_copy t t') := by
  intro nn ls st S k res h hk p e s m args below meth c D ca b0 ad0 S0 ad H locs rls hC h61 hX hR hT h1 h2
  obtain ⟨hx, hb, hml, hown, ⟨w0, hts⟩, hr, hlk, hG⟩ := id hC
  unfold o_copy at h
  split at h
  · rename_i n dp q' sp q r
    by_cases hq : q.1 = t ∧ q'.1 = t' ∧ ¬ sp < 0 ∧ ¬ dp < 0 ∧ ¬ n < 0 ∧ sp.toNatClampNeg + n.toNatClampNeg ≤ ce_len S t q.2 ∧ dp.toNatClampNeg + n.toNatClampNeg ≤ ce_len S t' q'.2 ∧ r.length ≤ 4
    · rw [if_pos hq] at h
      obtain ⟨e1, e2, k1, k2, k3, k4, k5, k6⟩ := hq
      rw [hp]
      have hv : q.2 < ce_C S t := by have := ce_okT_hd (ce_okT_tl (ce_okT_tl (ce_okT_tl (ce_okT_tl hT)))); rw [← e1]; exact this
      have hv' : q'.2 < ce_C S t' := by have := ce_okT_hd (ce_okT_tl (ce_okT_tl hT)); rw [← e2]; exact this
      obtain ⟨⟨-, ho, -⟩, -, -⟩ := hR.1.1 t q.2 hv (by rw [hso]; decide)
      obtain ⟨⟨-, ho', -⟩, hb0, -⟩ := hR.1.1 t' q'.2 hv' (by rw [hso']; decide)
      have hq2 : ce_val ad (.inr (.inl q)) = .ref (ad t q.2) := by rw [← e1]; rfl
      have hq2' : ce_val ad (.inr (.inl q')) = .ref (ad t' q'.2) := by rw [← e2]; rfl
      rw [List.map_cons, List.map_cons, List.map_cons, List.map_cons, List.map_cons, hq2, hq2']
      have h8 := ce_cat8 (ad := ad) k6
      have h80 : nativeFrameWords "java/lang/System" "arraycopy" 5 ≤ 80 := by decide +kernel
      have hfr : 1 ≤ (ce_rm d MC MS).frames := by show 1 ≤ d; omega
      have hlo : ((r.map (ce_val ad)).map fun v => v.category).sum + (nativeFrameWords "java/lang/System" "arraycopy" 5 + 11) ≤ (ce_rm d MC MS).locals := by
        show _ ≤ 60 * d
        omega
      refine ce_copy hx hb (hml.trans hR.2.2.1.1.symm) hown (ce_wIn hts g1 rfl) (ce_wIn hts g2 (by decide +kernel)) (ce_wIn hts g3 rfl) (ce_wIn hts g4 rfl) (hG.1.1.1.2 0 _ rfl).1 (ho hso) (ho' hso') k1 k2 k3 k4 k5 hfr hlo hd (fun H1 L hL c1 c2 c3 => ?_)
      have hSS : va_S (fun q => b0 q) s.heap H1 (locs ++ L) := by
        refine ⟨by rw [c2]; exact hR.2.1.1, fun z g1 g2 => ?_, fun z hz => ?_⟩
        · rw [c3 z (fun e => g2 (by rw [e]; exact hb0))]
          exact hR.2.1.2.1 z g1 g2
        · rcases List.mem_append.mp hz with g | g
          · exact hR.2.1.2.2 z g
          · show b0 z.base
            rw [hL z g]; exact hb0
      have w := hk _ _ _ _ _ h p e s m args below meth c D ca b0 ad0 S0 ad H1 (locs ++ L) rls hC h61 hX ⟨hR.1.putA hR.2.2.2.1 hv' hso' (by rw [ce_sF_A]; exact c1) c2 c3 rfl rfl rfl (fun t1 i1 hne e => by rw [ce_sF_ne hne]), hSS, hR.2.2.1, hR.2.2.2.1, ce_okL_kept (fun _ => rfl) hR.2.2.2.2.1, ce_ag_kept (fun _ => rfl) hR.2.2.2.2.2⟩ (ce_okT_kept (fun _ => rfl) (ce_okT_tl (ce_okT_tl (ce_okT_tl (ce_okT_tl (ce_okT_tl hT)))))) h1 h2
      rw [hp'] at w
      exact w
    · rw [if_neg hq] at h; cases h
  · cases h
theorem kk_ald {t t' : Nat} {g : Nat → Nat} {ty : FieldType} (hp : pcs.getD i 0 = pc) (hp' : pcs.getD (i + 1) 0 = pc + 1) (hd : decode cc pc = .ok (.aaload, 1)) (hso : ce_so t = 2) (heg : ce_eg t = some g) (het : ce_et t = t') (hty : ∀ ca : Nat → ClassId, (ce_tys ca)[ce_ac t]? = some (ca (ce_ac t), ty)) (href : ty.isReference = true) : ce_OkK l cc own nL rt d MC MS pcs i (o_kald t t' g) := by
  intro nn ls st S k res h hk p e s m args below meth c D ca b0 ad0 S0 ad H locs rls hC h61 hX hR hT h1 h2
  obtain ⟨hx, hb, hml, hown, ⟨w0, hts⟩, hr, hlk, hG, hnm⟩ := id hC
  unfold o_kald at h
  split at h
  · rename_i j q r
    split at h
    · rename_i hcond
      obtain ⟨⟨hq, hU⟩, hj⟩ := hcond
      have hv : q.2 < ce_C S t := by have := ce_okT_hd (ce_okT_tl hT); rw [← hq]; exact this
      have hlt : j.toNatClampNeg < ce_len S t q.2 := Nat.not_le.mp fun q => hj (Or.inr q)
      have hel : ce_elK S t q.2 j.toNatClampNeg = some (g j.toNatClampNeg) := by unfold ce_elK ce_el; rw [if_pos hU, heg]
      have w := hk _ _ _ _ _ h p e s m args below meth c D ca b0 ad0 S0 ad H locs rls hC h61 hX hR (ce_okT_cons (by show _ < ce_C S t'; rw [← het]; exact hR.2.2.2.1.2 t q.2 _ _ hv hso hlt hel) (ce_okT_tl (ce_okT_tl hT))) h1 h2
      rw [hp'] at w
      rw [hp]
      obtain ⟨⟨-, -, ho⟩, -, -⟩ := hR.1.1 t q.2 hv (by rw [hso]; decide)
      have hq2 : ce_val ad (.inr (.inl q)) = .ref (ad t q.2) := by rw [← hq]; rfl
      rw [List.map_cons, List.map_cons, hq2]
      exact W.aald (v := .ref (ad t' (g j.toNatClampNeg))) (ty := ty) hx hb (ho hso) ((hG.1.1.2 (ce_ac t) _ (hty ca)).1 _ (fun e => va_rf ((ce_elK S t q.2 e).map (ad (ce_et t))))) href (fun q => by cases q) (by show ¬ (j < 0 ∨ (arrV _ _ _).slots.size ≤ _); rw [arrV_size]; exact hj) (by show (arrV _ _ _).slots[_]? = _; rw [arrV_read _ _ hlt]; show some (va_rf (Option.map (ad (ce_et t)) (ce_elK S t q.2 j.toNatClampNeg))) = _; rw [hel, het]; rfl) rfl rfl hd w
    · cases h
  · cases h
theorem kk_anewA {p1 ix : Nat} (hp : pcs.getD i 0 = pc) (hp' : pcs.getD (i + 1) 0 = pc + 3) (hd : decode cc pc = .ok (.anewarray ix, 3)) (w1 : lw_tbl[p1]? = some (Cond.classLink own ix "[I")) (g1 : goodWord (Cond.classLink own ix "[I") = true) : ce_OkK l cc own nL rt d MC MS pcs i (o_kanew 40 MC MS) := by
  intro nn ls st S k res h hk p e s m args below meth c D ca b0 ad0 S0 ad H locs rls hC h61 hX hR hT h1 h2
  obtain ⟨hx, hb, hml, hown, ⟨w0, hts⟩, hr, hlk, hG, hnm⟩ := id hC
  unfold o_kanew at h
  split at h
  · rename_i x r
    split at h
    · rename_i hcond
      obtain ⟨⟨⟨⟨q1, q2⟩, q3⟩, q4, q5⟩, q6⟩ := hcond
      rw [hp]
      refine W.anewA (t := .int) hx hb hown (ce_wIn hts w1 g1) (show (Cond.arrayOver (.array .int)).before args s = true from hG.2.2.1) (g := F0 m pc rls ((.inl x :: r : List ce_V).map (ce_val ad))) rfl hd (n := x) rfl q3 (by omega) q1 q2 (fun cA kA comp f1 f2 f3 f4 => ?_)
      generalize hH1 : H.push ({ cls := cA, slots := Array.replicate x.toNatClampNeg .null, vm := .none } : Cell) = H1
      have z1 : H1.size = H.size + 1 := by rw [← hH1, Array.size_push]
      have e1 : H1[H.size]? = some (arrV cA x.toNatClampNeg (fun _ => .null)) := by rw [← hH1, Array.getElem?_push_size, ← arrV_new]
      have o1 : ∀ q : Nat, q < H.size → H1[q]? = H[q]? := fun q hq => by rw [← hH1, Array.getElem?_push, if_neg (Nat.ne_of_lt hq)]
      have hca : cA = ca (ce_ac 40) := by
        have y4 := (hG.1.1.2 5 (ca 5, .array .int) rfl).2
        exact Option.some.inj (f1.symm.trans y4)
      rw [hca] at e1
      have hR' := hR.push hX z1 o1 (kS_C_row S 40 x.toNatClampNeg) (fun _ => krow_at rfl q5 e1) (kS_kp_row S 40 x.toNatClampNeg q6) (fun z => by cases z) (fun z e he => krow_el rfl (fun _ => rfl) (by
        have el : ce_len (kS_row S 40 x.toNatClampNeg) 40 (ce_C S 40) = x.toNatClampNeg := q5
        rw [el] at he; exact he))
      have ha : ce_ag S ad (kS_row S 40 x.toNatClampNeg) (kad ad S 40 H.size) := kag (kS_C_row S 40 x.toNatClampNeg)
      have hT' := ce_okT_tl hT
      have w := hk _ _ _ _ _ h p e s m args below meth c D ca b0 ad0 S0 (kad ad S 40 H.size) H1 locs rls hC h61 hX hR' (ce_okT_cons (show ce_C S 40 < ce_C (kS_row S 40 x.toNatClampNeg) 40 by rw [kS_C_row, if_pos rfl]; omega) (ce_okT_ag ha hT')) q1 q2
      rw [hp', List.map_cons, ce_map_ag ha hT'] at w
      have ev : ce_val (kad ad S 40 H.size) (.inr (.inl (40, ce_C S 40))) = .ref H.size := congrArg Value.ref kad_new
      rw [ev] at w
      exact w
    · cases h
  · cases h
end KRW
