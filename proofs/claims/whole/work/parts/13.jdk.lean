/-! text constants: steps of String's own members -/
def o_ldcS (j : Nat) : ce_Op := fun i nn ls st S k => k (i + 1) nn ls (.inr (.inl (61, j)) :: st) S
def o_sval : ce_Op := fun i nn ls st S k => match st with
  | .inr (.inl q) :: r => if q.1 = 61 ∧ q.2 < 13 then k (i + 1) nn ls (.inr (.inl (62, q.2)) :: r) S else none
  | _ => none
def o_scod : ce_Op := fun i nn ls st S k => match st with
  | .inr (.inl q) :: r => if q.1 = 61 ∧ q.2 < 13 then k (i + 1) nn ls (.inl 0 :: r) S else none
  | _ => none
def o_blen : ce_Op := fun i nn ls st S k => match st with
  | .inr (.inl q) :: r => if q.1 = 62 ∧ q.2 < 13 then k (i + 1) nn ls (.inl (nI (ce_sN.getD q.2 0)) :: r) S else none
  | _ => none
def o_bld : ce_Op := fun i nn ls st S k => match st with
  | .inl x :: .inr (.inl q) :: r => if q.1 = 62 ∧ q.2 < 13 ∧ ¬ (x < 0 ∨ ce_sN.getD q.2 0 ≤ x.toNatClampNeg) then k (i + 1) nn ls (.inl ((ce_sB.getD q.2 []).getD x.toNatClampNeg 0) :: r) S else none
  | _ => none
def o_bret : ce_Op := fun _ _ _ st S _ => match st with
  | [.inl x] => if x = 0 then some (some (.inl x), S) else none
  | _ => none
def o_cret : ce_Op := fun _ _ _ st S _ => match st with
  | [.inl x] => if (x.toUInt32 % 65536).toInt32 = x then some (some (.inl x), S) else none
  | _ => none
theorem ta_ldcS {j : Nat} : ce_Tail (o_ldcS j) := fun _ _ _ _ _ _ _ h => ce_ta1 _ _ _ _ _ (fun _ => rfl) h
theorem ta_sval : ce_Tail o_sval := by
  intro i nn ls st S k res h
  unfold o_sval at h ⊢
  split at h
  · split at h
    · rename_i hc
      simp only [if_pos hc]
      exact Or.inr ⟨_, _, _, _, _, h, fun k' q => q⟩
    · cases h
  · cases h
theorem ta_scod : ce_Tail o_scod := by
  intro i nn ls st S k res h
  unfold o_scod at h ⊢
  split at h
  · split at h
    · rename_i hc
      simp only [if_pos hc]
      exact Or.inr ⟨_, _, _, _, _, h, fun k' q => q⟩
    · cases h
  · cases h
theorem ta_blen : ce_Tail o_blen := by
  intro i nn ls st S k res h
  unfold o_blen at h ⊢
  split at h
  · split at h
    · rename_i hc
      simp only [if_pos hc]
      exact Or.inr ⟨_, _, _, _, _, h, fun k' q => q⟩
    · cases h
  · cases h
theorem ta_bld : ce_Tail o_bld := by
  intro i nn ls st S k res h
  unfold o_bld at h ⊢
  split at h
  · split at h
    · rename_i hc
      simp only [if_pos hc]
      exact Or.inr ⟨_, _, _, _, _, h, fun k' q => q⟩
    · cases h
  · cases h
theorem ta_bret : ce_Tail o_bret := fun _ _ _ _ _ _ _ h => ce_ta0 (fun _ => rfl) h
theorem ta_cret : ce_Tail o_cret := fun _ _ _ _ _ _ _ h => ce_ta0 (fun _ => rfl) h
section CEJ
variable {l : Launch} {cc : ByteArray} {own : String} {nL : Nat} {rt : Option FieldType} {d MC MS : Nat} {pcs : List Nat} {i pc : Nat}
theorem ok_ldcS {j ix : Nat} {tx : String} (hp : pcs.getD i 0 = pc) (hp' : pcs.getD (i + 1) 0 = pc + 2) (hd : decode cc pc = .ok (.ldc ix, 2)) (hj : ce_tR[j]? = some (own, ix, tx)) : ce_Ok l cc own nL rt d MC MS pcs i (o_ldcS j) := by
  intro nn ls st S k res h hk p e s m args below meth c D ca b0 ad0 S0 ad H locs rls hC h61 hX hR hT h1 h2
  obtain ⟨hx, hb, hml, hown, ⟨w0, hts⟩, hr, hlk, hG⟩ := id hC
  have hj13 : j < 13 := (List.getElem?_eq_some_iff.mp hj).1
  obtain ⟨a1, a2⟩ := hR.2.2.2.2.2 61 j (Nat.lt_of_lt_of_le hj13 h61.1)
  have w := hk _ _ _ _ _ h p e s m args below meth c D ca b0 ad0 S0 ad H locs rls hC h61 hX hR (ce_okT_cons a2 hT) h1 h2
  rw [hp'] at w
  rw [hp]
  refine va_ldcS hx hb hown (hX.2.1 j _ hj) hd ?_
  rw [← a1]
  exact w
theorem ok_sval {ix wp : Nat} (hp : pcs.getD i 0 = pc) (hp' : pcs.getD (i + 1) 0 = pc + 3) (hd : decode cc pc = .ok (.getfield ix, 3)) (hw : lw_tbl[wp]? = some (Cond.fieldLink own ix "java/lang/String" "value" "[B")) : ce_Ok l cc own nL rt d MC MS pcs i o_sval := by
  intro nn ls st S k res h hk p e s m args below meth c D ca b0 ad0 S0 ad H locs rls hC h61 hX hR hT h1 h2
  obtain ⟨hx, hb, hml, hown, ⟨w0, hts⟩, hr, hlk, hG⟩ := id hC
  unfold o_sval at h
  split at h
  · rename_i q r
    by_cases hq : q.1 = 61 ∧ q.2 < 13
    · rw [if_pos hq] at h
      obtain ⟨q1, q13⟩ := hq
      obtain ⟨a1, a2⟩ := hR.2.2.2.2.2 61 q.2 (Nat.lt_of_lt_of_le q13 h61.1)
      obtain ⟨c1, c2⟩ := hR.2.2.2.2.2 62 q.2 (Nat.lt_of_lt_of_le q13 h61.2)
      have w := hk _ _ _ _ _ h p e s m args below meth c D ca b0 ad0 S0 ad H locs rls hC h61 hX hR (ce_okT_cons c2 (ce_okT_tl hT)) h1 h2
      rw [hp'] at w
      rw [hp]
      have hq2 : ce_val ad (.inr (.inl q)) = .ref (ad0 61 q.2) := by rw [← a1, ← q1]; rfl
      rw [List.map_cons, hq2]
      refine vk_getf hx hb (hX.1.1 q.2 q13).2.2.1 hR.2.1 hown (ce_wIn hts hw rfl) (fun _ z => z) hd ?_
      rw [← c1]
      exact w
    · rw [if_neg hq] at h; cases h
  · cases h
theorem ok_scod {ix wp : Nat} (hp : pcs.getD i 0 = pc) (hp' : pcs.getD (i + 1) 0 = pc + 3) (hd : decode cc pc = .ok (.getfield ix, 3)) (hw : lw_tbl[wp]? = some (Cond.fieldLink own ix "java/lang/String" "coder" "B")) : ce_Ok l cc own nL rt d MC MS pcs i o_scod := by
  intro nn ls st S k res h hk p e s m args below meth c D ca b0 ad0 S0 ad H locs rls hC h61 hX hR hT h1 h2
  obtain ⟨hx, hb, hml, hown, ⟨w0, hts⟩, hr, hlk, hG⟩ := id hC
  unfold o_scod at h
  split at h
  · rename_i q r
    by_cases hq : q.1 = 61 ∧ q.2 < 13
    · rw [if_pos hq] at h
      obtain ⟨q1, q13⟩ := hq
      obtain ⟨a1, a2⟩ := hR.2.2.2.2.2 61 q.2 (Nat.lt_of_lt_of_le q13 h61.1)
      have w := hk _ _ _ _ _ h p e s m args below meth c D ca b0 ad0 S0 ad H locs rls hC h61 hX hR (ce_okT_cons trivial (ce_okT_tl hT)) h1 h2
      rw [hp'] at w
      rw [hp]
      have hq2 : ce_val ad (.inr (.inl q)) = .ref (ad0 61 q.2) := by rw [← a1, ← q1]; rfl
      rw [List.map_cons, hq2]
      exact vk_getf hx hb (hX.1.1 q.2 q13).2.1 hR.2.1 hown (ce_wIn hts hw rfl) (fun _ z => z) hd w
    · rw [if_neg hq] at h; cases h
  · cases h
theorem ok_blen (hp : pcs.getD i 0 = pc) (hp' : pcs.getD (i + 1) 0 = pc + 1) (hd : decode cc pc = .ok (.arraylength, 1)) : ce_Ok l cc own nL rt d MC MS pcs i o_blen := by
  intro nn ls st S k res h hk p e s m args below meth c D ca b0 ad0 S0 ad H locs rls hC h61 hX hR hT h1 h2
  obtain ⟨hx, hb, hml, hown, ⟨w0, hts⟩, hr, hlk, hG⟩ := id hC
  unfold o_blen at h
  split at h
  · rename_i q r
    by_cases hq : q.1 = 62 ∧ q.2 < 13
    · rw [if_pos hq] at h
      obtain ⟨q1, q13⟩ := hq
      obtain ⟨a1, a2⟩ := hR.2.2.2.2.2 62 q.2 (Nat.lt_of_lt_of_le q13 h61.2)
      have w := hk _ _ _ _ _ h p e s m args below meth c D ca b0 ad0 S0 ad H locs rls hC h61 hX hR (ce_okT_cons trivial (ce_okT_tl hT)) h1 h2
      rw [hp'] at w
      rw [hp]
      have hq2 : ce_val ad (.inr (.inl q)) = .ref (ad0 62 q.2) := by rw [← a1, ← q1]; rfl
      rw [List.map_cons, hq2]
      exact va_tlen hx hb (hX.1.1 q.2 q13).2.2.2 hR.2.1 rfl hd w
    · rw [if_neg hq] at h; cases h
  · cases h
theorem ok_bld (hp : pcs.getD i 0 = pc) (hp' : pcs.getD (i + 1) 0 = pc + 1) (hd : decode cc pc = .ok (.baload, 1)) : ce_Ok l cc own nL rt d MC MS pcs i o_bld := by
  intro nn ls st S k res h hk p e s m args below meth c D ca b0 ad0 S0 ad H locs rls hC h61 hX hR hT h1 h2
  obtain ⟨hx, hb, hml, hown, ⟨w0, hts⟩, hr, hlk, hG⟩ := id hC
  unfold o_bld at h
  split at h
  · rename_i x q r
    by_cases hq : q.1 = 62 ∧ q.2 < 13 ∧ ¬ (x < 0 ∨ ce_sN.getD q.2 0 ≤ x.toNatClampNeg)
    · rw [if_pos hq] at h
      obtain ⟨q1, q13, hin⟩ := hq
      obtain ⟨a1, a2⟩ := hR.2.2.2.2.2 62 q.2 (Nat.lt_of_lt_of_le q13 h61.2)
      have w := hk _ _ _ _ _ h p e s m args below meth c D ca b0 ad0 S0 ad H locs rls hC h61 hX hR (ce_okT_cons trivial (ce_okT_tl (ce_okT_tl hT))) h1 h2
      rw [hp'] at w
      rw [hp]
      have hq2 : ce_val ad (.inr (.inl q)) = .ref (ad0 62 q.2) := by rw [← a1, ← q1]; rfl
      rw [List.map_cons, List.map_cons, hq2]
      exact va_tb hx hb (hX.1.1 q.2 q13).2.2.2 hR.2.1 hin rfl hd w
    · rw [if_neg hq] at h; cases h
  · cases h
theorem ok_gst {ix wp : Nat} (hp : pcs.getD i 0 = pc) (hp' : pcs.getD (i + 1) 0 = pc + 3) (hd : decode cc pc = .ok (.getstatic ix, 3)) (hw : lw_tbl[wp]? = some (Cond.fieldLink own ix "java/lang/String" "COMPACT_STRINGS" "Z")) : ce_Ok l cc own nL rt d MC MS pcs i (o_int 1) := by
  intro nn ls st S k res h hk p e s m args below meth c D ca b0 ad0 S0 ad H locs rls hC h61 hX hR hT h1 h2
  obtain ⟨hx, hb, hml, hown, ⟨w0, hts⟩, hr, hlk, hG⟩ := id hC
  have w := hk _ _ _ _ _ h p e s m args below meth c D ca b0 ad0 S0 ad H locs rls hC h61 hX hR (ce_okT_cons trivial hT) h1 h2
  rw [hp'] at w
  rw [hp]
  exact va_gets hx hb hX.2.2.1 hR.2.1 hown (ce_wIn hts hw rfl) (fun _ z => z) hd w
theorem ok_ishr (hp : pcs.getD i 0 = pc) (hp' : pcs.getD (i + 1) 0 = pc + 1) (hd : decode cc pc = .ok (.ishr, 1)) : ce_Ok l cc own nL rt d MC MS pcs i (o_bin (fun x y => x >>> (y &&& 31))) := by
  intro nn ls st S k res h hk p e s m args below meth c D ca b0 ad0 S0 ad H locs rls hC h61 hX hR hT h1 h2
  obtain ⟨hx, hb, hml, hown, ⟨w0, hts⟩, hr, hlk, hG⟩ := id hC
  unfold o_bin at h
  split at h
  · rename_i y x r
    have w := hk _ _ _ _ _ h p e s m args below meth c D ca b0 ad0 S0 ad H locs rls hC h61 hX hR (ce_okT_cons trivial (ce_okT_tl (ce_okT_tl hT))) h1 h2
    rw [hp'] at w
    rw [hp]
    exact lv_ishr hx hb hd w
  · cases h
theorem ok_i2c (hp : pcs.getD i 0 = pc) (hp' : pcs.getD (i + 1) 0 = pc + 1) (hd : decode cc pc = .ok (.i2c, 1)) : ce_Ok l cc own nL rt d MC MS pcs i (o_un (fun x => (x.toUInt32 % 65536).toInt32)) := by
  intro nn ls st S k res h hk p e s m args below meth c D ca b0 ad0 S0 ad H locs rls hC h61 hX hR hT h1 h2
  obtain ⟨hx, hb, hml, hown, ⟨w0, hts⟩, hr, hlk, hG⟩ := id hC
  unfold o_un at h
  split at h
  · rename_i x r
    have w := hk _ _ _ _ _ h p e s m args below meth c D ca b0 ad0 S0 ad H locs rls hC h61 hX hR (ce_okT_cons trivial (ce_okT_tl hT)) h1 h2
    rw [hp'] at w
    rw [hp]
    exact lv_i2c hx hb hd rfl w
  · cases h
theorem ok_bret (hp : pcs.getD i 0 = pc) (hd : decode cc pc = .ok (.ireturn, 1)) (hrt : rt = some .byte) : ce_Ok l cc own nL rt d MC MS pcs i o_bret := by
  intro nn ls st S k res h hk p e s m args below meth c D ca b0 ad0 S0 ad H locs rls hC h61 hX hR hT h1 h2
  obtain ⟨hx, hb, hml, hown, ⟨w0, hts⟩, hr, hlk, hG⟩ := id hC
  unfold o_bret at h
  split at h
  · rename_i x
    by_cases hz : x = 0
    · rw [if_pos hz] at h
      cases h
      rw [hp]
      refine W.widen h1 h2 ?_
      exact W.zret hx hb (hr.trans hrt) (by rw [hz]; decide) (fun t ht hW => ⟨ad, hR.2.2.2.2.2, rfl, hR.2.2.2.1, fun v hv => by cases hv; trivial, by rw [ht]; exact hR.1, hR.2.1.F ht⟩) hR.2.1.2.2 hd
    · rw [if_neg hz] at h
      cases h
  · cases h
theorem ok_cret (hp : pcs.getD i 0 = pc) (hd : decode cc pc = .ok (.ireturn, 1)) (hrt : rt = some .char) : ce_Ok l cc own nL rt d MC MS pcs i o_cret := by
  intro nn ls st S k res h hk p e s m args below meth c D ca b0 ad0 S0 ad H locs rls hC h61 hX hR hT h1 h2
  obtain ⟨hx, hb, hml, hown, ⟨w0, hts⟩, hr, hlk, hG⟩ := id hC
  unfold o_cret at h
  split at h
  · rename_i x
    by_cases hz : (x.toUInt32 % 65536).toInt32 = x
    · rw [if_pos hz] at h
      cases h
      rw [hp]
      refine W.widen h1 h2 ?_
      exact W.zret hx hb (hr.trans hrt) (by rw [← hz]; exact pk_nc x) (fun t ht hW => ⟨ad, hR.2.2.2.2.2, rfl, hR.2.2.2.1, fun v hv => by cases hv; trivial, by rw [ht]; exact hR.1, hR.2.1.F ht⟩) hR.2.1.2.2 hd
    · rw [if_neg hz] at h
      cases h
  · cases h
/-- a member of a text constant -/
theorem ok_strV {op : ce_Op} {y : MethodName} {n d' ix p1 p2 p3 p4 : Nat} {F : List ce_V → ce_S → ce_Rs} (hop : ce_isC op (n + 1) 0 0 MC MS F) (hp : pcs.getD i 0 = pc) (hp' : pcs.getD (i + 1) 0 = pc + 3) (hd : decode cc pc = .ok (.invokevirtual ix, 3)) (hD : d' < d) (hc : ce_callee l y n d' 0 0 F) (hcl : y.cls = "java/lang/String") (hrec : ∀ a S res, F a S = some res → ∃ j as, j < 13 ∧ a = .inr (.inl (61, j)) :: as) (g1 : lw_tbl[p1]? = some (Cond.methodLink own ix y)) (g2 : lw_tbl[p2]? = some (Cond.instanceMethod y)) (g3 : lw_tbl[p3]? = some (Cond.selects y.cls y y)) (g4 : lw_tbl[p4]? = some (Cond.initialized y.cls)) : ce_Ok l cc own nL rt d MC MS pcs i op := by
  intro nn ls st S k res h hk p e s m args below meth c D ca b0 ad0 S0 ad H locs rls hC h61 hX hR hT h1 h2
  obtain ⟨hx, hb, hml, hown, ⟨w0, hts⟩, hr, hlk, hG⟩ := id hC
  obtain ⟨a1, a2, a3, a4, r, S', hF, hk2⟩ := hop i nn ls st S k res h
  obtain ⟨cc', nL', rt', hctr, hcode, hnl, hm1, hm2, hlen⟩ := hc
  obtain ⟨j, as, hj13, hje⟩ := hrec _ _ _ hF
  have hTa : ce_okT S (st.take (n + 1)).reverse := fun v hv => hT v (List.mem_of_mem_take (List.mem_reverse.mp hv))
  have hTr : ce_okT S (st.drop (n + 1)) := fun v hv => hT v (List.mem_of_mem_drop hv)
  rw [hp]
  rw [hje] at hF hTa
  have hM := hctr D ca b0 ad S _ _ hF hR.2.2.2.1 hTa (ce_h61 hR.2.2.2.2.2 h61)
  have hst := ce_stk (ad := ad) hje
  have hrv : ∃ cell : Cell, H[ad 61 j]? = some cell ∧ cell.vm.isStatics = false ∧ s.vm.findClass y.cls = some cell.cls := by
    rw [hcl, (hR.2.2.2.2.2 61 j (Nat.lt_of_lt_of_le hj13 h61.1)).1]
    exact vk_recv hX.1 hj13 hR.2.1
  refine ce_after hp' hk hC h61 hX hR hTr a1 a2 hk2 (va_runV (As := as.map (ce_val ad)) (b := ad 61 j) ⟨hx, hb, hml, hown, hts⟩ hM (cwV (C := y.cls) n hts (ce_gIn (ex := [.methodLink own ix y, .instanceMethod y, .selects y.cls y y, .initialized y.cls]) hcode (by
      intro w hw
      rcases List.mem_cons.mp hw with e | hw
      · subst e; exact ce_tw_at g1 rfl
      rcases List.mem_cons.mp hw with e | hw
      · subst e; exact ce_tw_at g2 rfl
      rcases List.mem_cons.mp hw with e | hw
      · subst e; exact ce_tw_at g3 rfl
      rcases List.mem_cons.mp hw with e | hw
      · subst e; exact ce_tw_at g4 rfl
      · cases hw)) rfl rfl rfl ⟨rfl, hm1, hm2, hlen⟩ ⟨hD, by show 8 + (nL' + 11) + 60 * d' ≤ 60 * d; omega⟩) ⟨ce_blind, hrv, fun U hU hW => ⟨rfl, ce_pre hG h61 hX hR U hU hW⟩⟩ rfl (by rw [List.length_map]; exact ce_alen hje a4) hR.2.2.1.1 hst (lv_room (ce_cat8 a3)) hd ⟨a1, a2⟩)
/-- a static method of another of the JDK's classes -/
theorem ok_statJ {op : ce_Op} {y : MethodName} {n d' mc ms ix p1 p2 p3 : Nat} {F : List ce_V → ce_S → ce_Rs} (hop : ce_isC op n mc ms MC MS F) (hp : pcs.getD i 0 = pc) (hp' : pcs.getD (i + 1) 0 = pc + 3) (hd : decode cc pc = .ok (.invokestatic ix, 3)) (hD : d' < d) (hc : ce_callee l y n d' mc ms F) (g1 : lw_tbl[p1]? = some (Cond.methodLink own ix y)) (g2 : lw_tbl[p2]? = some (Cond.static y)) (g3 : lw_tbl[p3]? = some (Cond.initialized y.cls)) : ce_Ok l cc own nL rt d MC MS pcs i op := by
  intro nn ls st S k res h hk p e s m args below meth c D ca b0 ad0 S0 ad H locs rls hC h61 hX hR hT h1 h2
  obtain ⟨hx, hb, hml, hown, ⟨w0, hts⟩, hr, hlk, hG⟩ := id hC
  obtain ⟨a1, a2, a3, a4, r, S', hF, hk2⟩ := hop i nn ls st S k res h
  obtain ⟨cc', nL', rt', hctr, hcode, hnl, hm1, hm2, hlen⟩ := hc
  have hTa : ce_okT S (st.take n).reverse := fun v hv => hT v (List.mem_of_mem_take (List.mem_reverse.mp hv))
  have hTr : ce_okT S (st.drop n) := fun v hv => hT v (List.mem_of_mem_drop hv)
  have hM := hctr D ca b0 ad S _ _ hF hR.2.2.2.1 hTa (ce_h61 hR.2.2.2.2.2 h61)
  rw [hp]
  have hst : st.map (ce_val ad) = ((st.take n).reverse.map (ce_val ad)).reverse ++ (st.drop n).map (ce_val ad) := by
    rw [← List.map_reverse, List.reverse_reverse, ← List.map_append, List.take_append_drop]
  exact ce_after hp' hk hC h61 hX hR hTr a1 a2 hk2 (va_runS (As := (st.take n).reverse.map (ce_val ad)) ⟨hx, hb, hml, hown, hts⟩ hM (va_cwS n hts (ce_gIn (ex := [.methodLink own ix y, .static y, .initialized y.cls]) hcode (by
      intro w hw
      rcases List.mem_cons.mp hw with e | hw
      · subst e; exact ce_tw_at g1 rfl
      rcases List.mem_cons.mp hw with e | hw
      · subst e; exact ce_tw_at g2 rfl
      rcases List.mem_cons.mp hw with e | hw
      · subst e; exact ce_tw_at g3 rfl
      · cases hw)) rfl rfl rfl ⟨hm1, hm2, hlen⟩ ⟨hD, by show 8 + (nL' + 11) + 60 * d' ≤ 60 * d; omega⟩) ⟨ce_blind, fun U hU hW => ⟨rfl, ce_pre hG h61 hX hR U hU hW⟩⟩ rfl (by simp; omega) hR.2.2.1.1 hst (lv_room (ce_cat8 a3)) hd ⟨a1, a2⟩)
end CEJ
