/-! the K-machine: a constructor is called -/
def ce_ini (l : Launch) (y : MethodName) (n d mc ms : Nat) (F : List ce_V → ce_S → ce_Rs) : Prop := ∃ (cc : ByteArray) (nL : Nat), ce_CtrK l y cc nL none d mc ms F ∧ Cond.code y cc nL none ∈ ce_tw ∧ nL ≤ 41 ∧ y.cls ≠ "java/lang/invoke/MethodHandle" ∧ y.cls ≠ "java/lang/invoke/VarHandle" ∧ (parseMethodDescriptor y.desc).map (fun d => d.parameters.length) = some n
section KIN
variable {l : Launch} {cc : ByteArray} {own : String} {nL : Nat} {rt : Option FieldType} {d MC MS : Nat} {pcs : List Nat} {i pc : Nat}
theorem kk_init {op : ce_Op} {y : MethodName} {n d' mc ms ix p1 p2 p4 : Nat} {F : List ce_V → ce_S → ce_Rs} (hop : ce_isC op (n + 1) mc ms MC MS F) (hp : pcs.getD i 0 = pc) (hp' : pcs.getD (i + 1) 0 = pc + 3) (hd : decode cc pc = .ok (.invokespecial ix, 3)) (hD : d' < d) (hc : ce_ini l y n d' mc ms F) (hyn : y.name = "<init>") (hrec : ∀ a S res, F a S = some res → ∃ q as, a = .inr (.inl q) :: as) (g1 : lw_tbl[p1]? = some (Cond.methodLink own ix y)) (g2 : lw_tbl[p2]? = some (Cond.instanceMethod y)) (g4 : lw_tbl[p4]? = some (Cond.initialized y.cls)) : ce_OkK l cc own nL rt d MC MS pcs i op := by
  intro nn ls st S k res h hk p e s m args below meth c D ca b0 ad0 S0 ad H locs rls hC h61 hX hR hT h1 h2
  obtain ⟨hx, hb, hml, hown, ⟨w0, hts⟩, hr, hlk, hG⟩ := id hC
  obtain ⟨a1, a2, a3, a4, r, S', hF, hk2⟩ := hop i nn ls st S k res h
  obtain ⟨cc', nL', hctr, hcode, hnl, hm1, hm2, hlen⟩ := hc
  obtain ⟨q, as, hje⟩ := hrec _ _ _ hF
  have hTa : ce_okT S (st.take (n + 1)).reverse := fun v hv => hT v (List.mem_of_mem_take (List.mem_reverse.mp hv))
  have hTr : ce_okT S (st.drop (n + 1)) := fun v hv => hT v (List.mem_of_mem_drop hv)
  rw [hp]
  rw [hje] at hF hTa
  have hM := hctr D ca b0 ad S _ _ hF hR.2.2.2.1 hTa (ce_h61 hR.2.2.2.2.2 h61)
  have hst := ce_stk (ad := ad) hje
  refine ce_afterK hp' hk hC h61 hX hR hTr a1 a2 hk2 (va_runI (As := as.map (ce_val ad)) (b := ad q.1 q.2) ⟨hx, hb, hml, hown, hts⟩ hM (cwI n hts (ce_gIn (ex := []) hcode (by
      intro w hw
      cases hw)) rfl rfl rfl (ce_wIn hts g4 rfl) (ce_wIn hts g1 rfl) (ce_wIn hts g2 rfl) hyn ⟨hm1, hm2, hlen⟩ ⟨hD, by show 8 + (nL' + 11) + 60 * d' ≤ 60 * d; omega⟩) ⟨ce_blindK, fun U hU hW => ⟨rfl, ce_preK hG.1 h61 hX hR U hU hW⟩⟩ rfl (by rw [List.length_map]; exact ce_alen hje a4) hR.2.2.1.1 hst (lv_room (ce_cat8 a3)) hd ⟨a1, a2⟩)
theorem kk_initN {op : ce_Op} {y : MethodName} {n d' mc ms ix p2 p4 : Nat} {F : List ce_V → ce_S → ce_Rs} (hop : ce_isC op (n + 1) mc ms MC MS F) (hp : pcs.getD i 0 = pc) (hp' : pcs.getD (i + 1) 0 = pc + 3) (hd : decode cc pc = .ok (.invokespecial ix, 3)) (hD : d' < d) (hc : ce_ini l y n d' mc ms F) (hyn : y.name = "<init>") (hrec : ∀ a S res, F a S = some res → ∃ q as, a = .inr (.inl q) :: as) (g1 : (own, ix, y) ∈ k_nest) (g2 : lw_tbl[p2]? = some (Cond.instanceMethod y)) (g4 : lw_tbl[p4]? = some (Cond.initialized y.cls)) : ce_OkK l cc own nL rt d MC MS pcs i op := by
  intro nn ls st S k res h hk p e s m args below meth c D ca b0 ad0 S0 ad H locs rls hC h61 hX hR hT h1 h2
  obtain ⟨hx, hb, hml, hown, ⟨w0, hts⟩, hr, hlk, hG⟩ := id hC
  obtain ⟨a1, a2, a3, a4, r, S', hF, hk2⟩ := hop i nn ls st S k res h
  obtain ⟨cc', nL', hctr, hcode, hnl, hm1, hm2, hlen⟩ := hc
  obtain ⟨q, as, hje⟩ := hrec _ _ _ hF
  have hTa : ce_okT S (st.take (n + 1)).reverse := fun v hv => hT v (List.mem_of_mem_take (List.mem_reverse.mp hv))
  have hTr : ce_okT S (st.drop (n + 1)) := fun v hv => hT v (List.mem_of_mem_drop hv)
  rw [hp]
  rw [hje] at hF hTa
  have hM := hctr D ca b0 ad S _ _ hF hR.2.2.2.1 hTa (ce_h61 hR.2.2.2.2.2 h61)
  have hst := ce_stk (ad := ad) hje
  refine ce_afterK hp' hk hC h61 hX hR hTr a1 a2 hk2 (va_runIN (host := RX11) (As := as.map (ce_val ad)) (b := ad q.1 q.2) ⟨hx, hb, hml, hown, hts⟩ hM ⟨va_cnB n hts (ce_gIn (ex := []) hcode (by intro w hw; cases hw)) rfl rfl rfl (hG.1.2.2.2.2 _ g1) (ce_wIn hts g4 rfl) ⟨hm1, hm2, hlen⟩ ⟨hD, by show 8 + (nL' + 11) + 60 * d' ≤ 60 * d; omega⟩, hyn, ce_wIn hts g2 rfl⟩ ⟨ce_blindK, fun U hU hW => ⟨rfl, ce_preK hG.1 h61 hX hR U hU hW⟩⟩ rfl (by rw [List.length_map]; exact ce_alen hje a4) hR.2.2.1.1 hst (lv_room (ce_cat8 a3)) hd ⟨a1, a2⟩)
end KIN
