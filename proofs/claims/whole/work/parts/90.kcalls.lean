/-! the K-machine: calls of its own methods -/
theorem ce_callK {p : Program} {l : Launch} {e : Env} {R : Room} {s : State} {m : MethodId} {args : Array Value} {below : List Frame} {meth : Method} {c : Code} {H : Heap} {locs : List Loc} {cells slots mc ms pc : Nat} {Q : State → Prop} {rls : Array Slot} {rest st0 : List Value} {av : Array Value} {D : va_G} {ca : Nat → ClassId} {b0 : Nat → Prop} {ad : Nat → Nat → Nat} {S : ce_S} {res : Option ce_V × ce_S}
    (hr : va_Run p l e R s m args below meth c H locs cells slots mc ms (F0 m pc rls st0) rest (ce_PoK D ca b0 ad S res av) (fun q => b0 q)) (hS : va_S (fun q => b0 q) s.heap H locs)
    (kk : ∀ (ad' : Nat → Nat → Nat) (H1 : Heap) (locs1 : List Loc), ce_ag S ad res.2 ad' → kokS res.2 → (∀ v, res.1 = some v → ce_okV res.2 v) → ce_HK D ca b0 ad' res.2 H1 → va_S (fun q => b0 q) s.heap H1 locs1 → W p l e R s m args below meth c H1 locs1 (cells + mc) (slots + ms) Q (F0 m (pc + 3) rls ((res.1.map (ce_val ad')).toList ++ rest))) : W p l e R s m args below meth c H locs cells slots Q (F0 m pc rls st0) := by
  intro T hT X
  obtain ⟨v, st₀, t, T', L, h0, X', hL, e1, e2, ⟨ad', h1, h2, h3, h4, h5, hz, hk⟩, st⟩ := hr T hT X
  cases h2
  rw [h0] at hz hk
  obtain ⟨t2, a1, b1⟩ := kk ad' T'.heap (locs ++ L) h1 h3 h4 (by rw [e1]; exact h5)
    ⟨Nat.le_trans hS.1 (by rw [e1]; exact hz), fun q g1 g2 => by rw [e1, hk q (Nat.lt_of_lt_of_le g1 hS.1) g2]; exact hS.2.1 q g1 g2, fun q hq => by
      rcases List.mem_append.mp hq with h | h
      · exact hS.2.2 q h
      · exact hL q h⟩ T' rfl X'
  exact ⟨t2, st t2 a1, b1⟩
def ce_calleeK (l : Launch) (y : MethodName) (n d mc ms : Nat) (F : List ce_V → ce_S → ce_Rs) : Prop := ∃ (cc : ByteArray) (nL : Nat) (rt : Option FieldType), ce_CtrK l y cc nL rt d mc ms F ∧ Cond.code y cc nL rt ∈ ce_tw ∧ nL ≤ 41 ∧ y.cls ≠ "java/lang/invoke/MethodHandle" ∧ y.cls ≠ "java/lang/invoke/VarHandle" ∧ (parseMethodDescriptor y.desc).map (fun d => d.parameters.length) = some n
theorem ce_afterK {l : Launch} {cc : ByteArray} {own : String} {nL : Nat} {rt : Option FieldType} {d MC MS : Nat} {pcs : List Nat} {i pc n mc ms : Nat} {nn : Nat × Nat} {ls : List (Option ce_V)} {st : List ce_V} {S S' : ce_S} {k : ce_K} {res : Option ce_V × ce_S} {r : Option ce_V} {p : Program} {e : Env} {s : State} {m : MethodId} {args : Array Value} {below : List Frame} {meth : Method} {c : Code} {D : va_G} {ca : Nat → ClassId} {b0 : Nat → Prop} {ad0 : Nat → Nat → Nat} {S0 : ce_S} {ad : Nat → Nat → Nat} {H : Heap} {locs : List Loc} {rls : Array Slot} {av : Array Value}
    (hp' : pcs.getD (i + 1) 0 = pc + 3) (hk : ∀ i' nn' ls' st' S', k i' nn' ls' st' S' = some res → ce_WnK l cc own nL rt d MC MS pcs res i' nn' ls' st' S') (hC : ce_CxK p s m args meth c cc own nL rt D ca) (h61 : ce_61 S0) (hX : ce_X ad0 b0 s) (hR : ce_RelK D ca b0 ad0 S0 ad s H locs rls nL ls S) (hTr : ce_okT S (st.drop n)) (a1 : nn.1 + mc ≤ MC) (a2 : nn.2 + ms ≤ MS) (hk2 : k (i + 1) (nn.1 + mc, nn.2 + ms) ls (r.toList ++ st.drop n) S' = some res)
    (hr : va_Run p l e (ce_rm d MC MS) s m args below meth c H locs nn.1 nn.2 mc ms (F0 m pc rls (st.map (ce_val ad))) ((st.drop n).map (ce_val ad)) (ce_PoK D ca b0 ad S (r, S') av) (fun q => b0 q)) : W p l e (ce_rm d MC MS) s m args below meth c H locs nn.1 nn.2 (MQ below (ce_PoK D ca b0 ad0 S0 res) args s MC MS (fun q => b0 q)) (F0 m pc rls (st.map (ce_val ad))) := by
  refine ce_callK hr hR.2.1 (fun ad' H1 locs1 k1 k2 k3 k4 k5 => ?_)
  have w := hk _ _ _ _ _ hk2 p e s m args below meth c D ca b0 ad0 S0 ad' H1 locs1 rls hC h61 hX ⟨k4, k5, ce_lv_ag k1 hR.2.2.1 hR.2.2.2.2.1, k2, fun j v hj => ce_okV_ag k1 (hR.2.2.2.2.1 j v hj), hR.2.2.2.2.2.trans k1⟩ (fun v hv => by
    rcases List.mem_append.mp hv with q | q
    · exact k3 v (Option.mem_toList.mp q)
    · exact ce_okV_ag k1 (hTr v q)) a1 a2
  rw [hp', List.map_append, ce_map_ag k1 hTr] at w
  have e : (Option.map (ce_val ad') r).toList = r.toList.map (ce_val ad') := by cases r <;> rfl
  show W _ _ _ _ _ _ _ _ _ _ _ _ _ _ _ (F0 m (pc + 3) rls ((Option.map (ce_val ad') r).toList ++ _))
  rw [e]
  exact w
theorem ce_preK {D : va_G} {ca : Nat → ClassId} {b0 : Nat → Prop} {ad0 : Nat → Nat → Nat} {S0 : ce_S} {ad : Nat → Nat → Nat} {s : State} {H : Heap} {locs : List Loc} {rls : Array Slot} {nL : Nat} {ls : List (Option ce_V)} {S : ce_S} (hG : ce_GK D ca s) (h61 : ce_61 S0) (hX : ce_X ad0 b0 s) (hR : ce_RelK D ca b0 ad0 S0 ad s H locs rls nL ls S) : ∀ U : State, U.heap = H → s.WarmedH U.vm → ce_PreK D ca b0 ad S U :=
  fun U hU hW => ⟨hG.warm hW, (hX.agree (fun j hj => ⟨(hR.2.2.2.2.2 61 j (Nat.lt_of_lt_of_le hj h61.1)).1, (hR.2.2.2.2.2 62 j (Nat.lt_of_lt_of_le hj h61.2)).1⟩)).warm hW (by rw [hU]; exact hR.2.1.1) (fun q g1 g2 => by rw [hU]; exact hR.2.1.2.1 q g1 g2), by rw [hU]; exact hR.1⟩
theorem ce_recvK {D : va_G} {ca : Nat → ClassId} {b0 : Nat → Prop} {ad : Nat → Nat → Nat} {s : State} {H : Heap} {S : ce_S} {t j : Nat} {C : String} {T : u_T} {N : Nat} (hG : ce_GK D ca s) (hH : ce_HK D ca b0 ad S H) (hj : j < ce_C S t) (hso : ce_so t = 0) (hc : vwCl[ce_ci t j]? = some (C, T, N)) : ∃ cell : Cell, H[ad t j]? = some cell ∧ cell.vm.isStatics = false ∧ s.vm.findClass C = some cell.cls := by
  obtain ⟨⟨ho, -, -⟩, -, -⟩ := hH.1 t j hj (by rw [hso]; decide)
  obtain ⟨r', hr1, cell, c1, c2, c3, c4⟩ := ho hso
  exact ⟨cell, c1, by rw [c3]; rfl, by rw [c2]; exact (hG.1.1.1 _ _ hc).2.1⟩
section KCL
variable {l : Launch} {cc : ByteArray} {own : String} {nL : Nat} {rt : Option FieldType} {d MC MS : Nat} {pcs : List Nat} {i pc : Nat}
theorem kk_virtual {op : ce_Op} {y : MethodName} {n d' mc ms ix p1 p2 p3 p4 t : Nat} {T : u_T} {N : Nat} {F : List ce_V → ce_S → ce_Rs} (hop : ce_isC op (n + 1) mc ms MC MS F) (hp : pcs.getD i 0 = pc) (hp' : pcs.getD (i + 1) 0 = pc + 3) (hd : decode cc pc = .ok (.invokevirtual ix, 3)) (hD : d' < d) (hc : ce_calleeK l y n d' mc ms F) (hso : ce_so t = 0) (hcl : ∀ j, vwCl[ce_ci t j]? = some (y.cls, T, N)) (hrec : ∀ a S res, F a S = some res → ∃ j as, a = .inr (.inl (t, j)) :: as) (g1 : lw_tbl[p1]? = some (Cond.methodLink own ix y)) (g2 : lw_tbl[p2]? = some (Cond.instanceMethod y)) (g3 : lw_tbl[p3]? = some (Cond.selects y.cls y y)) (g4 : lw_tbl[p4]? = some (Cond.initialized y.cls)) : ce_OkK l cc own nL rt d MC MS pcs i op := by
  intro nn ls st S k res h hk p e s m args below meth c D ca b0 ad0 S0 ad H locs rls hC h61 hX hR hT h1 h2
  obtain ⟨hx, hb, hml, hown, ⟨w0, hts⟩, hr, hlk, hG⟩ := id hC
  obtain ⟨a1, a2, a3, a4, r, S', hF, hk2⟩ := hop i nn ls st S k res h
  obtain ⟨cc', nL', rt', hctr, hcode, hnl, hm1, hm2, hlen⟩ := hc
  obtain ⟨j, as, hje⟩ := hrec _ _ _ hF
  have hTa : ce_okT S (st.take (n + 1)).reverse := fun v hv => hT v (List.mem_of_mem_take (List.mem_reverse.mp hv))
  have hTr : ce_okT S (st.drop (n + 1)) := fun v hv => hT v (List.mem_of_mem_drop hv)
  rw [hp]
  rw [hje] at hF hTa
  have hM := hctr D ca b0 ad S _ _ hF hR.2.2.2.1 hTa (ce_h61 hR.2.2.2.2.2 h61)
  have hst := ce_stk (ad := ad) hje
  refine ce_afterK hp' hk hC h61 hX hR hTr a1 a2 hk2 (va_runV (As := as.map (ce_val ad)) (b := ad t j) ⟨hx, hb, hml, hown, hts⟩ hM (cwV (C := y.cls) n hts (ce_gIn (ex := [.methodLink own ix y, .instanceMethod y, .selects y.cls y y, .initialized y.cls]) hcode (by
      intro w hw
      rcases List.mem_cons.mp hw with e | hw
      · subst e; exact ce_tw_at g1 rfl
      rcases List.mem_cons.mp hw with e | hw
      · subst e; exact ce_tw_at g2 rfl
      rcases List.mem_cons.mp hw with e | hw
      · subst e; exact ce_tw_at g3 rfl
      rcases List.mem_cons.mp hw with e | hw
      · subst e; exact ce_tw_at g4 rfl
      · cases hw)) rfl rfl rfl ⟨rfl, hm1, hm2, hlen⟩ ⟨hD, by show 8 + (nL' + 11) + 60 * d' ≤ 60 * d; omega⟩) ⟨ce_blindK, ce_recvK hG.1 hR.1 (ce_okT_hd hTa) hso (hcl j), fun U hU hW => ⟨rfl, ce_preK hG.1 h61 hX hR U hU hW⟩⟩ rfl (by rw [List.length_map]; exact ce_alen hje a4) hR.2.2.1.1 hst (lv_room (ce_cat8 a3)) hd ⟨a1, a2⟩)
end KCL
