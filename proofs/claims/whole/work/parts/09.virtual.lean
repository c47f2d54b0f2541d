/-! calls on an object: by its own kind, by what it is under, by a nest mate -/
theorem ce_h61 {S0 S : ce_S} {ad0 ad : Nat → Nat → Nat} (h : ce_ag S0 ad0 S ad) (h61 : ce_61 S0) : ce_61 S := ⟨Nat.le_of_not_lt fun q => by { have h61 := h61.1; have := (h 61 (ce_C S 61) (by omega)).2; omega }, Nat.le_of_not_lt fun q => by { have h61 := h61.2; have := (h 62 (ce_C S 62) (by omega)).2; omega }⟩
/-- what stays is put together behind any call -/
theorem ce_after {l : Launch} {cc : ByteArray} {own : String} {nL : Nat} {rt : Option FieldType} {d MC MS : Nat} {pcs : List Nat} {i pc n mc ms : Nat} {nn : Nat × Nat} {ls : List (Option ce_V)} {st : List ce_V} {S S' : ce_S} {k : ce_K} {res : Option ce_V × ce_S} {r : Option ce_V} {p : Program} {e : Env} {s : State} {m : MethodId} {args : Array Value} {below : List Frame} {meth : Method} {c : Code} {D : va_G} {ca : Nat → ClassId} {b0 : Nat → Prop} {ad0 : Nat → Nat → Nat} {S0 : ce_S} {ad : Nat → Nat → Nat} {H : Heap} {locs : List Loc} {rls : Array Slot} {av : Array Value}
    (hp' : pcs.getD (i + 1) 0 = pc + 3) (hk : ∀ i' nn' ls' st' S', k i' nn' ls' st' S' = some res → ce_Wn l cc own nL rt d MC MS pcs res i' nn' ls' st' S') (hC : ce_Cx p s m args meth c cc own nL rt D ca) (h61 : ce_61 S0) (hX : ce_X ad0 b0 s) (hR : ce_Rel D ca b0 ad0 S0 ad s H locs rls nL ls S) (hTr : ce_okT S (st.drop n)) (a1 : nn.1 + mc ≤ MC) (a2 : nn.2 + ms ≤ MS) (hk2 : k (i + 1) (nn.1 + mc, nn.2 + ms) ls (r.toList ++ st.drop n) S' = some res)
    (hr : va_Run p l e (ce_rm d MC MS) s m args below meth c H locs nn.1 nn.2 mc ms (F0 m pc rls (st.map (ce_val ad))) ((st.drop n).map (ce_val ad)) (ce_Po D ca b0 ad S (r, S') av) (fun q => b0 q)) : W p l e (ce_rm d MC MS) s m args below meth c H locs nn.1 nn.2 (MQ below (ce_Po D ca b0 ad0 S0 res) args s MC MS (fun q => b0 q)) (F0 m pc rls (st.map (ce_val ad))) := by
  refine ce_call hr hR.2.1 (fun ad' H1 locs1 k1 k2 k3 k4 k5 => ?_)
  have w := hk _ _ _ _ _ hk2 p e s m args below meth c D ca b0 ad0 S0 ad' H1 locs1 rls hC h61 hX ⟨k4, k5, ce_lv_ag k1 hR.2.2.1 hR.2.2.2.2.1, k2, fun j v hj => ce_okV_ag k1 (hR.2.2.2.2.1 j v hj), hR.2.2.2.2.2.trans k1⟩ (fun v hv => by
    rcases List.mem_append.mp hv with q | q
    · exact k3 v (Option.mem_toList.mp q)
    · exact ce_okV_ag k1 (hTr v q)) a1 a2
  rw [hp', List.map_append, ce_map_ag k1 hTr] at w
  have e : (Option.map (ce_val ad') r).toList = r.toList.map (ce_val ad') := by cases r <;> rfl
  show W _ _ _ _ _ _ _ _ _ _ _ _ _ _ _ (F0 m (pc + 3) rls ((Option.map (ce_val ad') r).toList ++ _))
  rw [e]
  exact w
theorem ce_pre {D : va_G} {ca : Nat → ClassId} {b0 : Nat → Prop} {ad0 : Nat → Nat → Nat} {S0 : ce_S} {ad : Nat → Nat → Nat} {s : State} {H : Heap} {locs : List Loc} {rls : Array Slot} {nL : Nat} {ls : List (Option ce_V)} {S : ce_S} (hG : ce_G D ca s) (h61 : ce_61 S0) (hX : ce_X ad0 b0 s) (hR : ce_Rel D ca b0 ad0 S0 ad s H locs rls nL ls S) : ∀ U : State, U.heap = H → s.WarmedH U.vm → ce_Pre D ca b0 ad S U :=
  fun U hU hW => ⟨hG.warm hW, (hX.agree (fun j hj => ⟨(hR.2.2.2.2.2 61 j (Nat.lt_of_lt_of_le hj h61.1)).1, (hR.2.2.2.2.2 62 j (Nat.lt_of_lt_of_le hj h61.2)).1⟩)).warm hW (by rw [hU]; exact hR.2.1.1) (fun q g1 g2 => by rw [hU]; exact hR.2.1.2.1 q g1 g2), by rw [hU]; exact hR.1⟩
/-- the receiver's cell -/
theorem ce_recv {D : va_G} {ca : Nat → ClassId} {b0 : Nat → Prop} {ad : Nat → Nat → Nat} {s : State} {H : Heap} {S : ce_S} {t j : Nat} {C : String} {T : u_T} {N : Nat} (hG : ce_G D ca s) (hH : ce_H D ca b0 ad S H) (hj : j < ce_C S t) (hso : ce_so t = 0) (hc : vwCl[ce_ci t j]? = some (C, T, N)) : ∃ cell : Cell, H[ad t j]? = some cell ∧ cell.vm.isStatics = false ∧ s.vm.findClass C = some cell.cls := by
  obtain ⟨⟨ho, -, -⟩, -, -⟩ := hH.1 t j hj (by rw [hso]; decide)
  obtain ⟨r', hr1, cell, c1, c2, c3, c4⟩ := ho hso
  exact ⟨cell, c1, by rw [c3]; rfl, by rw [c2]; exact (hG.1.1 _ _ hc).2.1⟩
theorem ce_stk {ad : Nat → Nat → Nat} {st : List ce_V} {n : Nat} {v : ce_V} {as : List ce_V} (h : (st.take (n + 1)).reverse = v :: as) : st.map (ce_val ad) = (as.map (ce_val ad)).reverse ++ ce_val ad v :: (st.drop (n + 1)).map (ce_val ad) := by
  have h1 : st.take (n + 1) = as.reverse ++ [v] := by rw [← List.reverse_reverse (st.take (n + 1)), h, List.reverse_cons]
  have h2 : st.map (ce_val ad) = (st.take (n + 1)).map (ce_val ad) ++ (st.drop (n + 1)).map (ce_val ad) := by rw [← List.map_append, List.take_append_drop]
  rw [h2, h1, List.map_append, ← List.map_reverse]
  simp
theorem ce_alen {st : List ce_V} {n : Nat} {v : ce_V} {as : List ce_V} (h : (st.take (n + 1)).reverse = v :: as) (hn : n + 1 ≤ st.length) : as.length = n := by
  have := congrArg List.length h
  simp at this
  omega
section CEVI
variable {l : Launch} {cc : ByteArray} {own : String} {nL : Nat} {rt : Option FieldType} {d MC MS : Nat} {pcs : List Nat} {i pc : Nat}
theorem ok_virtual {op : ce_Op} {y : MethodName} {n d' mc ms ix p1 p2 p3 p4 t : Nat} {T : u_T} {N : Nat} {F : List ce_V → ce_S → ce_Rs} (hop : ce_isC op (n + 1) mc ms MC MS F) (hp : pcs.getD i 0 = pc) (hp' : pcs.getD (i + 1) 0 = pc + 3) (hd : decode cc pc = .ok (.invokevirtual ix, 3)) (hD : d' < d) (hc : ce_callee l y n d' mc ms F) (hso : ce_so t = 0) (hcl : ∀ j, vwCl[ce_ci t j]? = some (y.cls, T, N)) (hrec : ∀ a S res, F a S = some res → ∃ j as, a = .inr (.inl (t, j)) :: as) (g1 : lw_tbl[p1]? = some (Cond.methodLink own ix y)) (g2 : lw_tbl[p2]? = some (Cond.instanceMethod y)) (g3 : lw_tbl[p3]? = some (Cond.selects y.cls y y)) (g4 : lw_tbl[p4]? = some (Cond.initialized y.cls)) : ce_Ok l cc own nL rt d MC MS pcs i op := by
  intro nn ls st S k res h hk p e s m args below meth c D ca b0 ad0 S0 ad H locs rls hC h61 hX hR hT h1 h2
  obtain ⟨hx, hb, hml, hown, ⟨w0, hts⟩, hr, hlk, hG⟩ := id hC
  obtain ⟨a1, a2, a3, a4, r, S', hF, hk2⟩ := hop i nn ls st S k res h
  obtain ⟨cc', nL', rt', hctr, hcode, hnl, hm1, hm2, hlen⟩ := hc
  obtain ⟨j, as, hje⟩ := hrec _ _ _ hF
  have hTa : ce_okT S (st.take (n + 1)).reverse := fun v hv => hT v (List.mem_of_mem_take (List.mem_reverse.mp hv))
  have hTr : ce_okT S (st.drop (n + 1)) := fun v hv => hT v (List.mem_of_mem_drop hv)
  rw [hp]
  rw [hje] at hF hTa
  have hM := hctr D ca b0 ad S _ _ hF hR.2.2.2.1 hTa (ce_h61 hR.2.2.2.2.2 h61)
  have hst := ce_stk (ad := ad) hje
  refine ce_after hp' hk hC h61 hX hR hTr a1 a2 hk2 (va_runV (As := as.map (ce_val ad)) (b := ad t j) ⟨hx, hb, hml, hown, hts⟩ hM (cwV (C := y.cls) n hts (ce_gIn (ex := [.methodLink own ix y, .instanceMethod y, .selects y.cls y y, .initialized y.cls]) hcode (by
      intro w hw
      rcases List.mem_cons.mp hw with e | hw
      · subst e; exact ce_tw_at g1 rfl
      rcases List.mem_cons.mp hw with e | hw
      · subst e; exact ce_tw_at g2 rfl
      rcases List.mem_cons.mp hw with e | hw
      · subst e; exact ce_tw_at g3 rfl
      rcases List.mem_cons.mp hw with e | hw
      · subst e; exact ce_tw_at g4 rfl
      · cases hw)) rfl rfl rfl ⟨rfl, hm1, hm2, hlen⟩ ⟨hD, by show 8 + (nL' + 11) + 60 * d' ≤ 60 * d; omega⟩) ⟨ce_blind, ce_recv hG hR.1 (ce_okT_hd hTa) hso (hcl j), fun U hU hW => ⟨rfl, ce_pre hG h61 hX hR U hU hW⟩⟩ rfl (by rw [List.length_map]; exact ce_alen hje a4) hR.2.2.1.1 hst (lv_room (ce_cat8 a3)) hd ⟨a1, a2⟩)
theorem ok_nest {op : ce_Op} {y : MethodName} {host : String} {n d' mc ms ix p2 p3 : Nat} {F : List ce_V → ce_S → ce_Rs} (hop : ce_isC op n mc ms MC MS F) (hp : pcs.getD i 0 = pc) (hp' : pcs.getD (i + 1) 0 = pc + 3) (hd : decode cc pc = .ok (.invokestatic ix, 3)) (hD : d' < d) (hc : ce_callee l y n d' mc ms F) (g1 : ∀ (D : va_G) (ca : Nat → ClassId) (U : State), ce_G D ca U → va_Nw (Cond.methodLinkNest own ix y host) U) (g2 : lw_tbl[p2]? = some (Cond.static y)) (g3 : lw_tbl[p3]? = some (Cond.initialized y.cls)) : ce_Ok l cc own nL rt d MC MS pcs i op := by
  intro nn ls st S k res h hk p e s m args below meth c D ca b0 ad0 S0 ad H locs rls hC h61 hX hR hT h1 h2
  obtain ⟨hx, hb, hml, hown, ⟨w0, hts⟩, hr, hlk, hG⟩ := id hC
  obtain ⟨a1, a2, a3, a4, r, S', hF, hk2⟩ := hop i nn ls st S k res h
  obtain ⟨cc', nL', rt', hctr, hcode, hnl, hm1, hm2, hlen⟩ := hc
  have hTa : ce_okT S (st.take n).reverse := fun v hv => hT v (List.mem_of_mem_take (List.mem_reverse.mp hv))
  have hTr : ce_okT S (st.drop n) := fun v hv => hT v (List.mem_of_mem_drop hv)
  have hM := hctr D ca b0 ad S _ _ hF hR.2.2.2.1 hTa (ce_h61 hR.2.2.2.2.2 h61)
  rw [hp]
  have hst : st.map (ce_val ad) = ((st.take n).reverse.map (ce_val ad)).reverse ++ (st.drop n).map (ce_val ad) := by
    rw [← List.map_reverse, List.reverse_reverse, ← List.map_append, List.take_append_drop]
  have hgi := ce_gIn (w0 := w0) (ex := []) hcode (by intro w hw; cases hw)
  exact ce_after hp' hk hC h61 hX hR hTr a1 a2 hk2 (va_runSN (As := (st.take n).reverse.map (ce_val ad)) ⟨hx, hb, hml, hown, hts⟩ hM ⟨va_cnB n hts hgi rfl rfl rfl (g1 D ca s hG) (ce_wIn hts g3 rfl) ⟨hm1, hm2, hlen⟩ ⟨hD, by show 8 + (nL' + 11) + 60 * d' ≤ 60 * d; omega⟩, ce_wIn hts g2 rfl, trivial⟩ ⟨ce_blind, fun U hU hW => ⟨rfl, ce_pre hG h61 hX hR U hU hW⟩⟩ rfl (by simp; omega) hR.2.2.1.1 hst (lv_room (ce_cat8 a3)) hd ⟨a1, a2⟩)
/-- a method of the kinds: which one is run goes by the kind -/
theorem ok_kind {op : ce_Op} {x : MethodName} {n ix p1 p2 p3 p4 m0 : Nat} {b1 : ByteArray} {r0 : Option FieldType} {F : List ce_V → ce_S → ce_Rs} (hop : ce_isC op (n + 1) 0 0 MC MS F) (hp : pcs.getD i 0 = pc) (hp' : pcs.getD (i + 1) 0 = pc + 3) (hd : decode cc pc = .ok (.invokevirtual ix, 3)) (hD : 3 < d) (hrec : ∀ a S res, F a S = some res → ∃ j as, a = .inr (.inl (10, j)) :: as) (hxc : x.cls = RX3) (hlx : (parseMethodDescriptor x.desc).map (fun d => d.parameters.length) = some n)
    (hy : ∀ j, ∃ (y : MethodName) (q1 q2 q3 d' : Nat) (Fy : List ce_V → ce_S → ce_Rs), d' ≤ 3 ∧ ce_callee l y n d' 0 0 Fy ∧ lw_tbl[q1]? = some (Cond.selects (ce_kn j) x y) ∧ lw_tbl[q2]? = some (Cond.instanceMethod y) ∧ lw_tbl[q3]? = some (Cond.initialized y.cls) ∧ ∀ as S, F (.inr (.inl (10, j)) :: as) S = Fy (.inr (.inl (10, j)) :: as) S)
    (g1 : lw_tbl[p1]? = some (Cond.methodLink own ix x)) (g2 : lw_tbl[p2]? = some (Cond.sameMethod RX3 RX3 x.name x.desc)) (g3 : lw_tbl[p3]? = some (Cond.instanceMethod x)) (g4 : lw_tbl[p4]? = some (Cond.code x b1 m0 r0)) : ce_Ok l cc own nL rt d MC MS pcs i op := by
  intro nn ls st S k res h hk p e s m args below meth c D ca b0 ad0 S0 ad H locs rls hC h61 hX hR hT h1 h2
  obtain ⟨hx, hb, hml, hown, ⟨w0, hts⟩, hr, hlk, hG⟩ := id hC
  obtain ⟨a1, a2, a3, a4, r, S', hF, hk2⟩ := hop i nn ls st S k res h
  obtain ⟨j, as, hje⟩ := hrec _ _ _ hF
  obtain ⟨y, q1, q2, q3, d', Fy, hd3, ⟨cc', nL', rt', hctr, hcode, hnl, hm1, hm2, hlen⟩, s1, s2, s3, hFy⟩ := hy j
  have hTa : ce_okT S (st.take (n + 1)).reverse := fun v hv => hT v (List.mem_of_mem_take (List.mem_reverse.mp hv))
  have hTr : ce_okT S (st.drop (n + 1)) := fun v hv => hT v (List.mem_of_mem_drop hv)
  rw [hp]
  rw [hje] at hF hTa
  rw [hFy] at hF
  have hM := hctr D ca b0 ad S _ _ hF hR.2.2.2.1 hTa (ce_h61 hR.2.2.2.2.2 h61)
  have hst := ce_stk (ad := ad) hje
  obtain ⟨T, hT2⟩ := ce_kn_ci j
  have hgi := ce_gIn (w0 := w0) (ex := []) hcode (by intro w hw; cases hw)
  have hxe : (⟨RX3, x.name, x.desc⟩ : MethodName) = x := by rw [← hxc]
  have cw : va_CU (ce_rm d MC MS) s args own (ce_kn j) RX3 ix x y cc' nL' rt' (Cond.code y cc' nL' rt' :: ce_tw) (ce_rm d' 0 0) 0 0 n := by
    refine ⟨⟨rfl, rfl, by show d' + 1 ≤ d; omega, by show 8 + (nL' + 11) + 60 * d' ≤ 60 * d; omega, pay_in hts hgi, List.mem_cons_self⟩, hts _ (List.mem_cons_of_mem _ hcode), ce_wIn hts s3 rfl, ⟨by decide +kernel, by decide +kernel⟩, fun sig h => ?_, ce_wIn hts g1 rfl, ?_, ?_, ce_wIn hts s1 rfl, ce_wIn hts s2 rfl⟩
    · rw [h] at hlx
      exact (Option.some.inj hlx).symm
    · rw [hxc]; exact ce_wIn hts g2 rfl
    · rw [hxe]; exact va_Decl.of (ce_wIn (P := fun w => w.before args s = true) hts g3 rfl) (ce_wIn (P := fun w => w.before args s = true) hts g4 rfl)
  exact ce_after hp' hk hC h61 hX hR hTr a1 a2 hk2 (va_runU (As := as.map (ce_val ad)) (b := ad 10 j) ⟨hx, hb, hml, hown, hts⟩ hM cw ⟨ce_blind, ce_recv hG hR.1 (ce_okT_hd hTa) rfl hT2, fun U hU hW => ⟨rfl, ce_pre hG h61 hX hR U hU hW⟩⟩ rfl (by rw [List.length_map]; exact ce_alen hje a4) hR.2.2.1.1 hst (lv_room (ce_cat8 a3)) hd ⟨a1, a2⟩)
end CEVI
