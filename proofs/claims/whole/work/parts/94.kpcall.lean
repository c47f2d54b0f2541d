/-! the K-machine: plain methods are called: on an object, on a text constant, a nest mate's, one's own static -/
section KPC
variable {l : Launch} {cc : ByteArray} {own : String} {nL : Nat} {rt : Option FieldType} {d MC MS : Nat} {pcs : List Nat} {i pc : Nat}
theorem kk_pvirtual {P : Nat → Bool} {y : MethodName} {n d' ix p1 p2 p3 p4 t : Nat} {T : u_T} {N : Nat} {F : List ce_V → ce_S → ce_Rs} (hp : pcs.getD i 0 = pc) (hp' : pcs.getD (i + 1) 0 = pc + 3) (hd : decode cc pc = .ok (.invokevirtual ix, 3)) (hD : d' < d) (hc : ce_callee l y n d' 0 0 F) (hso : ce_so t = 0) (hcl : ∀ j, vwCl[ce_ci t j]? = some (y.cls, T, N)) (hrec : ∀ a S res, F a S = some res → ∃ j as, a = .inr (.inl (t, j)) :: as) (g1 : lw_tbl[p1]? = some (Cond.methodLink own ix y)) (g2 : lw_tbl[p2]? = some (Cond.instanceMethod y)) (g3 : lw_tbl[p3]? = some (Cond.selects y.cls y y)) (g4 : lw_tbl[p4]? = some (Cond.initialized y.cls)) : ce_OkK l cc own nL rt d MC MS pcs i (o_kp P (n + 1) F) := by
  intro nn ls st S k res h hk p e s m args below meth c D ca b0 ad0 S0 ad H locs rls hC h61 hX hR hT h1 h2
  obtain ⟨hx, hb, hml, hown, ⟨w0, hts⟩, hr, hlk, hG⟩ := id hC
  obtain ⟨r, S', hF, ⟨a3, a4⟩, hpre, hk2⟩ := o_kp_of h
  have h61S : ce_61 S := ce_h61 hR.2.2.2.2.2 h61
  have h61P : ce_61 (ksub S P) := ⟨by show 13 ≤ (if P 61 = true then ce_C S 61 else 0); rw [if_pos hpre.2.2.2.1.1]; exact h61S.1, by show 13 ≤ (if P 62 = true then ce_C S 62 else 0); rw [if_pos hpre.2.2.2.1.2]; exact h61S.2⟩
  obtain ⟨cc', nL', rt', hctr, hcode, hnl, hm1, hm2, hlen⟩ := hc
  obtain ⟨j, as, hje⟩ := hrec _ _ _ hF
  have hTa := hpre.2.2.1
  have hTr : ce_okT S (st.drop (n + 1)) := fun v hv => hT v (List.mem_of_mem_drop hv)
  rw [hp]
  rw [hje] at hF hTa
  have hM := hctr D ca (kb b0 ad S P) ad (ksub S P) _ _ hF hpre.2.1 hTa h61P
  have hst := ce_stk (ad := ad) hje
  refine kp_after hp' hk hC h61 hX hR hTr h1 h2 hpre hk2 (va_runV (As := as.map (ce_val ad)) (b := ad t j) ⟨hx, hb, hml, hown, hts⟩ hM (cwV (C := y.cls) n hts (ce_gIn (ex := [.methodLink own ix y, .instanceMethod y, .selects y.cls y y, .initialized y.cls]) hcode (by
      intro w hw
      rcases List.mem_cons.mp hw with e | hw
      · subst e; exact ce_tw_at g1 rfl
      rcases List.mem_cons.mp hw with e | hw
      · subst e; exact ce_tw_at g2 rfl
      rcases List.mem_cons.mp hw with e | hw
      · subst e; exact ce_tw_at g3 rfl
      rcases List.mem_cons.mp hw with e | hw
      · subst e; exact ce_tw_at g4 rfl
      · cases hw)) rfl rfl rfl ⟨rfl, hm1, hm2, hlen⟩ ⟨hD, by show 8 + (nL' + 11) + 60 * d' ≤ 60 * d; omega⟩) ⟨ce_blind, ce_recv hG.1.1 (ksub_H hR.1 hpre.1) (ce_okT_hd hTa) hso (hcl j), fun U hU hW => ⟨rfl, kp_pre hG.1 h61 hX hR hpre.1 U hU hW⟩⟩ rfl (by rw [List.length_map]; exact ce_alen hje a4) hR.2.2.1.1 hst (lv_room (ce_cat8 a3)) hd ⟨h1, h2⟩)
theorem kk_pstr {P : Nat → Bool} {y : MethodName} {n d' ix p1 p2 p3 p4 : Nat} {F : List ce_V → ce_S → ce_Rs} (hp : pcs.getD i 0 = pc) (hp' : pcs.getD (i + 1) 0 = pc + 3) (hd : decode cc pc = .ok (.invokevirtual ix, 3)) (hD : d' < d) (hc : ce_callee l y n d' 0 0 F) (hcl : y.cls = "java/lang/String") (hrec : ∀ a S res, F a S = some res → ∃ j as, j < 13 ∧ a = .inr (.inl (61, j)) :: as) (g1 : lw_tbl[p1]? = some (Cond.methodLink own ix y)) (g2 : lw_tbl[p2]? = some (Cond.instanceMethod y)) (g3 : lw_tbl[p3]? = some (Cond.selects y.cls y y)) (g4 : lw_tbl[p4]? = some (Cond.initialized y.cls)) : ce_OkK l cc own nL rt d MC MS pcs i (o_kp P (n + 1) F) := by
  intro nn ls st S k res h hk p e s m args below meth c D ca b0 ad0 S0 ad H locs rls hC h61 hX hR hT h1 h2
  obtain ⟨hx, hb, hml, hown, ⟨w0, hts⟩, hr, hlk, hG⟩ := id hC
  obtain ⟨r, S', hF, ⟨a3, a4⟩, hpre, hk2⟩ := o_kp_of h
  have h61S : ce_61 S := ce_h61 hR.2.2.2.2.2 h61
  have h61P : ce_61 (ksub S P) := ⟨by show 13 ≤ (if P 61 = true then ce_C S 61 else 0); rw [if_pos hpre.2.2.2.1.1]; exact h61S.1, by show 13 ≤ (if P 62 = true then ce_C S 62 else 0); rw [if_pos hpre.2.2.2.1.2]; exact h61S.2⟩
  obtain ⟨cc', nL', rt', hctr, hcode, hnl, hm1, hm2, hlen⟩ := hc
  obtain ⟨j, as, hj13, hje⟩ := hrec _ _ _ hF
  have hTa := hpre.2.2.1
  have hTr : ce_okT S (st.drop (n + 1)) := fun v hv => hT v (List.mem_of_mem_drop hv)
  rw [hp]
  rw [hje] at hF hTa
  have hM := hctr D ca (kb b0 ad S P) ad (ksub S P) _ _ hF hpre.2.1 hTa h61P
  have hst := ce_stk (ad := ad) hje
  have hrv : ∃ cell : Cell, H[ad 61 j]? = some cell ∧ cell.vm.isStatics = false ∧ s.vm.findClass y.cls = some cell.cls := by
    rw [hcl, (hR.2.2.2.2.2 61 j (Nat.lt_of_lt_of_le hj13 h61.1)).1]
    exact vk_recv hX.1 hj13 hR.2.1
  refine kp_after hp' hk hC h61 hX hR hTr h1 h2 hpre hk2 (va_runV (As := as.map (ce_val ad)) (b := ad 61 j) ⟨hx, hb, hml, hown, hts⟩ hM (cwV (C := y.cls) n hts (ce_gIn (ex := [.methodLink own ix y, .instanceMethod y, .selects y.cls y y, .initialized y.cls]) hcode (by
      intro w hw
      rcases List.mem_cons.mp hw with e | hw
      · subst e; exact ce_tw_at g1 rfl
      rcases List.mem_cons.mp hw with e | hw
      · subst e; exact ce_tw_at g2 rfl
      rcases List.mem_cons.mp hw with e | hw
      · subst e; exact ce_tw_at g3 rfl
      rcases List.mem_cons.mp hw with e | hw
      · subst e; exact ce_tw_at g4 rfl
      · cases hw)) rfl rfl rfl ⟨rfl, hm1, hm2, hlen⟩ ⟨hD, by show 8 + (nL' + 11) + 60 * d' ≤ 60 * d; omega⟩) ⟨ce_blind, hrv, fun U hU hW => ⟨rfl, kp_pre hG.1 h61 hX hR hpre.1 U hU hW⟩⟩ rfl (by rw [List.length_map]; exact ce_alen hje a4) hR.2.2.1.1 hst (lv_room (ce_cat8 a3)) hd ⟨h1, h2⟩)
theorem kk_pnest {P : Nat → Bool} {y : MethodName} {host : String} {n d' ix p2 p3 : Nat} {F : List ce_V → ce_S → ce_Rs} (hp : pcs.getD i 0 = pc) (hp' : pcs.getD (i + 1) 0 = pc + 3) (hd : decode cc pc = .ok (.invokestatic ix, 3)) (hD : d' < d) (hc : ce_callee l y n d' 0 0 F) (g1 : ∀ (D : va_G) (ca : Nat → ClassId) (U : State), ce_G D ca U → va_Nw (Cond.methodLinkNest own ix y host) U) (g2 : lw_tbl[p2]? = some (Cond.static y)) (g3 : lw_tbl[p3]? = some (Cond.initialized y.cls)) : ce_OkK l cc own nL rt d MC MS pcs i (o_kp P n F) := by
  intro nn ls st S k res h hk p e s m args below meth c D ca b0 ad0 S0 ad H locs rls hC h61 hX hR hT h1 h2
  obtain ⟨hx, hb, hml, hown, ⟨w0, hts⟩, hr, hlk, hG⟩ := id hC
  obtain ⟨r, S', hF, ⟨a3, a4⟩, hpre, hk2⟩ := o_kp_of h
  have h61S : ce_61 S := ce_h61 hR.2.2.2.2.2 h61
  have h61P : ce_61 (ksub S P) := ⟨by show 13 ≤ (if P 61 = true then ce_C S 61 else 0); rw [if_pos hpre.2.2.2.1.1]; exact h61S.1, by show 13 ≤ (if P 62 = true then ce_C S 62 else 0); rw [if_pos hpre.2.2.2.1.2]; exact h61S.2⟩
  obtain ⟨cc', nL', rt', hctr, hcode, hnl, hm1, hm2, hlen⟩ := hc
  have hTa := hpre.2.2.1
  have hTr : ce_okT S (st.drop n) := fun v hv => hT v (List.mem_of_mem_drop hv)
  have hM := hctr D ca (kb b0 ad S P) ad (ksub S P) _ _ hF hpre.2.1 hTa h61P
  rw [hp]
  have hst : st.map (ce_val ad) = ((st.take n).reverse.map (ce_val ad)).reverse ++ (st.drop n).map (ce_val ad) := by
    rw [← List.map_reverse, List.reverse_reverse, ← List.map_append, List.take_append_drop]
  have hgi := ce_gIn (w0 := w0) (ex := []) hcode (by intro w hw; cases hw)
  exact kp_after hp' hk hC h61 hX hR hTr h1 h2 hpre hk2 (va_runSN (As := (st.take n).reverse.map (ce_val ad)) ⟨hx, hb, hml, hown, hts⟩ hM ⟨va_cnB n hts hgi rfl rfl rfl (g1 D ca s hG.1.1) (ce_wIn hts g3 rfl) ⟨hm1, hm2, hlen⟩ ⟨hD, by show 8 + (nL' + 11) + 60 * d' ≤ 60 * d; omega⟩, ce_wIn hts g2 rfl, trivial⟩ ⟨ce_blind, fun U hU hW => ⟨rfl, kp_pre hG.1 h61 hX hR hpre.1 U hU hW⟩⟩ rfl (by simp; omega) hR.2.2.1.1 hst (lv_room (ce_cat8 a3)) hd ⟨h1, h2⟩)
end KPC
