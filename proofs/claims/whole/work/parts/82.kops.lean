/-! the K-machine: steps that leave the heap alone -/
section CEO
variable {l : Launch} {cc : ByteArray} {own : String} {nL : Nat} {rt : Option FieldType} {d MC MS : Nat} {pcs : List Nat} {i pc : Nat}
theorem kk_iconst {v : Int32} {n : Int} (hp : pcs.getD i 0 = pc) (hp' : pcs.getD (i + 1) 0 = pc + 1) (hd : decode cc pc = .ok (.iconst n, 1)) (hv : Int32.ofInt n = v) : ce_OkK l cc own nL rt d MC MS pcs i (o_int v) := by
  intro nn ls st S k res h hk p e s m args below meth c D ca b0 ad0 S0 ad H locs rls hC h61 hX hR hT h1 h2
  obtain ⟨hx, hb, hml, hown, ⟨w0, hts⟩, hr, hlk, hG⟩ := id hC
  have w := hk _ _ _ _ _ h p e s m args below meth c D ca b0 ad0 S0 ad H locs rls hC h61 hX hR (ce_okT_cons trivial hT) h1 h2
  rw [hp'] at w
  rw [hp]
  exact lv_iconst hx hb hd hv w
theorem kk_bipush {v : Int32} {n : Int} (hp : pcs.getD i 0 = pc) (hp' : pcs.getD (i + 1) 0 = pc + 2) (hd : decode cc pc = .ok (.bipush n, 2)) (hv : (Int8.ofInt n).toInt32 = v) : ce_OkK l cc own nL rt d MC MS pcs i (o_int v) := by
  intro nn ls st S k res h hk p e s m args below meth c D ca b0 ad0 S0 ad H locs rls hC h61 hX hR hT h1 h2
  obtain ⟨hx, hb, hml, hown, ⟨w0, hts⟩, hr, hlk, hG⟩ := id hC
  have w := hk _ _ _ _ _ h p e s m args below meth c D ca b0 ad0 S0 ad H locs rls hC h61 hX hR (ce_okT_cons trivial hT) h1 h2
  rw [hp'] at w
  rw [hp]
  exact lv_bipush hx hb hd hv w
theorem kk_sipush {v : Int32} {n : Int} (hp : pcs.getD i 0 = pc) (hp' : pcs.getD (i + 1) 0 = pc + 3) (hd : decode cc pc = .ok (.sipush n, 3)) (hv : (Int16.ofInt n).toInt32 = v) : ce_OkK l cc own nL rt d MC MS pcs i (o_int v) := by
  intro nn ls st S k res h hk p e s m args below meth c D ca b0 ad0 S0 ad H locs rls hC h61 hX hR hT h1 h2
  obtain ⟨hx, hb, hml, hown, ⟨w0, hts⟩, hr, hlk, hG⟩ := id hC
  have w := hk _ _ _ _ _ h p e s m args below meth c D ca b0 ad0 S0 ad H locs rls hC h61 hX hR (ce_okT_cons trivial hT) h1 h2
  rw [hp'] at w
  rw [hp]
  exact lv_sipush hx hb hd hv w
theorem kk_iadd (hp : pcs.getD i 0 = pc) (hp' : pcs.getD (i + 1) 0 = pc + 1) (hd : decode cc pc = .ok (.iadd, 1)) : ce_OkK l cc own nL rt d MC MS pcs i (o_bin q_add) := by
  intro nn ls st S k res h hk p e s m args below meth c D ca b0 ad0 S0 ad H locs rls hC h61 hX hR hT h1 h2
  obtain ⟨hx, hb, hml, hown, ⟨w0, hts⟩, hr, hlk, hG⟩ := id hC
  unfold o_bin at h
  split at h
  · rename_i y x r
    have w := hk _ _ _ _ _ h p e s m args below meth c D ca b0 ad0 S0 ad H locs rls hC h61 hX hR (ce_okT_cons trivial (ce_okT_tl (ce_okT_tl hT))) h1 h2
    rw [hp', q_add_eq] at w
    rw [hp]
    exact lv_iadd hx hb hd w
  · cases h
theorem kk_isub (hp : pcs.getD i 0 = pc) (hp' : pcs.getD (i + 1) 0 = pc + 1) (hd : decode cc pc = .ok (.isub, 1)) : ce_OkK l cc own nL rt d MC MS pcs i (o_bin q_sub) := by
  intro nn ls st S k res h hk p e s m args below meth c D ca b0 ad0 S0 ad H locs rls hC h61 hX hR hT h1 h2
  obtain ⟨hx, hb, hml, hown, ⟨w0, hts⟩, hr, hlk, hG⟩ := id hC
  unfold o_bin at h
  split at h
  · rename_i y x r
    have w := hk _ _ _ _ _ h p e s m args below meth c D ca b0 ad0 S0 ad H locs rls hC h61 hX hR (ce_okT_cons trivial (ce_okT_tl (ce_okT_tl hT))) h1 h2
    rw [hp', q_sub_eq] at w
    rw [hp]
    exact lv_isub hx hb hd w
  · cases h
theorem kk_iload_n {j : Fin 4} (hp : pcs.getD i 0 = pc) (hp' : pcs.getD (i + 1) 0 = pc + 1) (hd : decode cc pc = .ok (.iload_n j, 1)) : ce_OkK l cc own nL rt d MC MS pcs i (o_iload j.val) := by
  intro nn ls st S k res h hk p e s m args below meth c D ca b0 ad0 S0 ad H locs rls hC h61 hX hR hT h1 h2
  obtain ⟨hx, hb, hml, hown, ⟨w0, hts⟩, hr, hlk, hG⟩ := id hC
  unfold o_iload at h
  split at h
  · rename_i x hv
    have w := hk _ _ _ _ _ h p e s m args below meth c D ca b0 ad0 S0 ad H locs rls hC h61 hX hR (ce_okT_cons trivial hT) h1 h2
    rw [hp'] at w
    rw [hp]
    exact lv_iload_n hx hb hd rfl (hR.2.2.1.2.2.2 _ _ (ce_getD hv)).1 w
  · cases h
theorem kk_istore_n {j : Fin 4} (hp : pcs.getD i 0 = pc) (hp' : pcs.getD (i + 1) 0 = pc + 1) (hd : decode cc pc = .ok (.istore_n j, 1)) (hj : j.val < nL) : ce_OkK l cc own nL rt d MC MS pcs i (o_istore j.val) := by
  intro nn ls st S k res h hk p e s m args below meth c D ca b0 ad0 S0 ad H locs rls hC h61 hX hR hT h1 h2
  obtain ⟨hx, hb, hml, hown, ⟨w0, hts⟩, hr, hlk, hG⟩ := id hC
  unfold o_istore at h
  split at h
  · rename_i x r
    rw [hp]
    refine lv_istore_n hx hb hd rfl hR.2.2.1.has hj rfl (fun rls' hl => ?_)
    have w := hk _ _ _ _ _ h p e s m args below meth c D ca b0 ad0 S0 ad H locs rls' hC h61 hX ⟨hR.1, hR.2.1, hR.2.2.1.store (x := .inl x) rfl hl, hR.2.2.2.1, ce_okL_set hR.2.2.2.2.1 trivial, hR.2.2.2.2.2⟩ (ce_okT_tl hT) h1 h2
    rw [hp'] at w
    exact w
  · cases h
theorem kk_iload {j : Nat} (hp : pcs.getD i 0 = pc) (hp' : pcs.getD (i + 1) 0 = pc + 2) (hd : decode cc pc = .ok (.iload j, 2)) : ce_OkK l cc own nL rt d MC MS pcs i (o_iload j) := by
  intro nn ls st S k res h hk p e s m args below meth c D ca b0 ad0 S0 ad H locs rls hC h61 hX hR hT h1 h2
  obtain ⟨hx, hb, hml, hown, ⟨w0, hts⟩, hr, hlk, hG⟩ := id hC
  unfold o_iload at h
  split at h
  · rename_i x hv
    have w := hk _ _ _ _ _ h p e s m args below meth c D ca b0 ad0 S0 ad H locs rls hC h61 hX hR (ce_okT_cons trivial hT) h1 h2
    rw [hp'] at w
    rw [hp]
    exact lv_iload hx hb hd (hR.2.2.1.2.2.2 _ _ (ce_getD hv)).1 w
  · cases h
theorem kk_istore {j : Nat} (hp : pcs.getD i 0 = pc) (hp' : pcs.getD (i + 1) 0 = pc + 2) (hd : decode cc pc = .ok (.istore j, 2)) (hj : j < nL) : ce_OkK l cc own nL rt d MC MS pcs i (o_istore j) := by
  intro nn ls st S k res h hk p e s m args below meth c D ca b0 ad0 S0 ad H locs rls hC h61 hX hR hT h1 h2
  obtain ⟨hx, hb, hml, hown, ⟨w0, hts⟩, hr, hlk, hG⟩ := id hC
  unfold o_istore at h
  split at h
  · rename_i x r
    rw [hp]
    refine lv_istore hx hb hd hR.2.2.1.has hj rfl (fun rls' hl => ?_)
    have w := hk _ _ _ _ _ h p e s m args below meth c D ca b0 ad0 S0 ad H locs rls' hC h61 hX ⟨hR.1, hR.2.1, hR.2.2.1.store (x := .inl x) rfl hl, hR.2.2.2.1, ce_okL_set hR.2.2.2.2.1 trivial, hR.2.2.2.2.2⟩ (ce_okT_tl hT) h1 h2
    rw [hp'] at w
    exact w
  · cases h
theorem kk_aload_n {j : Fin 4} (hp : pcs.getD i 0 = pc) (hp' : pcs.getD (i + 1) 0 = pc + 1) (hd : decode cc pc = .ok (.aload_n j, 1)) : ce_OkK l cc own nL rt d MC MS pcs i (o_aload j.val) := by
  intro nn ls st S k res h hk p e s m args below meth c D ca b0 ad0 S0 ad H locs rls hC h61 hX hR hT h1 h2
  obtain ⟨hx, hb, hml, hown, ⟨w0, hts⟩, hr, hlk, hG⟩ := id hC
  unfold o_aload at h
  split at h
  · rename_i q hv
    have w := hk _ _ _ _ _ h p e s m args below meth c D ca b0 ad0 S0 ad H locs rls hC h61 hX hR (ce_okT_cons (hR.2.2.2.2.1 _ _ (ce_getD hv)) hT) h1 h2
    rw [hp'] at w
    rw [hp]
    exact lv_aload_n hx hb hd rfl (hR.2.2.1.2.2.2 _ _ (ce_getD hv)).1 w
  · cases h
theorem kk_aload {j : Nat} (hp : pcs.getD i 0 = pc) (hp' : pcs.getD (i + 1) 0 = pc + 2) (hd : decode cc pc = .ok (.aload j, 2)) : ce_OkK l cc own nL rt d MC MS pcs i (o_aload j) := by
  intro nn ls st S k res h hk p e s m args below meth c D ca b0 ad0 S0 ad H locs rls hC h61 hX hR hT h1 h2
  obtain ⟨hx, hb, hml, hown, ⟨w0, hts⟩, hr, hlk, hG⟩ := id hC
  unfold o_aload at h
  split at h
  · rename_i q hv
    have w := hk _ _ _ _ _ h p e s m args below meth c D ca b0 ad0 S0 ad H locs rls hC h61 hX hR (ce_okT_cons (hR.2.2.2.2.1 _ _ (ce_getD hv)) hT) h1 h2
    rw [hp'] at w
    rw [hp]
    exact lv_aload hx hb hd (hR.2.2.1.2.2.2 _ _ (ce_getD hv)).1 w
  · cases h
theorem kk_iinc {j : Nat} {n : Int} {v : Int32} (hp : pcs.getD i 0 = pc) (hp' : pcs.getD (i + 1) 0 = pc + 3) (hd : decode cc pc = .ok (.iinc j n, 3)) (hv : Int32.ofInt n = v) (hj : j < nL) : ce_OkK l cc own nL rt d MC MS pcs i (o_iinc j v) := by
  intro nn ls st S k res h hk p e s m args below meth c D ca b0 ad0 S0 ad H locs rls hC h61 hX hR hT h1 h2
  obtain ⟨hx, hb, hml, hown, ⟨w0, hts⟩, hr, hlk, hG⟩ := id hC
  unfold o_iinc at h
  split at h
  · rename_i x hq
    rw [q_add_eq] at h
    have hin : (j, ce_val ad (.inl x)) ∈ ce_pr ad nL ls := ce_pr_in hR.2.2.1.2.2.1 (ce_getD hq)
    obtain ⟨kk, hkk⟩ := List.getElem?_of_mem hin
    rw [hp]
    refine lv_iinc (v := x + v) hx hb hd hR.2.2.1.has hkk (by rw [hv]) hj rfl (fun rls' hl => ?_)
    have w := hk _ _ _ _ _ h p e s m args below meth c D ca b0 ad0 S0 ad H locs rls' hC h61 hX ⟨hR.1, hR.2.1, hR.2.2.1.store (x := .inl (x + v)) rfl hl, hR.2.2.2.1, ce_okL_set hR.2.2.2.2.1 trivial, hR.2.2.2.2.2⟩ hT h1 h2
    rw [hp'] at w
    exact w
  · cases h
theorem kk_goto {t tg : Nat} {off : Int} (hp : pcs.getD i 0 = pc) (hd : decode cc pc = .ok (.goto off, 3)) (ht : pcs.getD t 0 = tg) (hf : (pc : Int) + off = (tg : Int)) : ce_OkK l cc own nL rt d MC MS pcs i (o_goto t) := by
  intro nn ls st S k res h hk p e s m args below meth c D ca b0 ad0 S0 ad H locs rls hC h61 hX hR hT h1 h2
  obtain ⟨hx, hb, hml, hown, ⟨w0, hts⟩, hr, hlk, hG⟩ := id hC
  have w := hk _ _ _ _ _ h p e s m args below meth c D ca b0 ad0 S0 ad H locs rls hC h61 hX hR hT h1 h2
  rw [ht] at w
  rw [hp]
  exact lv_goto hx hb hd hf w
theorem kk_cmpge {t tg : Nat} {off : Int} (hp : pcs.getD i 0 = pc) (hp' : pcs.getD (i + 1) 0 = pc + 3) (hd : decode cc pc = .ok (.if_icmp .ge off, 3)) (ht : pcs.getD t 0 = tg) (hf : (pc : Int) + off = (tg : Int)) : ce_OkK l cc own nL rt d MC MS pcs i (o_cmpge t) := by
  intro nn ls st S k res h hk p e s m args below meth c D ca b0 ad0 S0 ad H locs rls hC h61 hX hR hT h1 h2
  obtain ⟨hx, hb, hml, hown, ⟨w0, hts⟩, hr, hlk, hG⟩ := id hC
  unfold o_cmpge at h
  split at h
  · rename_i y x r
    rw [hp]
    refine lv_icmp_ge (tgt := tg) hx hb hd hf (fun q => ?_) (fun q => ?_)
    · rw [if_pos q] at h
      have w := hk _ _ _ _ _ h p e s m args below meth c D ca b0 ad0 S0 ad H locs rls hC h61 hX hR (ce_okT_tl (ce_okT_tl hT)) h1 h2
      rw [ht] at w
      exact w
    · rw [if_neg q] at h
      have w := hk _ _ _ _ _ h p e s m args below meth c D ca b0 ad0 S0 ad H locs rls hC h61 hX hR (ce_okT_tl (ce_okT_tl hT)) h1 h2
      rw [hp'] at w
      exact w
  · cases h
theorem kk_cmplt {t tg : Nat} {off : Int} (hp : pcs.getD i 0 = pc) (hp' : pcs.getD (i + 1) 0 = pc + 3) (hd : decode cc pc = .ok (.if_icmp .lt off, 3)) (ht : pcs.getD t 0 = tg) (hf : (pc : Int) + off = (tg : Int)) : ce_OkK l cc own nL rt d MC MS pcs i (o_cmplt t) := by
  intro nn ls st S k res h hk p e s m args below meth c D ca b0 ad0 S0 ad H locs rls hC h61 hX hR hT h1 h2
  obtain ⟨hx, hb, hml, hown, ⟨w0, hts⟩, hr, hlk, hG⟩ := id hC
  unfold o_cmplt at h
  split at h
  · rename_i y x r
    rw [hp]
    refine lv_icmp_lt (tgt := tg) hx hb hd hf (fun q => ?_) (fun q => ?_)
    · rw [if_pos q] at h
      have w := hk _ _ _ _ _ h p e s m args below meth c D ca b0 ad0 S0 ad H locs rls hC h61 hX hR (ce_okT_tl (ce_okT_tl hT)) h1 h2
      rw [ht] at w
      exact w
    · rw [if_neg q] at h
      have w := hk _ _ _ _ _ h p e s m args below meth c D ca b0 ad0 S0 ad H locs rls hC h61 hX hR (ce_okT_tl (ce_okT_tl hT)) h1 h2
      rw [hp'] at w
      exact w
  · cases h
theorem kk_cmpeq {t tg : Nat} {off : Int} (hp : pcs.getD i 0 = pc) (hp' : pcs.getD (i + 1) 0 = pc + 3) (hd : decode cc pc = .ok (.if_icmp .eq off, 3)) (ht : pcs.getD t 0 = tg) (hf : (pc : Int) + off = (tg : Int)) : ce_OkK l cc own nL rt d MC MS pcs i (o_cmpeq t) := by
  intro nn ls st S k res h hk p e s m args below meth c D ca b0 ad0 S0 ad H locs rls hC h61 hX hR hT h1 h2
  obtain ⟨hx, hb, hml, hown, ⟨w0, hts⟩, hr, hlk, hG⟩ := id hC
  unfold o_cmpeq at h
  split at h
  · rename_i y x r
    rw [hp]
    refine lv_icmp_eq (tgt := tg) hx hb hd hf (fun q => ?_) (fun q => ?_)
    · rw [if_pos q] at h
      have w := hk _ _ _ _ _ h p e s m args below meth c D ca b0 ad0 S0 ad H locs rls hC h61 hX hR (ce_okT_tl (ce_okT_tl hT)) h1 h2
      rw [ht] at w
      exact w
    · rw [if_neg q] at h
      have w := hk _ _ _ _ _ h p e s m args below meth c D ca b0 ad0 S0 ad H locs rls hC h61 hX hR (ce_okT_tl (ce_okT_tl hT)) h1 h2
      rw [hp'] at w
      exact w
  · cases h
theorem kk_dup (hp : pcs.getD i 0 = pc) (hp' : pcs.getD (i + 1) 0 = pc + 1) (hd : decode cc pc = .ok (.dup, 1)) : ce_OkK l cc own nL rt d MC MS pcs i o_dup := by
  intro nn ls st S k res h hk p e s m args below meth c D ca b0 ad0 S0 ad H locs rls hC h61 hX hR hT h1 h2
  obtain ⟨hx, hb, hml, hown, ⟨w0, hts⟩, hr, hlk, hG⟩ := id hC
  unfold o_dup at h
  split at h
  · rename_i x r
    have w := hk _ _ _ _ _ h p e s m args below meth c D ca b0 ad0 S0 ad H locs rls hC h61 hX hR (ce_okT_cons trivial hT) h1 h2
    rw [hp'] at w
    rw [hp]
    exact lv_dup hx hb hd rfl w
  · rename_i x r
    have w := hk _ _ _ _ _ h p e s m args below meth c D ca b0 ad0 S0 ad H locs rls hC h61 hX hR (ce_okT_cons (ce_okT_hd hT) hT) h1 h2
    rw [hp'] at w
    rw [hp]
    exact lv_dup hx hb hd rfl w
  · cases h
theorem kk_pop (hp : pcs.getD i 0 = pc) (hp' : pcs.getD (i + 1) 0 = pc + 1) (hd : decode cc pc = .ok (.pop, 1)) : ce_OkK l cc own nL rt d MC MS pcs i o_pop := by
  intro nn ls st S k res h hk p e s m args below meth c D ca b0 ad0 S0 ad H locs rls hC h61 hX hR hT h1 h2
  obtain ⟨hx, hb, hml, hown, ⟨w0, hts⟩, hr, hlk, hG⟩ := id hC
  unfold o_pop at h
  split at h
  · rename_i x r
    have w := hk _ _ _ _ _ h p e s m args below meth c D ca b0 ad0 S0 ad H locs rls hC h61 hX hR (ce_okT_tl hT) h1 h2
    rw [hp'] at w
    rw [hp]
    exact lv_pop hx hb hd rfl w
  · cases h
theorem kk_iret (hp : pcs.getD i 0 = pc) (hd : decode cc pc = .ok (.ireturn, 1)) (hrt : rt = some .int) : ce_OkK l cc own nL rt d MC MS pcs i o_iret := by
  intro nn ls st S k res h hk p e s m args below meth c D ca b0 ad0 S0 ad H locs rls hC h61 hX hR hT h1 h2
  obtain ⟨hx, hb, hml, hown, ⟨w0, hts⟩, hr, hlk, hG⟩ := id hC
  unfold o_iret at h
  split at h
  · rename_i x
    cases h
    rw [hp]
    refine W.widen h1 h2 ?_
    exact W.iret hx hb (hr.trans hrt) (fun t ht hW => ⟨ad, hR.2.2.2.2.2, rfl, hR.2.2.2.1, fun v hv => by cases hv; trivial, by rw [ht]; exact hR.1, hR.2.1.F ht⟩) hR.2.1.2.2 hd
  · cases h
theorem kk_vret (hp : pcs.getD i 0 = pc) (hd : decode cc pc = .ok (.return_, 1)) (hrt : rt = none) : ce_OkK l cc own nL rt d MC MS pcs i o_vret := by
  intro nn ls st S k res h hk p e s m args below meth c D ca b0 ad0 S0 ad H locs rls hC h61 hX hR hT h1 h2
  obtain ⟨hx, hb, hml, hown, ⟨w0, hts⟩, hr, hlk, hG⟩ := id hC
  unfold o_vret at h
  split at h
  · cases h
    rw [hp]
    refine W.widen h1 h2 ?_
    exact W.vret hx hb (hr.trans hrt) (fun t ht hW => ⟨ad, hR.2.2.2.2.2, rfl, hR.2.2.2.1, (fun v hv => by cases hv), by rw [ht]; exact hR.1, hR.2.1.F ht⟩) hR.2.1.2.2 hd
  · cases h
theorem kk_aret {C : String} (hp : pcs.getD i 0 = pc) (hd : decode cc pc = .ok (.areturn, 1)) (hrt : rt = some (.object C)) : ce_OkK l cc own nL rt d MC MS pcs i o_aret := by
  intro nn ls st S k res h hk p e s m args below meth c D ca b0 ad0 S0 ad H locs rls hC h61 hX hR hT h1 h2
  obtain ⟨hx, hb, hml, hown, ⟨w0, hts⟩, hr, hlk, hG⟩ := id hC
  unfold o_aret at h
  split at h
  · rename_i q
    cases h
    rw [hp]
    refine W.widen h1 h2 ?_
    exact W.aret hx hb (hr.trans hrt) (Or.inl ⟨_, rfl⟩) (Or.inr ⟨_, rfl⟩) (fun t ht hW => ⟨ad, hR.2.2.2.2.2, rfl, hR.2.2.2.1, fun v hv => by cases hv; exact ce_okT_hd hT, by rw [ht]; exact hR.1, hR.2.1.F ht⟩) hR.2.1.2.2 hd
  · cases h
end CEO
