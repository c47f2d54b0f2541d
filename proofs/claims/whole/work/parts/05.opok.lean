theorem ce_okT_cons {S : ce_S} {v : ce_V} {st : List ce_V} (h : ce_okV S v) (hT : ce_okT S st) : ce_okT S (v :: st) := fun w hw => (List.mem_cons.mp hw).elim (fun q => q ▸ h) (hT w)
theorem ce_okT_tl {S : ce_S} {v : ce_V} {st : List ce_V} (hT : ce_okT S (v :: st)) : ce_okT S st := fun w hw => hT w (List.mem_cons_of_mem _ hw)
theorem ce_okT_hd {S : ce_S} {v : ce_V} {st : List ce_V} (hT : ce_okT S (v :: st)) : ce_okV S v := hT v List.mem_cons_self
theorem ce_getD {ls : List (Option ce_V)} {j : Nat} {v : ce_V} (h : ls.getD j none = some v) : ls[j]? = some (some v) := by
  unfold List.getD at h
  cases hq : ls[j]? with
  | none => rw [hq] at h; cases h
  | some x => rw [hq] at h; exact congrArg some h
def ce_pr (ad : Nat → Nat → Nat) (nL : Nat) (ls : List (Option ce_V)) : List (Nat × Value) := (List.range nL).filterMap (fun j => match ls[j]? with
  | some (some v) => some (j, ce_val ad v)
  | _ => none)
theorem ce_pr_in {ad : Nat → Nat → Nat} {nL : Nat} {ls : List (Option ce_V)} {j : Nat} {v : ce_V} (hn : ls.length = nL) (h : ls[j]? = some (some v)) : (j, ce_val ad v) ∈ ce_pr ad nL ls := by
  refine List.mem_filterMap.mpr ⟨j, List.mem_range.mpr (by rw [← hn]; exact (List.getElem?_eq_some_iff.mp h).1), ?_⟩
  rw [h]
theorem ce_pr_of {ad : Nat → Nat → Nat} {nL : Nat} {ls : List (Option ce_V)} {q : Nat × Value} (h : q ∈ ce_pr ad nL ls) : ∃ v, ls[q.1]? = some (some v) ∧ q.2 = ce_val ad v := by
  obtain ⟨j, -, hj⟩ := List.mem_filterMap.mp h
  split at hj
  · rename_i v hv
    cases hj
    exact ⟨v, hv, rfl⟩
  · cases hj
theorem ce_lv.has {ad : Nat → Nat → Nat} {rls : Array Slot} {nL : Nat} {ls : List (Option ce_V)} (h : ce_lv ad rls nL ls) : lv_has rls nL (ce_pr ad nL ls) := by
  obtain ⟨h1, h2, h3, h4⟩ := h
  refine ⟨h1, h2, fun q hq => ?_⟩
  obtain ⟨v, g1, g2⟩ := ce_pr_of hq
  rw [g2]
  exact (h4 _ _ g1).1
theorem ce_lv.store {ad : Nat → Nat → Nat} {rls rls' : Array Slot} {nL j : Nat} {ls : List (Option ce_V)} {x : ce_V} (h : ce_lv ad rls nL ls) (hx : (ce_val ad x).category = 1) (h' : lv_has rls' nL ((j, ce_val ad x) :: (ce_pr ad nL ls).filter (fun q => !(q.1 == j) && !(q.1 + 1 == j && q.2.category == 2)))) : ce_lv ad rls' nL (ls.set j (some x)) := by
  obtain ⟨h1, h2, h3, h4⟩ := h
  obtain ⟨g1, g2, g3⟩ := h'
  refine ⟨g1, g2, by rw [List.length_set]; exact h3, fun a w hw => ?_⟩
  by_cases e : a = j
  · subst e
    rw [List.getElem?_set_self'] at hw
    cases hl : ls[a]? with
    | none => rw [hl] at hw; cases hw
    | some z =>
      rw [hl] at hw
      cases hw
      exact ⟨g3 _ List.mem_cons_self, hx⟩
  · rw [List.getElem?_set_ne (fun q => e q.symm)] at hw
    obtain ⟨k1, k2⟩ := h4 a w hw
    refine ⟨g3 (a, ce_val ad w) (List.mem_cons_of_mem _ (List.mem_filter.mpr ⟨ce_pr_in h3 hw, ?_⟩)), k2⟩
    simp [e, k2]
theorem ce_okL_set {S : ce_S} {ls : List (Option ce_V)} {j : Nat} {x : ce_V} (h : ce_okL S ls) (hx : ce_okV S x) : ce_okL S (ls.set j (some x)) := by
  intro a w hw
  by_cases e : a = j
  · subst e
    rw [List.getElem?_set_self'] at hw
    cases hl : ls[a]? with
    | none => rw [hl] at hw; cases hw
    | some z =>
      rw [hl] at hw
      cases hw
      exact hx
  · rw [List.getElem?_set_ne (fun q => e q.symm)] at hw
    exact h a w hw
theorem ce_wIn {w0 w : Cond} {P : Cond → Prop} {n : Nat} (hts : ∀ w ∈ w0 :: ce_tw, P w) (h : lw_tbl[n]? = some w) (g : goodWord w = true) : P w := hts w (List.mem_cons_of_mem _ (ce_tw_in (List.mem_of_getElem? h) g))
theorem ce_sw_or {x : Int32} {d : Nat} {kk : Nat → ce_Rs} {res : Option ce_V × ce_S} : ∀ (ks : List (Int32 × Nat)), ce_sw x ks d kk = some res → (∃ (j : Nat) (q : Int32 × Nat), ks[j]? = some q ∧ x = q.1 ∧ kk q.2 = some res) ∨ ((∀ (j : Nat) (q : Int32 × Nat), ks[j]? = some q → ¬ x = q.1) ∧ kk d = some res) := by
  intro ks
  induction ks with
  | nil => intro h; exact Or.inr ⟨(fun j q hq => by simp at hq), h⟩
  | cons a r ih =>
    intro h
    unfold ce_sw at h
    by_cases e : x = a.1
    · rw [if_pos e] at h
      exact Or.inl ⟨0, a, rfl, e, h⟩
    · rw [if_neg e] at h
      rcases ih h with ⟨j, q, h1, h2, h3⟩ | ⟨h1, h2⟩
      · exact Or.inl ⟨j + 1, q, h1, h2, h3⟩
      · refine Or.inr ⟨fun j q hq => ?_, h2⟩
        cases j with
        | zero => cases hq; exact e
        | succ j => exact h1 j q hq
def ce_swok (pc : Nat) (pcs : List Nat) (lo : Int) (offs : Array Int) (ks : List (Int32 × Nat)) : Bool := (List.range ks.length).all fun j => match ks[j]?, offs[j]? with
  | some q, some off => q.1.toInt == lo + (j : Int) && (pc : Int) + off == ((pcs.getD q.2 0 : Nat) : Int)
  | _, _ => false
theorem ce_swok_at {pc : Nat} {pcs : List Nat} {lo : Int} {offs : Array Int} {ks : List (Int32 × Nat)} (h : ce_swok pc pcs lo offs ks = true) {j : Nat} {q : Int32 × Nat} (hq : ks[j]? = some q) : ∃ off, offs[j]? = some off ∧ q.1.toInt = lo + (j : Int) ∧ (pc : Int) + off = ((pcs.getD q.2 0 : Nat) : Int) := by
  have h1 := List.all_eq_true.mp h j (List.mem_range.mpr (List.getElem?_eq_some_iff.mp hq).1)
  rw [hq] at h1
  cases ho : offs[j]? with
  | none => rw [ho] at h1; cases h1
  | some off =>
    rw [ho] at h1
    simp only [Bool.and_eq_true, beq_iff_eq] at h1
    exact ⟨off, rfl, h1.1, h1.2⟩
section CEO
variable {l : Launch} {cc : ByteArray} {own : String} {nL : Nat} {rt : Option FieldType} {d MC MS : Nat} {pcs : List Nat} {i pc : Nat}
theorem ok_iconst {v : Int32} {n : Int} (hp : pcs.getD i 0 = pc) (hp' : pcs.getD (i + 1) 0 = pc + 1) (hd : decode cc pc = .ok (.iconst n, 1)) (hv : Int32.ofInt n = v) : ce_Ok l cc own nL rt d MC MS pcs i (o_int v) := by
  intro nn ls st S k res h hk p e s m args below meth c D ca b0 ad0 S0 ad H locs rls hC h61 hX hR hT h1 h2
  obtain ⟨hx, hb, hml, hown, ⟨w0, hts⟩, hr, hlk, hG⟩ := id hC
  have w := hk _ _ _ _ _ h p e s m args below meth c D ca b0 ad0 S0 ad H locs rls hC h61 hX hR (ce_okT_cons trivial hT) h1 h2
  rw [hp'] at w
  rw [hp]
  exact lv_iconst hx hb hd hv w
theorem ok_bipush {v : Int32} {n : Int} (hp : pcs.getD i 0 = pc) (hp' : pcs.getD (i + 1) 0 = pc + 2) (hd : decode cc pc = .ok (.bipush n, 2)) (hv : (Int8.ofInt n).toInt32 = v) : ce_Ok l cc own nL rt d MC MS pcs i (o_int v) := by
  intro nn ls st S k res h hk p e s m args below meth c D ca b0 ad0 S0 ad H locs rls hC h61 hX hR hT h1 h2
  obtain ⟨hx, hb, hml, hown, ⟨w0, hts⟩, hr, hlk, hG⟩ := id hC
  have w := hk _ _ _ _ _ h p e s m args below meth c D ca b0 ad0 S0 ad H locs rls hC h61 hX hR (ce_okT_cons trivial hT) h1 h2
  rw [hp'] at w
  rw [hp]
  exact lv_bipush hx hb hd hv w
theorem ok_sipush {v : Int32} {n : Int} (hp : pcs.getD i 0 = pc) (hp' : pcs.getD (i + 1) 0 = pc + 3) (hd : decode cc pc = .ok (.sipush n, 3)) (hv : (Int16.ofInt n).toInt32 = v) : ce_Ok l cc own nL rt d MC MS pcs i (o_int v) := by
  intro nn ls st S k res h hk p e s m args below meth c D ca b0 ad0 S0 ad H locs rls hC h61 hX hR hT h1 h2
  obtain ⟨hx, hb, hml, hown, ⟨w0, hts⟩, hr, hlk, hG⟩ := id hC
  have w := hk _ _ _ _ _ h p e s m args below meth c D ca b0 ad0 S0 ad H locs rls hC h61 hX hR (ce_okT_cons trivial hT) h1 h2
  rw [hp'] at w
  rw [hp]
  exact lv_sipush hx hb hd hv w
theorem ok_ldcw {v : Int32} {ix wp : Nat} (hp : pcs.getD i 0 = pc) (hp' : pcs.getD (i + 1) 0 = pc + 3) (hd : decode cc pc = .ok (.ldc_w ix, 3)) (hw : lw_tbl[wp]? = some (Cond.constant own ix v)) (hg : goodWord (Cond.constant own ix v) = true) : ce_Ok l cc own nL rt d MC MS pcs i (o_int v) := by
  intro nn ls st S k res h hk p e s m args below meth c D ca b0 ad0 S0 ad H locs rls hC h61 hX hR hT h1 h2
  obtain ⟨hx, hb, hml, hown, ⟨w0, hts⟩, hr, hlk, hG⟩ := id hC
  have w := hk _ _ _ _ _ h p e s m args below meth c D ca b0 ad0 S0 ad H locs rls hC h61 hX hR (ce_okT_cons trivial hT) h1 h2
  rw [hp'] at w
  rw [hp]
  exact lv_ldcw hx hb hown (ce_wIn hts hw hg) hd w
theorem ok_ldc2 {v : Int64} {ix wp : Nat} (hp : pcs.getD i 0 = pc) (hp' : pcs.getD (i + 1) 0 = pc + 3) (hd : decode cc pc = .ok (.ldc2_w ix, 3)) (hw : lw_tbl[wp]? = some (Cond.constantLong own ix v)) (hg : goodWord (Cond.constantLong own ix v) = true) : ce_Ok l cc own nL rt d MC MS pcs i (o_long v) := by
  intro nn ls st S k res h hk p e s m args below meth c D ca b0 ad0 S0 ad H locs rls hC h61 hX hR hT h1 h2
  obtain ⟨hx, hb, hml, hown, ⟨w0, hts⟩, hr, hlk, hG⟩ := id hC
  have w := hk _ _ _ _ _ h p e s m args below meth c D ca b0 ad0 S0 ad H locs rls hC h61 hX hR (ce_okT_cons trivial hT) h1 h2
  rw [hp'] at w
  rw [hp]
  exact lv_ldc2 hx hb hown (ce_wIn hts hw hg) hd w
theorem ok_iadd (hp : pcs.getD i 0 = pc) (hp' : pcs.getD (i + 1) 0 = pc + 1) (hd : decode cc pc = .ok (.iadd, 1)) : ce_Ok l cc own nL rt d MC MS pcs i (o_bin q_add) := by
  intro nn ls st S k res h hk p e s m args below meth c D ca b0 ad0 S0 ad H locs rls hC h61 hX hR hT h1 h2
  obtain ⟨hx, hb, hml, hown, ⟨w0, hts⟩, hr, hlk, hG⟩ := id hC
  unfold o_bin at h
  split at h
  · rename_i y x r
    have w := hk _ _ _ _ _ h p e s m args below meth c D ca b0 ad0 S0 ad H locs rls hC h61 hX hR (ce_okT_cons trivial (ce_okT_tl (ce_okT_tl hT))) h1 h2
    rw [hp', q_add_eq] at w
    rw [hp]
    exact lv_iadd hx hb hd w
  · cases h
theorem ok_isub (hp : pcs.getD i 0 = pc) (hp' : pcs.getD (i + 1) 0 = pc + 1) (hd : decode cc pc = .ok (.isub, 1)) : ce_Ok l cc own nL rt d MC MS pcs i (o_bin q_sub) := by
  intro nn ls st S k res h hk p e s m args below meth c D ca b0 ad0 S0 ad H locs rls hC h61 hX hR hT h1 h2
  obtain ⟨hx, hb, hml, hown, ⟨w0, hts⟩, hr, hlk, hG⟩ := id hC
  unfold o_bin at h
  split at h
  · rename_i y x r
    have w := hk _ _ _ _ _ h p e s m args below meth c D ca b0 ad0 S0 ad H locs rls hC h61 hX hR (ce_okT_cons trivial (ce_okT_tl (ce_okT_tl hT))) h1 h2
    rw [hp', q_sub_eq] at w
    rw [hp]
    exact lv_isub hx hb hd w
  · cases h
theorem ok_imul (hp : pcs.getD i 0 = pc) (hp' : pcs.getD (i + 1) 0 = pc + 1) (hd : decode cc pc = .ok (.imul, 1)) : ce_Ok l cc own nL rt d MC MS pcs i (o_bin q_mul) := by
  intro nn ls st S k res h hk p e s m args below meth c D ca b0 ad0 S0 ad H locs rls hC h61 hX hR hT h1 h2
  obtain ⟨hx, hb, hml, hown, ⟨w0, hts⟩, hr, hlk, hG⟩ := id hC
  unfold o_bin at h
  split at h
  · rename_i y x r
    have w := hk _ _ _ _ _ h p e s m args below meth c D ca b0 ad0 S0 ad H locs rls hC h61 hX hR (ce_okT_cons trivial (ce_okT_tl (ce_okT_tl hT))) h1 h2
    rw [hp', q_mul_eq] at w
    rw [hp]
    exact lv_imul hx hb hd w
  · cases h
theorem ok_iand (hp : pcs.getD i 0 = pc) (hp' : pcs.getD (i + 1) 0 = pc + 1) (hd : decode cc pc = .ok (.iand, 1)) : ce_Ok l cc own nL rt d MC MS pcs i (o_bin q_and) := by
  intro nn ls st S k res h hk p e s m args below meth c D ca b0 ad0 S0 ad H locs rls hC h61 hX hR hT h1 h2
  obtain ⟨hx, hb, hml, hown, ⟨w0, hts⟩, hr, hlk, hG⟩ := id hC
  unfold o_bin at h
  split at h
  · rename_i y x r
    have w := hk _ _ _ _ _ h p e s m args below meth c D ca b0 ad0 S0 ad H locs rls hC h61 hX hR (ce_okT_cons trivial (ce_okT_tl (ce_okT_tl hT))) h1 h2
    rw [hp', q_and_eq] at w
    rw [hp]
    exact lv_iand hx hb hd w
  · cases h
theorem ok_iushr (hp : pcs.getD i 0 = pc) (hp' : pcs.getD (i + 1) 0 = pc + 1) (hd : decode cc pc = .ok (.iushr, 1)) : ce_Ok l cc own nL rt d MC MS pcs i (o_bin q_ushr) := by
  intro nn ls st S k res h hk p e s m args below meth c D ca b0 ad0 S0 ad H locs rls hC h61 hX hR hT h1 h2
  obtain ⟨hx, hb, hml, hown, ⟨w0, hts⟩, hr, hlk, hG⟩ := id hC
  unfold o_bin at h
  split at h
  · rename_i y x r
    have w := hk _ _ _ _ _ h p e s m args below meth c D ca b0 ad0 S0 ad H locs rls hC h61 hX hR (ce_okT_cons trivial (ce_okT_tl (ce_okT_tl hT))) h1 h2
    rw [hp', q_ushr_eq] at w
    rw [hp]
    exact lv_iushr hx hb hd rfl w
  · cases h
theorem ok_idiv (hp : pcs.getD i 0 = pc) (hp' : pcs.getD (i + 1) 0 = pc + 1) (hd : decode cc pc = .ok (.idiv, 1)) : ce_Ok l cc own nL rt d MC MS pcs i o_div := by
  intro nn ls st S k res h hk p e s m args below meth c D ca b0 ad0 S0 ad H locs rls hC h61 hX hR hT h1 h2
  obtain ⟨hx, hb, hml, hown, ⟨w0, hts⟩, hr, hlk, hG⟩ := id hC
  unfold o_div at h
  split at h
  · rename_i y x r
    by_cases hy : y = 0
    · rw [if_pos hy] at h; cases h
    · rw [if_neg hy] at h
      have w := hk _ _ _ _ _ h p e s m args below meth c D ca b0 ad0 S0 ad H locs rls hC h61 hX hR (ce_okT_cons trivial (ce_okT_tl (ce_okT_tl hT))) h1 h2
      rw [hp', q_div_eq] at w
      rw [hp]
      exact lv_idiv hx hb hd hy w
  · cases h
theorem ok_irem (hp : pcs.getD i 0 = pc) (hp' : pcs.getD (i + 1) 0 = pc + 1) (hd : decode cc pc = .ok (.irem, 1)) : ce_Ok l cc own nL rt d MC MS pcs i o_rem := by
  intro nn ls st S k res h hk p e s m args below meth c D ca b0 ad0 S0 ad H locs rls hC h61 hX hR hT h1 h2
  obtain ⟨hx, hb, hml, hown, ⟨w0, hts⟩, hr, hlk, hG⟩ := id hC
  unfold o_rem at h
  split at h
  · rename_i y x r
    by_cases hy : y = 0
    · rw [if_pos hy] at h; cases h
    · rw [if_neg hy] at h
      have w := hk _ _ _ _ _ h p e s m args below meth c D ca b0 ad0 S0 ad H locs rls hC h61 hX hR (ce_okT_cons trivial (ce_okT_tl (ce_okT_tl hT))) h1 h2
      rw [hp', q_rem_eq] at w
      rw [hp]
      exact lv_irem hx hb hd hy w
  · cases h
theorem ok_ineg (hp : pcs.getD i 0 = pc) (hp' : pcs.getD (i + 1) 0 = pc + 1) (hd : decode cc pc = .ok (.ineg, 1)) : ce_Ok l cc own nL rt d MC MS pcs i (o_un q_neg) := by
  intro nn ls st S k res h hk p e s m args below meth c D ca b0 ad0 S0 ad H locs rls hC h61 hX hR hT h1 h2
  obtain ⟨hx, hb, hml, hown, ⟨w0, hts⟩, hr, hlk, hG⟩ := id hC
  unfold o_un at h
  split at h
  · rename_i x r
    have w := hk _ _ _ _ _ h p e s m args below meth c D ca b0 ad0 S0 ad H locs rls hC h61 hX hR (ce_okT_cons trivial (ce_okT_tl hT)) h1 h2
    rw [hp', q_neg_eq] at w
    rw [hp]
    exact lv_ineg hx hb hd w
  · cases h
theorem ok_i2b (hp : pcs.getD i 0 = pc) (hp' : pcs.getD (i + 1) 0 = pc + 1) (hd : decode cc pc = .ok (.i2b, 1)) : ce_Ok l cc own nL rt d MC MS pcs i (o_un q_i2b) := by
  intro nn ls st S k res h hk p e s m args below meth c D ca b0 ad0 S0 ad H locs rls hC h61 hX hR hT h1 h2
  obtain ⟨hx, hb, hml, hown, ⟨w0, hts⟩, hr, hlk, hG⟩ := id hC
  unfold o_un at h
  split at h
  · rename_i x r
    have w := hk _ _ _ _ _ h p e s m args below meth c D ca b0 ad0 S0 ad H locs rls hC h61 hX hR (ce_okT_cons trivial (ce_okT_tl hT)) h1 h2
    rw [hp', q_i2b_eq] at w
    rw [hp]
    exact lv_i2b hx hb hd rfl w
  · cases h
theorem ok_i2s (hp : pcs.getD i 0 = pc) (hp' : pcs.getD (i + 1) 0 = pc + 1) (hd : decode cc pc = .ok (.i2s, 1)) : ce_Ok l cc own nL rt d MC MS pcs i (o_un q_i2s) := by
  intro nn ls st S k res h hk p e s m args below meth c D ca b0 ad0 S0 ad H locs rls hC h61 hX hR hT h1 h2
  obtain ⟨hx, hb, hml, hown, ⟨w0, hts⟩, hr, hlk, hG⟩ := id hC
  unfold o_un at h
  split at h
  · rename_i x r
    have w := hk _ _ _ _ _ h p e s m args below meth c D ca b0 ad0 S0 ad H locs rls hC h61 hX hR (ce_okT_cons trivial (ce_okT_tl hT)) h1 h2
    rw [hp', q_i2s_eq] at w
    rw [hp]
    exact lv_i2s hx hb hd rfl w
  · cases h
theorem ok_i2l (hp : pcs.getD i 0 = pc) (hp' : pcs.getD (i + 1) 0 = pc + 1) (hd : decode cc pc = .ok (.i2l, 1)) : ce_Ok l cc own nL rt d MC MS pcs i o_i2l := by
  intro nn ls st S k res h hk p e s m args below meth c D ca b0 ad0 S0 ad H locs rls hC h61 hX hR hT h1 h2
  obtain ⟨hx, hb, hml, hown, ⟨w0, hts⟩, hr, hlk, hG⟩ := id hC
  unfold o_i2l at h
  split at h
  · rename_i x r
    have w := hk _ _ _ _ _ h p e s m args below meth c D ca b0 ad0 S0 ad H locs rls hC h61 hX hR (ce_okT_cons trivial (ce_okT_tl hT)) h1 h2
    rw [hp'] at w
    rw [hp]
    exact lv_i2l hx hb hd rfl w
  · cases h
theorem ok_lcmp (hp : pcs.getD i 0 = pc) (hp' : pcs.getD (i + 1) 0 = pc + 1) (hd : decode cc pc = .ok (.lcmp, 1)) : ce_Ok l cc own nL rt d MC MS pcs i o_lcmp := by
  intro nn ls st S k res h hk p e s m args below meth c D ca b0 ad0 S0 ad H locs rls hC h61 hX hR hT h1 h2
  obtain ⟨hx, hb, hml, hown, ⟨w0, hts⟩, hr, hlk, hG⟩ := id hC
  unfold o_lcmp at h
  split at h
  · rename_i y x r
    have w := hk _ _ _ _ _ h p e s m args below meth c D ca b0 ad0 S0 ad H locs rls hC h61 hX hR (ce_okT_cons trivial (ce_okT_tl (ce_okT_tl hT))) h1 h2
    rw [hp'] at w
    rw [hp]
    exact W.lcmp hx hb hd w
  · cases h
theorem ok_iload_n {j : Fin 4} (hp : pcs.getD i 0 = pc) (hp' : pcs.getD (i + 1) 0 = pc + 1) (hd : decode cc pc = .ok (.iload_n j, 1)) : ce_Ok l cc own nL rt d MC MS pcs i (o_iload j.val) := by
  intro nn ls st S k res h hk p e s m args below meth c D ca b0 ad0 S0 ad H locs rls hC h61 hX hR hT h1 h2
  obtain ⟨hx, hb, hml, hown, ⟨w0, hts⟩, hr, hlk, hG⟩ := id hC
  unfold o_iload at h
  split at h
  · rename_i x hv
    have w := hk _ _ _ _ _ h p e s m args below meth c D ca b0 ad0 S0 ad H locs rls hC h61 hX hR (ce_okT_cons trivial hT) h1 h2
    rw [hp'] at w
    rw [hp]
    exact lv_iload_n hx hb hd rfl (hR.2.2.1.2.2.2 _ _ (ce_getD hv)).1 w
  · cases h
theorem ok_istore_n {j : Fin 4} (hp : pcs.getD i 0 = pc) (hp' : pcs.getD (i + 1) 0 = pc + 1) (hd : decode cc pc = .ok (.istore_n j, 1)) (hj : j.val < nL) : ce_Ok l cc own nL rt d MC MS pcs i (o_istore j.val) := by
  intro nn ls st S k res h hk p e s m args below meth c D ca b0 ad0 S0 ad H locs rls hC h61 hX hR hT h1 h2
  obtain ⟨hx, hb, hml, hown, ⟨w0, hts⟩, hr, hlk, hG⟩ := id hC
  unfold o_istore at h
  split at h
  · rename_i x r
    rw [hp]
    refine lv_istore_n hx hb hd rfl hR.2.2.1.has hj rfl (fun rls' hl => ?_)
    have w := hk _ _ _ _ _ h p e s m args below meth c D ca b0 ad0 S0 ad H locs rls' hC h61 hX ⟨hR.1, hR.2.1, hR.2.2.1.store (x := .inl x) rfl hl, hR.2.2.2.1, ce_okL_set hR.2.2.2.2.1 trivial, hR.2.2.2.2.2⟩ (ce_okT_tl hT) h1 h2
    rw [hp'] at w
    exact w
  · cases h
theorem ok_iload {j : Nat} (hp : pcs.getD i 0 = pc) (hp' : pcs.getD (i + 1) 0 = pc + 2) (hd : decode cc pc = .ok (.iload j, 2)) : ce_Ok l cc own nL rt d MC MS pcs i (o_iload j) := by
  intro nn ls st S k res h hk p e s m args below meth c D ca b0 ad0 S0 ad H locs rls hC h61 hX hR hT h1 h2
  obtain ⟨hx, hb, hml, hown, ⟨w0, hts⟩, hr, hlk, hG⟩ := id hC
  unfold o_iload at h
  split at h
  · rename_i x hv
    have w := hk _ _ _ _ _ h p e s m args below meth c D ca b0 ad0 S0 ad H locs rls hC h61 hX hR (ce_okT_cons trivial hT) h1 h2
    rw [hp'] at w
    rw [hp]
    exact lv_iload hx hb hd (hR.2.2.1.2.2.2 _ _ (ce_getD hv)).1 w
  · cases h
theorem ok_istore {j : Nat} (hp : pcs.getD i 0 = pc) (hp' : pcs.getD (i + 1) 0 = pc + 2) (hd : decode cc pc = .ok (.istore j, 2)) (hj : j < nL) : ce_Ok l cc own nL rt d MC MS pcs i (o_istore j) := by
  intro nn ls st S k res h hk p e s m args below meth c D ca b0 ad0 S0 ad H locs rls hC h61 hX hR hT h1 h2
  obtain ⟨hx, hb, hml, hown, ⟨w0, hts⟩, hr, hlk, hG⟩ := id hC
  unfold o_istore at h
  split at h
  · rename_i x r
    rw [hp]
    refine lv_istore hx hb hd hR.2.2.1.has hj rfl (fun rls' hl => ?_)
    have w := hk _ _ _ _ _ h p e s m args below meth c D ca b0 ad0 S0 ad H locs rls' hC h61 hX ⟨hR.1, hR.2.1, hR.2.2.1.store (x := .inl x) rfl hl, hR.2.2.2.1, ce_okL_set hR.2.2.2.2.1 trivial, hR.2.2.2.2.2⟩ (ce_okT_tl hT) h1 h2
    rw [hp'] at w
    exact w
  · cases h
theorem ok_aload_n {j : Fin 4} (hp : pcs.getD i 0 = pc) (hp' : pcs.getD (i + 1) 0 = pc + 1) (hd : decode cc pc = .ok (.aload_n j, 1)) : ce_Ok l cc own nL rt d MC MS pcs i (o_aload j.val) := by
  intro nn ls st S k res h hk p e s m args below meth c D ca b0 ad0 S0 ad H locs rls hC h61 hX hR hT h1 h2
  obtain ⟨hx, hb, hml, hown, ⟨w0, hts⟩, hr, hlk, hG⟩ := id hC
  unfold o_aload at h
  split at h
  · rename_i q hv
    have w := hk _ _ _ _ _ h p e s m args below meth c D ca b0 ad0 S0 ad H locs rls hC h61 hX hR (ce_okT_cons (hR.2.2.2.2.1 _ _ (ce_getD hv)) hT) h1 h2
    rw [hp'] at w
    rw [hp]
    exact lv_aload_n hx hb hd rfl (hR.2.2.1.2.2.2 _ _ (ce_getD hv)).1 w
  · cases h
theorem ok_astore_n {j : Fin 4} (hp : pcs.getD i 0 = pc) (hp' : pcs.getD (i + 1) 0 = pc + 1) (hd : decode cc pc = .ok (.astore_n j, 1)) (hj : j.val < nL) : ce_Ok l cc own nL rt d MC MS pcs i (o_astore j.val) := by
  intro nn ls st S k res h hk p e s m args below meth c D ca b0 ad0 S0 ad H locs rls hC h61 hX hR hT h1 h2
  obtain ⟨hx, hb, hml, hown, ⟨w0, hts⟩, hr, hlk, hG⟩ := id hC
  unfold o_astore at h
  split at h
  · rename_i q r
    rw [hp]
    refine lv_astore_n hx hb hd rfl hR.2.2.1.has hj rfl (fun rls' hl => ?_)
    have w := hk _ _ _ _ _ h p e s m args below meth c D ca b0 ad0 S0 ad H locs rls' hC h61 hX ⟨hR.1, hR.2.1, hR.2.2.1.store (x := .inr (.inl q)) rfl hl, hR.2.2.2.1, ce_okL_set hR.2.2.2.2.1 (ce_okT_hd hT), hR.2.2.2.2.2⟩ (ce_okT_tl hT) h1 h2
    rw [hp'] at w
    exact w
  · cases h
theorem ok_aload {j : Nat} (hp : pcs.getD i 0 = pc) (hp' : pcs.getD (i + 1) 0 = pc + 2) (hd : decode cc pc = .ok (.aload j, 2)) : ce_Ok l cc own nL rt d MC MS pcs i (o_aload j) := by
  intro nn ls st S k res h hk p e s m args below meth c D ca b0 ad0 S0 ad H locs rls hC h61 hX hR hT h1 h2
  obtain ⟨hx, hb, hml, hown, ⟨w0, hts⟩, hr, hlk, hG⟩ := id hC
  unfold o_aload at h
  split at h
  · rename_i q hv
    have w := hk _ _ _ _ _ h p e s m args below meth c D ca b0 ad0 S0 ad H locs rls hC h61 hX hR (ce_okT_cons (hR.2.2.2.2.1 _ _ (ce_getD hv)) hT) h1 h2
    rw [hp'] at w
    rw [hp]
    exact lv_aload hx hb hd (hR.2.2.1.2.2.2 _ _ (ce_getD hv)).1 w
  · cases h
theorem ok_astore {j : Nat} (hp : pcs.getD i 0 = pc) (hp' : pcs.getD (i + 1) 0 = pc + 2) (hd : decode cc pc = .ok (.astore j, 2)) (hj : j < nL) : ce_Ok l cc own nL rt d MC MS pcs i (o_astore j) := by
  intro nn ls st S k res h hk p e s m args below meth c D ca b0 ad0 S0 ad H locs rls hC h61 hX hR hT h1 h2
  obtain ⟨hx, hb, hml, hown, ⟨w0, hts⟩, hr, hlk, hG⟩ := id hC
  unfold o_astore at h
  split at h
  · rename_i q r
    rw [hp]
    refine lv_astore hx hb hd hR.2.2.1.has hj rfl (fun rls' hl => ?_)
    have w := hk _ _ _ _ _ h p e s m args below meth c D ca b0 ad0 S0 ad H locs rls' hC h61 hX ⟨hR.1, hR.2.1, hR.2.2.1.store (x := .inr (.inl q)) rfl hl, hR.2.2.2.1, ce_okL_set hR.2.2.2.2.1 (ce_okT_hd hT), hR.2.2.2.2.2⟩ (ce_okT_tl hT) h1 h2
    rw [hp'] at w
    exact w
  · cases h
theorem ok_iinc {j : Nat} {n : Int} {v : Int32} (hp : pcs.getD i 0 = pc) (hp' : pcs.getD (i + 1) 0 = pc + 3) (hd : decode cc pc = .ok (.iinc j n, 3)) (hv : Int32.ofInt n = v) (hj : j < nL) : ce_Ok l cc own nL rt d MC MS pcs i (o_iinc j v) := by
  intro nn ls st S k res h hk p e s m args below meth c D ca b0 ad0 S0 ad H locs rls hC h61 hX hR hT h1 h2
  obtain ⟨hx, hb, hml, hown, ⟨w0, hts⟩, hr, hlk, hG⟩ := id hC
  unfold o_iinc at h
  split at h
  · rename_i x hq
    rw [q_add_eq] at h
    have hin : (j, ce_val ad (.inl x)) ∈ ce_pr ad nL ls := ce_pr_in hR.2.2.1.2.2.1 (ce_getD hq)
    obtain ⟨kk, hkk⟩ := List.getElem?_of_mem hin
    rw [hp]
    refine lv_iinc (v := x + v) hx hb hd hR.2.2.1.has hkk (by rw [hv]) hj rfl (fun rls' hl => ?_)
    have w := hk _ _ _ _ _ h p e s m args below meth c D ca b0 ad0 S0 ad H locs rls' hC h61 hX ⟨hR.1, hR.2.1, hR.2.2.1.store (x := .inl (x + v)) rfl hl, hR.2.2.2.1, ce_okL_set hR.2.2.2.2.1 trivial, hR.2.2.2.2.2⟩ hT h1 h2
    rw [hp'] at w
    exact w
  · cases h
theorem ok_goto {t tg : Nat} {off : Int} (hp : pcs.getD i 0 = pc) (hd : decode cc pc = .ok (.goto off, 3)) (ht : pcs.getD t 0 = tg) (hf : (pc : Int) + off = (tg : Int)) : ce_Ok l cc own nL rt d MC MS pcs i (o_goto t) := by
  intro nn ls st S k res h hk p e s m args below meth c D ca b0 ad0 S0 ad H locs rls hC h61 hX hR hT h1 h2
  obtain ⟨hx, hb, hml, hown, ⟨w0, hts⟩, hr, hlk, hG⟩ := id hC
  have w := hk _ _ _ _ _ h p e s m args below meth c D ca b0 ad0 S0 ad H locs rls hC h61 hX hR hT h1 h2
  rw [ht] at w
  rw [hp]
  exact lv_goto hx hb hd hf w
theorem ok_ifeq {t tg : Nat} {off : Int} (hp : pcs.getD i 0 = pc) (hp' : pcs.getD (i + 1) 0 = pc + 3) (hd : decode cc pc = .ok (.ifCond .eq off, 3)) (ht : pcs.getD t 0 = tg) (hf : (pc : Int) + off = (tg : Int)) : ce_Ok l cc own nL rt d MC MS pcs i (o_ifeq t) := by
  intro nn ls st S k res h hk p e s m args below meth c D ca b0 ad0 S0 ad H locs rls hC h61 hX hR hT h1 h2
  obtain ⟨hx, hb, hml, hown, ⟨w0, hts⟩, hr, hlk, hG⟩ := id hC
  unfold o_ifeq at h
  split at h
  · rename_i x r
    rw [hp]
    refine lv_if_eq (tgt := tg) hx hb hd hf (fun q => ?_) (fun q => ?_)
    · rw [if_pos q] at h
      have w := hk _ _ _ _ _ h p e s m args below meth c D ca b0 ad0 S0 ad H locs rls hC h61 hX hR (ce_okT_tl hT) h1 h2
      rw [ht] at w
      exact w
    · rw [if_neg q] at h
      have w := hk _ _ _ _ _ h p e s m args below meth c D ca b0 ad0 S0 ad H locs rls hC h61 hX hR (ce_okT_tl hT) h1 h2
      rw [hp'] at w
      exact w
  · cases h
theorem ok_cmpeq {t tg : Nat} {off : Int} (hp : pcs.getD i 0 = pc) (hp' : pcs.getD (i + 1) 0 = pc + 3) (hd : decode cc pc = .ok (.if_icmp .eq off, 3)) (ht : pcs.getD t 0 = tg) (hf : (pc : Int) + off = (tg : Int)) : ce_Ok l cc own nL rt d MC MS pcs i (o_cmpeq t) := by
  intro nn ls st S k res h hk p e s m args below meth c D ca b0 ad0 S0 ad H locs rls hC h61 hX hR hT h1 h2
  obtain ⟨hx, hb, hml, hown, ⟨w0, hts⟩, hr, hlk, hG⟩ := id hC
  unfold o_cmpeq at h
  split at h
  · rename_i y x r
    rw [hp]
    refine lv_icmp_eq (tgt := tg) hx hb hd hf (fun q => ?_) (fun q => ?_)
    · rw [if_pos q] at h
      have w := hk _ _ _ _ _ h p e s m args below meth c D ca b0 ad0 S0 ad H locs rls hC h61 hX hR (ce_okT_tl (ce_okT_tl hT)) h1 h2
      rw [ht] at w
      exact w
    · rw [if_neg q] at h
      have w := hk _ _ _ _ _ h p e s m args below meth c D ca b0 ad0 S0 ad H locs rls hC h61 hX hR (ce_okT_tl (ce_okT_tl hT)) h1 h2
      rw [hp'] at w
      exact w
  · cases h
theorem ok_ifne {t tg : Nat} {off : Int} (hp : pcs.getD i 0 = pc) (hp' : pcs.getD (i + 1) 0 = pc + 3) (hd : decode cc pc = .ok (.ifCond .ne off, 3)) (ht : pcs.getD t 0 = tg) (hf : (pc : Int) + off = (tg : Int)) : ce_Ok l cc own nL rt d MC MS pcs i (o_ifne t) := by
  intro nn ls st S k res h hk p e s m args below meth c D ca b0 ad0 S0 ad H locs rls hC h61 hX hR hT h1 h2
  obtain ⟨hx, hb, hml, hown, ⟨w0, hts⟩, hr, hlk, hG⟩ := id hC
  unfold o_ifne at h
  split at h
  · rename_i x r
    rw [hp]
    refine lv_if_ne (tgt := tg) hx hb hd hf (fun q => ?_) (fun q => ?_)
    · rw [if_neg q] at h
      have w := hk _ _ _ _ _ h p e s m args below meth c D ca b0 ad0 S0 ad H locs rls hC h61 hX hR (ce_okT_tl hT) h1 h2
      rw [ht] at w
      exact w
    · rw [if_pos q] at h
      have w := hk _ _ _ _ _ h p e s m args below meth c D ca b0 ad0 S0 ad H locs rls hC h61 hX hR (ce_okT_tl hT) h1 h2
      rw [hp'] at w
      exact w
  · cases h
theorem ok_cmpne {t tg : Nat} {off : Int} (hp : pcs.getD i 0 = pc) (hp' : pcs.getD (i + 1) 0 = pc + 3) (hd : decode cc pc = .ok (.if_icmp .ne off, 3)) (ht : pcs.getD t 0 = tg) (hf : (pc : Int) + off = (tg : Int)) : ce_Ok l cc own nL rt d MC MS pcs i (o_cmpne t) := by
  intro nn ls st S k res h hk p e s m args below meth c D ca b0 ad0 S0 ad H locs rls hC h61 hX hR hT h1 h2
  obtain ⟨hx, hb, hml, hown, ⟨w0, hts⟩, hr, hlk, hG⟩ := id hC
  unfold o_cmpne at h
  split at h
  · rename_i y x r
    rw [hp]
    refine lv_icmp_ne (tgt := tg) hx hb hd hf (fun q => ?_) (fun q => ?_)
    · rw [if_neg q] at h
      have w := hk _ _ _ _ _ h p e s m args below meth c D ca b0 ad0 S0 ad H locs rls hC h61 hX hR (ce_okT_tl (ce_okT_tl hT)) h1 h2
      rw [ht] at w
      exact w
    · rw [if_pos q] at h
      have w := hk _ _ _ _ _ h p e s m args below meth c D ca b0 ad0 S0 ad H locs rls hC h61 hX hR (ce_okT_tl (ce_okT_tl hT)) h1 h2
      rw [hp'] at w
      exact w
  · cases h
theorem ok_iflt {t tg : Nat} {off : Int} (hp : pcs.getD i 0 = pc) (hp' : pcs.getD (i + 1) 0 = pc + 3) (hd : decode cc pc = .ok (.ifCond .lt off, 3)) (ht : pcs.getD t 0 = tg) (hf : (pc : Int) + off = (tg : Int)) : ce_Ok l cc own nL rt d MC MS pcs i (o_iflt t) := by
  intro nn ls st S k res h hk p e s m args below meth c D ca b0 ad0 S0 ad H locs rls hC h61 hX hR hT h1 h2
  obtain ⟨hx, hb, hml, hown, ⟨w0, hts⟩, hr, hlk, hG⟩ := id hC
  unfold o_iflt at h
  split at h
  · rename_i x r
    rw [hp]
    refine lv_if_lt (tgt := tg) hx hb hd hf (fun q => ?_) (fun q => ?_)
    · rw [if_pos q] at h
      have w := hk _ _ _ _ _ h p e s m args below meth c D ca b0 ad0 S0 ad H locs rls hC h61 hX hR (ce_okT_tl hT) h1 h2
      rw [ht] at w
      exact w
    · rw [if_neg q] at h
      have w := hk _ _ _ _ _ h p e s m args below meth c D ca b0 ad0 S0 ad H locs rls hC h61 hX hR (ce_okT_tl hT) h1 h2
      rw [hp'] at w
      exact w
  · cases h
theorem ok_cmplt {t tg : Nat} {off : Int} (hp : pcs.getD i 0 = pc) (hp' : pcs.getD (i + 1) 0 = pc + 3) (hd : decode cc pc = .ok (.if_icmp .lt off, 3)) (ht : pcs.getD t 0 = tg) (hf : (pc : Int) + off = (tg : Int)) : ce_Ok l cc own nL rt d MC MS pcs i (o_cmplt t) := by
  intro nn ls st S k res h hk p e s m args below meth c D ca b0 ad0 S0 ad H locs rls hC h61 hX hR hT h1 h2
  obtain ⟨hx, hb, hml, hown, ⟨w0, hts⟩, hr, hlk, hG⟩ := id hC
  unfold o_cmplt at h
  split at h
  · rename_i y x r
    rw [hp]
    refine lv_icmp_lt (tgt := tg) hx hb hd hf (fun q => ?_) (fun q => ?_)
    · rw [if_pos q] at h
      have w := hk _ _ _ _ _ h p e s m args below meth c D ca b0 ad0 S0 ad H locs rls hC h61 hX hR (ce_okT_tl (ce_okT_tl hT)) h1 h2
      rw [ht] at w
      exact w
    · rw [if_neg q] at h
      have w := hk _ _ _ _ _ h p e s m args below meth c D ca b0 ad0 S0 ad H locs rls hC h61 hX hR (ce_okT_tl (ce_okT_tl hT)) h1 h2
      rw [hp'] at w
      exact w
  · cases h
theorem ok_ifge {t tg : Nat} {off : Int} (hp : pcs.getD i 0 = pc) (hp' : pcs.getD (i + 1) 0 = pc + 3) (hd : decode cc pc = .ok (.ifCond .ge off, 3)) (ht : pcs.getD t 0 = tg) (hf : (pc : Int) + off = (tg : Int)) : ce_Ok l cc own nL rt d MC MS pcs i (o_ifge t) := by
  intro nn ls st S k res h hk p e s m args below meth c D ca b0 ad0 S0 ad H locs rls hC h61 hX hR hT h1 h2
  obtain ⟨hx, hb, hml, hown, ⟨w0, hts⟩, hr, hlk, hG⟩ := id hC
  unfold o_ifge at h
  split at h
  · rename_i x r
    rw [hp]
    refine lv_if_ge (tgt := tg) hx hb hd hf (fun q => ?_) (fun q => ?_)
    · rw [if_pos q] at h
      have w := hk _ _ _ _ _ h p e s m args below meth c D ca b0 ad0 S0 ad H locs rls hC h61 hX hR (ce_okT_tl hT) h1 h2
      rw [ht] at w
      exact w
    · rw [if_neg q] at h
      have w := hk _ _ _ _ _ h p e s m args below meth c D ca b0 ad0 S0 ad H locs rls hC h61 hX hR (ce_okT_tl hT) h1 h2
      rw [hp'] at w
      exact w
  · cases h
theorem ok_cmpge {t tg : Nat} {off : Int} (hp : pcs.getD i 0 = pc) (hp' : pcs.getD (i + 1) 0 = pc + 3) (hd : decode cc pc = .ok (.if_icmp .ge off, 3)) (ht : pcs.getD t 0 = tg) (hf : (pc : Int) + off = (tg : Int)) : ce_Ok l cc own nL rt d MC MS pcs i (o_cmpge t) := by
  intro nn ls st S k res h hk p e s m args below meth c D ca b0 ad0 S0 ad H locs rls hC h61 hX hR hT h1 h2
  obtain ⟨hx, hb, hml, hown, ⟨w0, hts⟩, hr, hlk, hG⟩ := id hC
  unfold o_cmpge at h
  split at h
  · rename_i y x r
    rw [hp]
    refine lv_icmp_ge (tgt := tg) hx hb hd hf (fun q => ?_) (fun q => ?_)
    · rw [if_pos q] at h
      have w := hk _ _ _ _ _ h p e s m args below meth c D ca b0 ad0 S0 ad H locs rls hC h61 hX hR (ce_okT_tl (ce_okT_tl hT)) h1 h2
      rw [ht] at w
      exact w
    · rw [if_neg q] at h
      have w := hk _ _ _ _ _ h p e s m args below meth c D ca b0 ad0 S0 ad H locs rls hC h61 hX hR (ce_okT_tl (ce_okT_tl hT)) h1 h2
      rw [hp'] at w
      exact w
  · cases h
theorem ok_ifgt {t tg : Nat} {off : Int} (hp : pcs.getD i 0 = pc) (hp' : pcs.getD (i + 1) 0 = pc + 3) (hd : decode cc pc = .ok (.ifCond .gt off, 3)) (ht : pcs.getD t 0 = tg) (hf : (pc : Int) + off = (tg : Int)) : ce_Ok l cc own nL rt d MC MS pcs i (o_ifgt t) := by
  intro nn ls st S k res h hk p e s m args below meth c D ca b0 ad0 S0 ad H locs rls hC h61 hX hR hT h1 h2
  obtain ⟨hx, hb, hml, hown, ⟨w0, hts⟩, hr, hlk, hG⟩ := id hC
  unfold o_ifgt at h
  split at h
  · rename_i x r
    rw [hp]
    refine lv_if_gt (tgt := tg) hx hb hd hf (fun q => ?_) (fun q => ?_)
    · rw [if_pos q] at h
      have w := hk _ _ _ _ _ h p e s m args below meth c D ca b0 ad0 S0 ad H locs rls hC h61 hX hR (ce_okT_tl hT) h1 h2
      rw [ht] at w
      exact w
    · rw [if_neg q] at h
      have w := hk _ _ _ _ _ h p e s m args below meth c D ca b0 ad0 S0 ad H locs rls hC h61 hX hR (ce_okT_tl hT) h1 h2
      rw [hp'] at w
      exact w
  · cases h
theorem ok_cmpgt {t tg : Nat} {off : Int} (hp : pcs.getD i 0 = pc) (hp' : pcs.getD (i + 1) 0 = pc + 3) (hd : decode cc pc = .ok (.if_icmp .gt off, 3)) (ht : pcs.getD t 0 = tg) (hf : (pc : Int) + off = (tg : Int)) : ce_Ok l cc own nL rt d MC MS pcs i (o_cmpgt t) := by
  intro nn ls st S k res h hk p e s m args below meth c D ca b0 ad0 S0 ad H locs rls hC h61 hX hR hT h1 h2
  obtain ⟨hx, hb, hml, hown, ⟨w0, hts⟩, hr, hlk, hG⟩ := id hC
  unfold o_cmpgt at h
  split at h
  · rename_i y x r
    rw [hp]
    refine lv_icmp_gt (tgt := tg) hx hb hd hf (fun q => ?_) (fun q => ?_)
    · rw [if_pos q] at h
      have w := hk _ _ _ _ _ h p e s m args below meth c D ca b0 ad0 S0 ad H locs rls hC h61 hX hR (ce_okT_tl (ce_okT_tl hT)) h1 h2
      rw [ht] at w
      exact w
    · rw [if_neg q] at h
      have w := hk _ _ _ _ _ h p e s m args below meth c D ca b0 ad0 S0 ad H locs rls hC h61 hX hR (ce_okT_tl (ce_okT_tl hT)) h1 h2
      rw [hp'] at w
      exact w
  · cases h
theorem ok_ifle {t tg : Nat} {off : Int} (hp : pcs.getD i 0 = pc) (hp' : pcs.getD (i + 1) 0 = pc + 3) (hd : decode cc pc = .ok (.ifCond .le off, 3)) (ht : pcs.getD t 0 = tg) (hf : (pc : Int) + off = (tg : Int)) : ce_Ok l cc own nL rt d MC MS pcs i (o_ifle t) := by
  intro nn ls st S k res h hk p e s m args below meth c D ca b0 ad0 S0 ad H locs rls hC h61 hX hR hT h1 h2
  obtain ⟨hx, hb, hml, hown, ⟨w0, hts⟩, hr, hlk, hG⟩ := id hC
  unfold o_ifle at h
  split at h
  · rename_i x r
    rw [hp]
    refine lv_if_le (tgt := tg) hx hb hd hf (fun q => ?_) (fun q => ?_)
    · rw [if_pos q] at h
      have w := hk _ _ _ _ _ h p e s m args below meth c D ca b0 ad0 S0 ad H locs rls hC h61 hX hR (ce_okT_tl hT) h1 h2
      rw [ht] at w
      exact w
    · rw [if_neg q] at h
      have w := hk _ _ _ _ _ h p e s m args below meth c D ca b0 ad0 S0 ad H locs rls hC h61 hX hR (ce_okT_tl hT) h1 h2
      rw [hp'] at w
      exact w
  · cases h
theorem ok_cmple {t tg : Nat} {off : Int} (hp : pcs.getD i 0 = pc) (hp' : pcs.getD (i + 1) 0 = pc + 3) (hd : decode cc pc = .ok (.if_icmp .le off, 3)) (ht : pcs.getD t 0 = tg) (hf : (pc : Int) + off = (tg : Int)) : ce_Ok l cc own nL rt d MC MS pcs i (o_cmple t) := by
  intro nn ls st S k res h hk p e s m args below meth c D ca b0 ad0 S0 ad H locs rls hC h61 hX hR hT h1 h2
  obtain ⟨hx, hb, hml, hown, ⟨w0, hts⟩, hr, hlk, hG⟩ := id hC
  unfold o_cmple at h
  split at h
  · rename_i y x r
    rw [hp]
    refine lv_icmp_le (tgt := tg) hx hb hd hf (fun q => ?_) (fun q => ?_)
    · rw [if_pos q] at h
      have w := hk _ _ _ _ _ h p e s m args below meth c D ca b0 ad0 S0 ad H locs rls hC h61 hX hR (ce_okT_tl (ce_okT_tl hT)) h1 h2
      rw [ht] at w
      exact w
    · rw [if_neg q] at h
      have w := hk _ _ _ _ _ h p e s m args below meth c D ca b0 ad0 S0 ad H locs rls hC h61 hX hR (ce_okT_tl (ce_okT_tl hT)) h1 h2
      rw [hp'] at w
      exact w
  · cases h
theorem ok_sw {lo hi dflt : Int} {offs : Array Int} {len : Nat} {ks : List (Int32 × Nat)} {dd : Nat} (hp : pcs.getD i 0 = pc) (hd : decode cc pc = .ok (.tableswitch dflt lo hi offs, len)) (hs : ce_swok pc pcs lo offs ks = true) (hn : lo + (ks.length : Int) = hi + 1) (ht : (pc : Int) + dflt = ((pcs.getD dd 0 : Nat) : Int)) : ce_Ok l cc own nL rt d MC MS pcs i (o_sw ks dd) := by
  intro nn ls st S k res h hk p e s m args below meth c D ca b0 ad0 S0 ad H locs rls hC h61 hX hR hT h1 h2
  obtain ⟨hx, hb, hml, hown, ⟨w0, hts⟩, hr, hlk, hG⟩ := id hC
  unfold o_sw at h
  split at h
  · rename_i x r
    rw [hp]
    rcases ce_sw_or ks h with ⟨j, q, g1, g2, g3⟩ | ⟨g1, g2⟩
    · obtain ⟨off, k1, k2, k3⟩ := ce_swok_at hs g1
      have w := hk _ _ _ _ _ g3 p e s m args below meth c D ca b0 ad0 S0 ad H locs rls hC h61 hX hR (ce_okT_tl hT) h1 h2
      have hj : (j : Int) < (ks.length : Int) := by
        have := (List.getElem?_eq_some_iff.mp g1).1
        omega
      refine lv_tableIn hx hb hd (by rw [g2, k2]; omega) (by rw [g2, k2]; omega) (off := off) (by rw [g2, k2, show (lo + (j : Int) - lo).toNat = j by omega]; exact k1) k3 w
    · have w := hk _ _ _ _ _ g2 p e s m args below meth c D ca b0 ad0 S0 ad H locs rls hC h61 hX hR (ce_okT_tl hT) h1 h2
      refine lv_tableOut hx hb hd ?_ ht w
      by_cases a1 : x.toInt < lo
      · exact Or.inl a1
      · by_cases a2 : hi < x.toInt
        · exact Or.inr a2
        · exfalso
          have hl : (x.toInt - lo).toNat < ks.length := by omega
          obtain ⟨off, k1, k2, k3⟩ := ce_swok_at hs (List.getElem?_eq_getElem hl)
          exact g1 _ _ (List.getElem?_eq_getElem hl) (Int32.toInt_inj.mp (by rw [k2]; omega))
  · cases h
theorem ok_dup (hp : pcs.getD i 0 = pc) (hp' : pcs.getD (i + 1) 0 = pc + 1) (hd : decode cc pc = .ok (.dup, 1)) : ce_Ok l cc own nL rt d MC MS pcs i o_dup := by
  intro nn ls st S k res h hk p e s m args below meth c D ca b0 ad0 S0 ad H locs rls hC h61 hX hR hT h1 h2
  obtain ⟨hx, hb, hml, hown, ⟨w0, hts⟩, hr, hlk, hG⟩ := id hC
  unfold o_dup at h
  split at h
  · rename_i x r
    have w := hk _ _ _ _ _ h p e s m args below meth c D ca b0 ad0 S0 ad H locs rls hC h61 hX hR (ce_okT_cons trivial hT) h1 h2
    rw [hp'] at w
    rw [hp]
    exact lv_dup hx hb hd rfl w
  · rename_i x r
    have w := hk _ _ _ _ _ h p e s m args below meth c D ca b0 ad0 S0 ad H locs rls hC h61 hX hR (ce_okT_cons (ce_okT_hd hT) hT) h1 h2
    rw [hp'] at w
    rw [hp]
    exact lv_dup hx hb hd rfl w
  · cases h
theorem ok_dup2 (hp : pcs.getD i 0 = pc) (hp' : pcs.getD (i + 1) 0 = pc + 1) (hd : decode cc pc = .ok (.dup2, 1)) : ce_Ok l cc own nL rt d MC MS pcs i o_dup2 := by
  intro nn ls st S k res h hk p e s m args below meth c D ca b0 ad0 S0 ad H locs rls hC h61 hX hR hT h1 h2
  obtain ⟨hx, hb, hml, hown, ⟨w0, hts⟩, hr, hlk, hG⟩ := id hC
  unfold o_dup2 at h
  split at h
  · rename_i y x r
    have w := hk _ _ _ _ _ h p e s m args below meth c D ca b0 ad0 S0 ad H locs rls hC h61 hX hR (ce_okT_cons trivial (ce_okT_cons (ce_okT_hd (ce_okT_tl hT)) hT)) h1 h2
    rw [hp'] at w
    rw [hp]
    exact lv_dup2_11 hx hb hd rfl rfl w
  · cases h
theorem ok_pop (hp : pcs.getD i 0 = pc) (hp' : pcs.getD (i + 1) 0 = pc + 1) (hd : decode cc pc = .ok (.pop, 1)) : ce_Ok l cc own nL rt d MC MS pcs i o_pop := by
  intro nn ls st S k res h hk p e s m args below meth c D ca b0 ad0 S0 ad H locs rls hC h61 hX hR hT h1 h2
  obtain ⟨hx, hb, hml, hown, ⟨w0, hts⟩, hr, hlk, hG⟩ := id hC
  unfold o_pop at h
  split at h
  · rename_i x r
    have w := hk _ _ _ _ _ h p e s m args below meth c D ca b0 ad0 S0 ad H locs rls hC h61 hX hR (ce_okT_tl hT) h1 h2
    rw [hp'] at w
    rw [hp]
    exact lv_pop hx hb hd rfl w
  · cases h
theorem ok_iret (hp : pcs.getD i 0 = pc) (hd : decode cc pc = .ok (.ireturn, 1)) (hrt : rt = some .int) : ce_Ok l cc own nL rt d MC MS pcs i o_iret := by
  intro nn ls st S k res h hk p e s m args below meth c D ca b0 ad0 S0 ad H locs rls hC h61 hX hR hT h1 h2
  obtain ⟨hx, hb, hml, hown, ⟨w0, hts⟩, hr, hlk, hG⟩ := id hC
  unfold o_iret at h
  split at h
  · rename_i x
    cases h
    rw [hp]
    refine W.widen h1 h2 ?_
    exact W.iret hx hb (hr.trans hrt) (fun t ht hW => ⟨ad, hR.2.2.2.2.2, rfl, hR.2.2.2.1, fun v hv => by cases hv; trivial, by rw [ht]; exact hR.1, hR.2.1.F ht⟩) hR.2.1.2.2 hd
  · cases h
theorem ok_lret (hp : pcs.getD i 0 = pc) (hd : decode cc pc = .ok (.lreturn, 1)) (hrt : rt = some .long) : ce_Ok l cc own nL rt d MC MS pcs i o_lret := by
  intro nn ls st S k res h hk p e s m args below meth c D ca b0 ad0 S0 ad H locs rls hC h61 hX hR hT h1 h2
  obtain ⟨hx, hb, hml, hown, ⟨w0, hts⟩, hr, hlk, hG⟩ := id hC
  unfold o_lret at h
  split at h
  · rename_i x
    cases h
    rw [hp]
    refine W.widen h1 h2 ?_
    exact W.lret hx hb (hr.trans hrt) (fun t ht hW => ⟨ad, hR.2.2.2.2.2, rfl, hR.2.2.2.1, fun v hv => by cases hv; trivial, by rw [ht]; exact hR.1, hR.2.1.F ht⟩) hR.2.1.2.2 hd
  · cases h
theorem ok_zret (hp : pcs.getD i 0 = pc) (hd : decode cc pc = .ok (.ireturn, 1)) (hrt : rt = some .boolean) : ce_Ok l cc own nL rt d MC MS pcs i o_zret := by
  intro nn ls st S k res h hk p e s m args below meth c D ca b0 ad0 S0 ad H locs rls hC h61 hX hR hT h1 h2
  obtain ⟨hx, hb, hml, hown, ⟨w0, hts⟩, hr, hlk, hG⟩ := id hC
  unfold o_zret at h
  split at h
  · rename_i x
    by_cases hz : x = 0 ∨ x = 1
    · rw [if_pos hz] at h
      cases h
      rw [hp]
      refine W.widen h1 h2 ?_
      exact W.zret hx hb (hr.trans hrt) (by rcases hz with rfl | rfl <;> decide) (fun t ht hW => ⟨ad, hR.2.2.2.2.2, rfl, hR.2.2.2.1, fun v hv => by cases hv; trivial, by rw [ht]; exact hR.1, hR.2.1.F ht⟩) hR.2.1.2.2 hd
    · rw [if_neg hz] at h
      cases h
  · cases h
theorem ok_vret (hp : pcs.getD i 0 = pc) (hd : decode cc pc = .ok (.return_, 1)) (hrt : rt = none) : ce_Ok l cc own nL rt d MC MS pcs i o_vret := by
  intro nn ls st S k res h hk p e s m args below meth c D ca b0 ad0 S0 ad H locs rls hC h61 hX hR hT h1 h2
  obtain ⟨hx, hb, hml, hown, ⟨w0, hts⟩, hr, hlk, hG⟩ := id hC
  unfold o_vret at h
  split at h
  · cases h
    rw [hp]
    refine W.widen h1 h2 ?_
    exact W.vret hx hb (hr.trans hrt) (fun t ht hW => ⟨ad, hR.2.2.2.2.2, rfl, hR.2.2.2.1, (fun v hv => by cases hv), by rw [ht]; exact hR.1, hR.2.1.F ht⟩) hR.2.1.2.2 hd
  · cases h
theorem ok_aret {C : String} (hp : pcs.getD i 0 = pc) (hd : decode cc pc = .ok (.areturn, 1)) (hrt : rt = some (.object C)) : ce_Ok l cc own nL rt d MC MS pcs i o_aret := by
  intro nn ls st S k res h hk p e s m args below meth c D ca b0 ad0 S0 ad H locs rls hC h61 hX hR hT h1 h2
  obtain ⟨hx, hb, hml, hown, ⟨w0, hts⟩, hr, hlk, hG⟩ := id hC
  unfold o_aret at h
  split at h
  · rename_i q
    cases h
    rw [hp]
    refine W.widen h1 h2 ?_
    exact W.aret hx hb (hr.trans hrt) (Or.inl ⟨_, rfl⟩) (Or.inr ⟨_, rfl⟩) (fun t ht hW => ⟨ad, hR.2.2.2.2.2, rfl, hR.2.2.2.1, fun v hv => by cases hv; exact ce_okT_hd hT, by rw [ht]; exact hR.1, hR.2.1.F ht⟩) hR.2.1.2.2 hd
  · cases h
end CEO
