/-! the K-machine: an item of texts -/
def o_kaldQ : ce_Op := fun i nn ls st S k => match st with
  | .inl j :: .inr (.inl q) :: r => if (q.1 = 5 ∧ ce_elK S 5 q.2 j.toNatClampNeg ≠ none) ∧ ¬ (j < 0 ∨ ce_len S 5 q.2 ≤ j.toNatClampNeg) then k (i + 1) nn ls (.inr (.inl (13, (ce_elK S 5 q.2 j.toNatClampNeg).getD 0)) :: r) S else none
  | _ => none
theorem ta_kaldQ : ce_Tail o_kaldQ := by
  intro i nn ls st S k res h
  unfold o_kaldQ at h ⊢
  split at h
  · split at h
    · rename_i hc
      simp only [if_pos hc]
      exact Or.inr ⟨_, _, _, _, _, h, fun k' q => q⟩
    · cases h
  · cases h
section KAQ
variable {l : Launch} {cc : ByteArray} {own : String} {nL : Nat} {rt : Option FieldType} {d MC MS : Nat} {pcs : List Nat} {i pc : Nat}
theorem kk_aldQ (hp : pcs.getD i 0 = pc) (hp' : pcs.getD (i + 1) 0 = pc + 1) (hd : decode cc pc = .ok (.aaload, 1)) : ce_OkK l cc own nL rt d MC MS pcs i o_kaldQ := by
  intro nn ls st S k res h hk p e s m args below meth c D ca b0 ad0 S0 ad H locs rls hC h61 hX hR hT h1 h2
  obtain ⟨hx, hb, hml, hown, ⟨w0, hts⟩, hr, hlk, hG, hnm⟩ := id hC
  unfold o_kaldQ at h
  split at h
  · rename_i j q r
    split at h
    · rename_i hcond
      obtain ⟨⟨hq, hU⟩, hj⟩ := hcond
      obtain ⟨x, hel⟩ := Option.ne_none_iff_exists'.mp hU
      rw [hel] at h
      have hv : q.2 < ce_C S 5 := by have := ce_okT_hd (ce_okT_tl hT); rw [← hq]; exact this
      have hlt : j.toNatClampNeg < ce_len S 5 q.2 := Nat.not_le.mp fun q => hj (Or.inr q)
      have w := hk _ _ _ _ _ h p e s m args below meth c D ca b0 ad0 S0 ad H locs rls hC h61 hX hR (ce_okT_cons (show x < ce_C S 13 from hR.2.2.2.1.2 5 q.2 _ _ hv rfl hlt hel) (ce_okT_tl (ce_okT_tl hT))) h1 h2
      rw [hp'] at w
      rw [hp]
      obtain ⟨⟨-, -, ho⟩, -, -⟩ := hR.1.1 5 q.2 hv (by decide)
      have hq2 : ce_val ad (.inr (.inl q)) = .ref (ad 5 q.2) := by show Value.ref (ad q.1 q.2) = _; rw [hq]
      rw [List.map_cons, List.map_cons, hq2]
      exact W.aald (v := .ref (ad 13 x)) (ty := .object RX10) hx hb (ho rfl) ((hG.1.1.2 3 (ca 3, .object RX10) rfl).1 _ (fun e => va_rf ((ce_elK S 5 q.2 e).map (ad (ce_et 5))))) rfl (fun q => by cases q) (by show ¬ (j < 0 ∨ (arrV _ _ _).slots.size ≤ _); rw [arrV_size]; exact hj) (by show (arrV _ _ _).slots[_]? = _; rw [arrV_read _ _ hlt]; show some (va_rf (Option.map (ad (ce_et 5)) (ce_elK S 5 q.2 j.toNatClampNeg))) = _; rw [hel]; rfl) rfl rfl hd w
    · cases h
  · cases h
end KAQ
