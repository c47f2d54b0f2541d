/-! the K-machine: a text constant -/
section KLD
variable {l : Launch} {cc : ByteArray} {own : String} {nL : Nat} {rt : Option FieldType} {d MC MS : Nat} {pcs : List Nat} {i pc : Nat}
theorem kk_ldcS {j ix : Nat} {tx : String} (hp : pcs.getD i 0 = pc) (hp' : pcs.getD (i + 1) 0 = pc + 2) (hd : decode cc pc = .ok (.ldc ix, 2)) (hj : ce_tR[j]? = some (own, ix, tx)) : ce_OkK l cc own nL rt d MC MS pcs i (o_ldcS j) := by
  intro nn ls st S k res h hk p e s m args below meth c D ca b0 ad0 S0 ad H locs rls hC h61 hX hR hT h1 h2
  obtain ⟨hx, hb, hml, hown, ⟨w0, hts⟩, hr, hlk, hG, hnm⟩ := id hC
  have hj13 : j < 13 := (List.getElem?_eq_some_iff.mp hj).1
  obtain ⟨a1, a2⟩ := hR.2.2.2.2.2 61 j (Nat.lt_of_lt_of_le hj13 h61.1)
  have w := hk _ _ _ _ _ h p e s m args below meth c D ca b0 ad0 S0 ad H locs rls hC h61 hX hR (ce_okT_cons a2 hT) h1 h2
  rw [hp'] at w
  rw [hp]
  refine va_ldcS hx hb hown (hX.2.1 j _ hj) hd ?_
  rw [← a1]
  exact w
end KLD
