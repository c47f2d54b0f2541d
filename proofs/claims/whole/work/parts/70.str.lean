/-! text constants: their lengths and letters -/
theorem sg_J0_coder_0 (j : Nat) (S : ce_S) (kk : ce_K) : ce_sg tb_J0_coder_7d493 [] 7 kk 0 (0, 0) [some (.inr (.inl (61, j)))] [] S = (if (1 : Int32) = 0 then some (some (.inl 1), S) else (if 61 = 61 ∧ j < 13 then some (some (.inl 0), S) else none)) := rfl
theorem f_coder (j : Nat) (hj : j < 13) (S : ce_S) : F_J0_coder_7d493 [.inr (.inl (61, j))] S = some (0, S) := by
  refine fI_by tl_J0_coder_7d493 (gd_r rfl rfl) (fun kk => sg_J0_coder_0 j S kk) ?_
  rw [if_neg (by decide), if_pos ⟨rfl, hj⟩]
theorem f_str (F : List ce_V → ce_S → Option (Int32 × ce_S)) (j : Nat) (hj : j < 13) (as : List ce_V) (S : ce_S) : ce_str F (.inr (.inl (61, j)) :: as) S = F (.inr (.inl (61, j)) :: as) S := by
  show (if 61 = 61 ∧ j < 13 then F (.inr (.inl (61, j)) :: as) S else none) = _
  rw [if_pos ⟨rfl, hj⟩]
theorem sg_J0_length_0 (j : Nat) (S : ce_S) (kk : ce_K) : ce_sg tb_J0_length_8abf5 [] 7 kk 0 (0, 0) [some (.inr (.inl (61, j)))] [] S = (if 61 = 61 ∧ j < 13 then (if 62 = 62 ∧ j < 13 then ((ce_str F_J0_coder_7d493 [.inr (.inl (61, j))] S).bind fun q1 => some (some (.inl (nI (ce_sN.getD j 0) >>> (q1.1 &&& 31))), q1.2)) else none) else none) := rfl
theorem f_slen0 : ∀ j, j < 13 → nI (ce_sN.getD j 0) >>> ((0 : Int32) &&& 31) = nI (ce_sN.getD j 0) := by decide +kernel
theorem f_slen (j : Nat) (hj : j < 13) (S : ce_S) : ce_str F_J0_length_8abf5 [.inr (.inl (61, j))] S = some (nI (ce_sN.getD j 0), S) := by
  rw [f_str _ j hj]
  refine fI_by tl_J0_length_8abf5 (gd_r rfl rfl) (fun kk => sg_J0_length_0 j S kk) ?_
  rw [if_pos ⟨rfl, hj⟩, if_pos ⟨rfl, hj⟩, f_str _ j hj, f_coder j hj]
  simp only [Option.bind_some]
  rw [f_slen0 j hj]
theorem sg_J0_isLatin_0 (j : Nat) (S : ce_S) (kk : ce_K) : ce_sg tb_J0_isLatin1_aae02 [] 9 kk 0 (0, 0) [some (.inr (.inl (61, j)))] [] S = (if (1 : Int32) = 0 then some (some (.inl 0), S) else (if 61 = 61 ∧ j < 13 then (if (0 : Int32) = 0 then some (some (.inl 1), S) else some (some (.inl 0), S)) else none)) := rfl
theorem f_latin (j : Nat) (hj : j < 13) (S : ce_S) : F_J0_isLatin1_aae02 [.inr (.inl (61, j))] S = some (1, S) := by
  refine fI_by tl_J0_isLatin1_aae02 (gd_r rfl rfl) (fun kk => sg_J0_isLatin_0 j S kk) ?_
  rw [if_neg (by decide), if_pos ⟨rfl, hj⟩, if_pos rfl]
theorem sg_J1_charAt_0 (j : Nat) (x : Int32) (S : ce_S) (kk : ce_K) : ce_sg tb_J1_charAt_3b067 [] 11 kk 0 (0, 0) [some (.inr (.inl (62, j))), some (.inl x)] [] S = (if 62 = 62 ∧ j < 13 then ((F_J0_check [.inl x, .inl (nI (ce_sN.getD j 0))] S).bind fun q1 => (if 62 = 62 ∧ j < 13 ∧ ¬ (x < 0 ∨ ce_sN.getD j 0 ≤ x.toNatClampNeg) then (if (((q_and ((ce_sB.getD j []).getD x.toNatClampNeg 0) 255).toUInt32 % 65536).toInt32.toUInt32 % 65536).toInt32 = ((q_and ((ce_sB.getD j []).getD x.toNatClampNeg 0) 255).toUInt32 % 65536).toInt32 then some (some (.inl ((q_and ((ce_sB.getD j []).getD x.toNatClampNeg 0) 255).toUInt32 % 65536).toInt32), q1) else none) else none)) else none) := rfl
theorem f_sch0 : ∀ j, j < 13 → ∀ e, e < ce_sN.getD j 0 → (((ce_sB.getD j []).getD e 0 &&& 255).toUInt32 % 65536).toInt32 = (ce_sB.getD j []).getD e 0 ∧ (((ce_sB.getD j []).getD e 0).toUInt32 % 65536).toInt32 = (ce_sB.getD j []).getD e 0 := by decide +kernel
theorem f_sch1 (j : Nat) (hj : j < 13) (e : Nat) (he : e < ce_sN.getD j 0) (S : ce_S) : F_J1_charAt_3b067 [.inr (.inl (62, j)), .inl (nI e)] S = some ((ce_sB.getD j []).getD e 0, S) := by
  have hN : ∀ j, j < 13 → ce_sN.getD j 0 ≤ 83 := by decide
  have hn := hN j hj
  have e1 : (nI e).toNatClampNeg = e := nI_clamp (by omega)
  have h1 : ¬ (nI e < 0 ∨ nI (ce_sN.getD j 0) ≤ nI e) := by
    rw [nJ_le (by omega) (by omega), show (0 : Int32) = nI 0 from rfl, nJ_lt (by omega) (by omega)]; omega
  have h2 : ¬ (nI e < 0 ∨ ce_sN.getD j 0 ≤ e) := nJ_in he (by omega)
  obtain ⟨g1, g2⟩ := f_sch0 j hj e he
  refine fI_by tl_J1_charAt_3b067 (gd_n rfl rfl) (fun kk => sg_J1_charAt_0 j (nI e) S kk) ?_
  rw [if_pos ⟨rfl, hj⟩, show F_J0_check [.inl (nI e), .inl (nI (ce_sN.getD j 0))] S = some S from if_neg h1]
  simp only [Option.bind_some]
  rw [e1, if_pos ⟨trivial, hj, h2⟩, q_and_eq, g1, if_pos g2]
theorem sg_J0_charAt_0 (j : Nat) (x : Int32) (S : ce_S) (kk : ce_K) : ce_sg tb_J0_charAt_5068e [] 12 kk 0 (0, 0) [some (.inr (.inl (61, j))), some (.inl x)] [] S = ((ce_str F_J0_isLatin1_aae02 [.inr (.inl (61, j))] S).bind fun q1 => (if q1.1 = 0 then none else (if 61 = 61 ∧ j < 13 then ((F_J1_charAt_3b067 [.inr (.inl (62, j)), .inl x] q1.2).bind fun q2 => (if (q2.1.toUInt32 % 65536).toInt32 = q2.1 then some (some (.inl q2.1), q2.2) else none)) else none))) := rfl
theorem f_sch (j : Nat) (hj : j < 13) (e : Nat) (he : e < ce_sN.getD j 0) (S : ce_S) : ce_str F_J0_charAt_5068e [.inr (.inl (61, j)), .inl (nI e)] S = some ((ce_sB.getD j []).getD e 0, S) := by
  rw [f_str _ j hj]
  obtain ⟨g1, g2⟩ := f_sch0 j hj e he
  refine fI_by tl_J0_charAt_5068e (gd_r rfl rfl) (fun kk => sg_J0_charAt_0 j (nI e) S kk) ?_
  rw [f_str _ j hj, f_latin j hj]
  simp only [Option.bind_some]
  rw [if_neg (by decide), if_pos ⟨trivial, hj⟩, f_sch1 j hj e he]
  simp only [Option.bind_some]
  rw [if_pos g2]
