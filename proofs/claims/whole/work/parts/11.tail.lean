/-! a step ends the method, or goes on at one place -/
def ce_Tail (op : ce_Op) : Prop := ∀ (i : Nat) (nn : Nat × Nat) (ls : List (Option ce_V)) (st : List ce_V) (S : ce_S) (k : ce_K) (res : Option ce_V × ce_S), op i nn ls st S k = some res →
  (∀ k', op i nn ls st S k' = some res) ∨ ∃ (i' : Nat) (nn' : Nat × Nat) (ls' : List (Option ce_V)) (st' : List ce_V) (S' : ce_S), k i' nn' ls' st' S' = some res ∧ ∀ k' : ce_K, k' i' nn' ls' st' S' = some res → op i nn ls st S k' = some res
theorem ce_ta1 {op : ce_Op} {i : Nat} {nn : Nat × Nat} {ls : List (Option ce_V)} {st : List ce_V} {S : ce_S} {k : ce_K} {res : Option ce_V × ce_S} (i' : Nat) (nn' : Nat × Nat) (ls' : List (Option ce_V)) (st' : List ce_V) (S' : ce_S) (e : ∀ k', op i nn ls st S k' = k' i' nn' ls' st' S') (h : op i nn ls st S k = some res) : (∀ k', op i nn ls st S k' = some res) ∨ ∃ (i' : Nat) (nn' : Nat × Nat) (ls' : List (Option ce_V)) (st' : List ce_V) (S' : ce_S), k i' nn' ls' st' S' = some res ∧ ∀ k' : ce_K, k' i' nn' ls' st' S' = some res → op i nn ls st S k' = some res := Or.inr ⟨i', nn', ls', st', S', (e k) ▸ h, fun k' q => (e k').trans q⟩
theorem ce_ta0 {op : ce_Op} {i : Nat} {nn : Nat × Nat} {ls : List (Option ce_V)} {st : List ce_V} {S : ce_S} {k : ce_K} {res : Option ce_V × ce_S} {r : ce_Rs} (e : ∀ k', op i nn ls st S k' = r) (h : op i nn ls st S k = some res) : (∀ k', op i nn ls st S k' = some res) ∨ ∃ (i' : Nat) (nn' : Nat × Nat) (ls' : List (Option ce_V)) (st' : List ce_V) (S' : ce_S), k i' nn' ls' st' S' = some res ∧ ∀ k' : ce_K, k' i' nn' ls' st' S' = some res → op i nn ls st S k' = some res := Or.inl fun k' => (e k').trans ((e k).symm.trans h)
theorem ta_int {v : Int32} : ce_Tail (o_int v) := fun _ _ _ _ _ _ _ h => ce_ta1 _ _ _ _ _ (fun _ => rfl) h
theorem ta_long {v : Int64} : ce_Tail (o_long v) := fun _ _ _ _ _ _ _ h => ce_ta1 _ _ _ _ _ (fun _ => rfl) h
theorem ta_goto {t : Nat} : ce_Tail (o_goto t) := fun _ _ _ _ _ _ _ h => ce_ta1 _ _ _ _ _ (fun _ => rfl) h
theorem ta_istore {j : Nat} : ce_Tail (o_istore j) := by
  intro i nn ls st S k res h
  unfold o_istore at h ⊢
  split at h
  · exact Or.inr ⟨_, _, _, _, _, h, fun k' q => q⟩
  · cases h
theorem ta_astore {j : Nat} : ce_Tail (o_astore j) := by
  intro i nn ls st S k res h
  unfold o_astore at h ⊢
  split at h
  · exact Or.inr ⟨_, _, _, _, _, h, fun k' q => q⟩
  · cases h
theorem ta_bin {f : Int32 → Int32 → Int32} : ce_Tail (o_bin f) := by
  intro i nn ls st S k res h
  unfold o_bin at h ⊢
  split at h
  · exact Or.inr ⟨_, _, _, _, _, h, fun k' q => q⟩
  · cases h
theorem ta_un {f : Int32 → Int32} : ce_Tail (o_un f) := by
  intro i nn ls st S k res h
  unfold o_un at h ⊢
  split at h
  · exact Or.inr ⟨_, _, _, _, _, h, fun k' q => q⟩
  · cases h
theorem ta_i2l : ce_Tail (o_i2l) := by
  intro i nn ls st S k res h
  unfold o_i2l at h ⊢
  split at h
  · exact Or.inr ⟨_, _, _, _, _, h, fun k' q => q⟩
  · cases h
theorem ta_lcmp : ce_Tail (o_lcmp) := by
  intro i nn ls st S k res h
  unfold o_lcmp at h ⊢
  split at h
  · exact Or.inr ⟨_, _, _, _, _, h, fun k' q => q⟩
  · cases h
theorem ta_dup2 : ce_Tail (o_dup2) := by
  intro i nn ls st S k res h
  unfold o_dup2 at h ⊢
  split at h
  · exact Or.inr ⟨_, _, _, _, _, h, fun k' q => q⟩
  · cases h
theorem ta_pop : ce_Tail (o_pop) := by
  intro i nn ls st S k res h
  unfold o_pop at h ⊢
  split at h
  · exact Or.inr ⟨_, _, _, _, _, h, fun k' q => q⟩
  · cases h
theorem ta_iload {j : Nat} : ce_Tail (o_iload j) := by
  intro i nn ls st S k res h
  unfold o_iload at h ⊢
  split at h
  · exact Or.inr ⟨_, _, _, _, _, h, fun k' q => q⟩
  · cases h
theorem ta_aload {j : Nat} : ce_Tail (o_aload j) := by
  intro i nn ls st S k res h
  unfold o_aload at h ⊢
  split at h
  · exact Or.inr ⟨_, _, _, _, _, h, fun k' q => q⟩
  · cases h
theorem ta_iinc {j : Nat} {d : Int32} : ce_Tail (o_iinc j d) := by
  intro i nn ls st S k res h
  unfold o_iinc at h ⊢
  split at h
  · exact Or.inr ⟨_, _, _, _, _, h, fun k' q => q⟩
  · cases h
theorem ta_dup : ce_Tail o_dup := by
  intro i nn ls st S k res h
  unfold o_dup at h ⊢
  split at h
  · exact Or.inr ⟨_, _, _, _, _, h, fun k' q => q⟩
  · exact Or.inr ⟨_, _, _, _, _, h, fun k' q => q⟩
  · cases h
theorem ta_ifeq {t : Nat} : ce_Tail (o_ifeq t) := by
  intro i nn ls st S k res h
  unfold o_ifeq at h ⊢
  try simp only [ce_bt, ce_bl] at h ⊢
  split at h
  · split at h
    · rename_i hc
      simp only [if_pos hc]
      first | cases h | exact Or.inr ⟨_, _, _, _, _, h, fun k' q => q⟩
    · rename_i hc
      simp only [if_neg hc]
      first | cases h | exact Or.inr ⟨_, _, _, _, _, h, fun k' q => q⟩
  · cases h
theorem ta_cmpeq {t : Nat} : ce_Tail (o_cmpeq t) := by
  intro i nn ls st S k res h
  unfold o_cmpeq at h ⊢
  try simp only [ce_bt, ce_bl] at h ⊢
  split at h
  · split at h
    · rename_i hc
      simp only [if_pos hc]
      first | cases h | exact Or.inr ⟨_, _, _, _, _, h, fun k' q => q⟩
    · rename_i hc
      simp only [if_neg hc]
      first | cases h | exact Or.inr ⟨_, _, _, _, _, h, fun k' q => q⟩
  · cases h
theorem ta_ifne {t : Nat} : ce_Tail (o_ifne t) := by
  intro i nn ls st S k res h
  unfold o_ifne at h ⊢
  try simp only [ce_bt, ce_bl] at h ⊢
  split at h
  · split at h
    · rename_i hc
      simp only [if_pos hc]
      first | cases h | exact Or.inr ⟨_, _, _, _, _, h, fun k' q => q⟩
    · rename_i hc
      simp only [if_neg hc]
      first | cases h | exact Or.inr ⟨_, _, _, _, _, h, fun k' q => q⟩
  · cases h
theorem ta_cmpne {t : Nat} : ce_Tail (o_cmpne t) := by
  intro i nn ls st S k res h
  unfold o_cmpne at h ⊢
  try simp only [ce_bt, ce_bl] at h ⊢
  split at h
  · split at h
    · rename_i hc
      simp only [if_pos hc]
      first | cases h | exact Or.inr ⟨_, _, _, _, _, h, fun k' q => q⟩
    · rename_i hc
      simp only [if_neg hc]
      first | cases h | exact Or.inr ⟨_, _, _, _, _, h, fun k' q => q⟩
  · cases h
theorem ta_iflt {t : Nat} : ce_Tail (o_iflt t) := by
  intro i nn ls st S k res h
  unfold o_iflt at h ⊢
  try simp only [ce_bt, ce_bl] at h ⊢
  split at h
  · split at h
    · rename_i hc
      simp only [if_pos hc]
      first | cases h | exact Or.inr ⟨_, _, _, _, _, h, fun k' q => q⟩
    · rename_i hc
      simp only [if_neg hc]
      first | cases h | exact Or.inr ⟨_, _, _, _, _, h, fun k' q => q⟩
  · cases h
theorem ta_cmplt {t : Nat} : ce_Tail (o_cmplt t) := by
  intro i nn ls st S k res h
  unfold o_cmplt at h ⊢
  try simp only [ce_bt, ce_bl] at h ⊢
  split at h
  · split at h
    · rename_i hc
      simp only [if_pos hc]
      first | cases h | exact Or.inr ⟨_, _, _, _, _, h, fun k' q => q⟩
    · rename_i hc
      simp only [if_neg hc]
      first | cases h | exact Or.inr ⟨_, _, _, _, _, h, fun k' q => q⟩
  · cases h
theorem ta_ifge {t : Nat} : ce_Tail (o_ifge t) := by
  intro i nn ls st S k res h
  unfold o_ifge at h ⊢
  try simp only [ce_bt, ce_bl] at h ⊢
  split at h
  · split at h
    · rename_i hc
      simp only [if_pos hc]
      first | cases h | exact Or.inr ⟨_, _, _, _, _, h, fun k' q => q⟩
    · rename_i hc
      simp only [if_neg hc]
      first | cases h | exact Or.inr ⟨_, _, _, _, _, h, fun k' q => q⟩
  · cases h
theorem ta_cmpge {t : Nat} : ce_Tail (o_cmpge t) := by
  intro i nn ls st S k res h
  unfold o_cmpge at h ⊢
  try simp only [ce_bt, ce_bl] at h ⊢
  split at h
  · split at h
    · rename_i hc
      simp only [if_pos hc]
      first | cases h | exact Or.inr ⟨_, _, _, _, _, h, fun k' q => q⟩
    · rename_i hc
      simp only [if_neg hc]
      first | cases h | exact Or.inr ⟨_, _, _, _, _, h, fun k' q => q⟩
  · cases h
theorem ta_ifgt {t : Nat} : ce_Tail (o_ifgt t) := by
  intro i nn ls st S k res h
  unfold o_ifgt at h ⊢
  try simp only [ce_bt, ce_bl] at h ⊢
  split at h
  · split at h
    · rename_i hc
      simp only [if_pos hc]
      first | cases h | exact Or.inr ⟨_, _, _, _, _, h, fun k' q => q⟩
    · rename_i hc
      simp only [if_neg hc]
      first | cases h | exact Or.inr ⟨_, _, _, _, _, h, fun k' q => q⟩
  · cases h
theorem ta_cmpgt {t : Nat} : ce_Tail (o_cmpgt t) := by
  intro i nn ls st S k res h
  unfold o_cmpgt at h ⊢
  try simp only [ce_bt, ce_bl] at h ⊢
  split at h
  · split at h
    · rename_i hc
      simp only [if_pos hc]
      first | cases h | exact Or.inr ⟨_, _, _, _, _, h, fun k' q => q⟩
    · rename_i hc
      simp only [if_neg hc]
      first | cases h | exact Or.inr ⟨_, _, _, _, _, h, fun k' q => q⟩
  · cases h
theorem ta_ifle {t : Nat} : ce_Tail (o_ifle t) := by
  intro i nn ls st S k res h
  unfold o_ifle at h ⊢
  try simp only [ce_bt, ce_bl] at h ⊢
  split at h
  · split at h
    · rename_i hc
      simp only [if_pos hc]
      first | cases h | exact Or.inr ⟨_, _, _, _, _, h, fun k' q => q⟩
    · rename_i hc
      simp only [if_neg hc]
      first | cases h | exact Or.inr ⟨_, _, _, _, _, h, fun k' q => q⟩
  · cases h
theorem ta_cmple {t : Nat} : ce_Tail (o_cmple t) := by
  intro i nn ls st S k res h
  unfold o_cmple at h ⊢
  try simp only [ce_bt, ce_bl] at h ⊢
  split at h
  · split at h
    · rename_i hc
      simp only [if_pos hc]
      first | cases h | exact Or.inr ⟨_, _, _, _, _, h, fun k' q => q⟩
    · rename_i hc
      simp only [if_neg hc]
      first | cases h | exact Or.inr ⟨_, _, _, _, _, h, fun k' q => q⟩
  · cases h
theorem ta_div : ce_Tail (o_div) := by
  intro i nn ls st S k res h
  unfold o_div at h ⊢
  try simp only [ce_bt, ce_bl] at h ⊢
  split at h
  · split at h
    · rename_i hc
      simp only [if_pos hc]
      first | cases h | exact Or.inr ⟨_, _, _, _, _, h, fun k' q => q⟩
    · rename_i hc
      simp only [if_neg hc]
      first | cases h | exact Or.inr ⟨_, _, _, _, _, h, fun k' q => q⟩
  · cases h
theorem ta_rem : ce_Tail (o_rem) := by
  intro i nn ls st S k res h
  unfold o_rem at h ⊢
  try simp only [ce_bt, ce_bl] at h ⊢
  split at h
  · split at h
    · rename_i hc
      simp only [if_pos hc]
      first | cases h | exact Or.inr ⟨_, _, _, _, _, h, fun k' q => q⟩
    · rename_i hc
      simp only [if_neg hc]
      first | cases h | exact Or.inr ⟨_, _, _, _, _, h, fun k' q => q⟩
  · cases h
theorem ta_getI {t f : Nat} : ce_Tail (o_getI t f) := by
  intro i nn ls st S k res h
  unfold o_getI at h ⊢
  try simp only [ce_bt, ce_bl] at h ⊢
  split at h
  · split at h
    · rename_i hc
      simp only [if_pos hc]
      first | cases h | exact Or.inr ⟨_, _, _, _, _, h, fun k' q => q⟩
    · rename_i hc
      simp only [if_neg hc]
      first | cases h | exact Or.inr ⟨_, _, _, _, _, h, fun k' q => q⟩
  · cases h
theorem ta_getS {t t' : Nat} {g : Nat → Nat} : ce_Tail (o_getS t t' g) := by
  intro i nn ls st S k res h
  unfold o_getS at h ⊢
  try simp only [ce_bt, ce_bl] at h ⊢
  split at h
  · split at h
    · rename_i hc
      simp only [if_pos hc]
      first | cases h | exact Or.inr ⟨_, _, _, _, _, h, fun k' q => q⟩
    · rename_i hc
      simp only [if_neg hc]
      first | cases h | exact Or.inr ⟨_, _, _, _, _, h, fun k' q => q⟩
  · cases h
theorem ta_getM {t f t' : Nat} : ce_Tail (o_getM t f t') := by
  intro i nn ls st S k res h
  unfold o_getM at h ⊢
  try simp only [ce_bt, ce_bl] at h ⊢
  split at h
  · split at h
    · rename_i hc
      simp only [if_pos hc]
      first | cases h | exact Or.inr ⟨_, _, _, _, _, h, fun k' q => q⟩
    · rename_i hc
      simp only [if_neg hc]
      first | cases h | exact Or.inr ⟨_, _, _, _, _, h, fun k' q => q⟩
  · cases h
theorem ta_putI {t f : Nat} : ce_Tail (o_putI t f) := by
  intro i nn ls st S k res h
  unfold o_putI at h ⊢
  try simp only [ce_bt, ce_bl] at h ⊢
  split at h
  · split at h
    · rename_i hc
      simp only [if_pos hc]
      first | cases h | exact Or.inr ⟨_, _, _, _, _, h, fun k' q => q⟩
    · rename_i hc
      simp only [if_neg hc]
      first | cases h | exact Or.inr ⟨_, _, _, _, _, h, fun k' q => q⟩
  · cases h
theorem ta_alen {t : Nat} : ce_Tail (o_alen t) := by
  intro i nn ls st S k res h
  unfold o_alen at h ⊢
  try simp only [ce_bt, ce_bl] at h ⊢
  split at h
  · split at h
    · rename_i hc
      simp only [if_pos hc]
      first | cases h | exact Or.inr ⟨_, _, _, _, _, h, fun k' q => q⟩
    · rename_i hc
      simp only [if_neg hc]
      first | cases h | exact Or.inr ⟨_, _, _, _, _, h, fun k' q => q⟩
  · cases h
theorem ta_mmax : ce_Tail (o_mmax) := by
  intro i nn ls st S k res h
  unfold o_mmax at h ⊢
  try simp only [ce_bt, ce_bl] at h ⊢
  split at h
  · split at h
    · rename_i hc
      simp only [if_pos hc]
      first | cases h | exact Or.inr ⟨_, _, _, _, _, h, fun k' q => q⟩
    · rename_i hc
      simp only [if_neg hc]
      first | cases h | exact Or.inr ⟨_, _, _, _, _, h, fun k' q => q⟩
  · cases h
theorem ta_mmin : ce_Tail (o_mmin) := by
  intro i nn ls st S k res h
  unfold o_mmin at h ⊢
  try simp only [ce_bt, ce_bl] at h ⊢
  split at h
  · split at h
    · rename_i hc
      simp only [if_pos hc]
      first | cases h | exact Or.inr ⟨_, _, _, _, _, h, fun k' q => q⟩
    · rename_i hc
      simp only [if_neg hc]
      first | cases h | exact Or.inr ⟨_, _, _, _, _, h, fun k' q => q⟩
  · cases h
theorem ta_inst {f : Nat → Int32} : ce_Tail (o_inst f) := by
  intro i nn ls st S k res h
  unfold o_inst at h ⊢
  try simp only [ce_bt, ce_bl] at h ⊢
  split at h
  · split at h
    · rename_i hc
      simp only [if_pos hc]
      first | cases h | exact Or.inr ⟨_, _, _, _, _, h, fun k' q => q⟩
    · rename_i hc
      simp only [if_neg hc]
      first | cases h | exact Or.inr ⟨_, _, _, _, _, h, fun k' q => q⟩
  · cases h
theorem ta_putZ {t f : Nat} : ce_Tail (o_putZ t f) := by
  intro i nn ls st S k res h
  unfold o_putZ at h ⊢
  simp only [ce_bt] at h ⊢
  split at h
  · split at h
    · rename_i hc
      simp only [if_pos hc]
      split at h
      · rename_i hc2
        simp only [if_pos hc2]
        first | cases h | exact Or.inr ⟨_, _, _, _, _, h, fun k' q => q⟩
      · rename_i hc2
        simp only [if_neg hc2]
        first | cases h | exact Or.inr ⟨_, _, _, _, _, h, fun k' q => q⟩
    · cases h
  · cases h
theorem ta_putM {t f t' : Nat} : ce_Tail (o_putM t f t') := by
  intro i nn ls st S k res h
  unfold o_putM at h ⊢
  simp only [ce_bt] at h ⊢
  split at h
  · split at h
    · rename_i hc
      simp only [if_pos hc]
      split at h
      · rename_i hc2
        simp only [if_pos hc2]
        first | cases h | exact Or.inr ⟨_, _, _, _, _, h, fun k' q => q⟩
      · rename_i hc2
        simp only [if_neg hc2]
        first | cases h | exact Or.inr ⟨_, _, _, _, _, h, fun k' q => q⟩
    · cases h
  · cases h
theorem ta_ild {t : Nat} : ce_Tail (o_ild t) := by
  intro i nn ls st S k res h
  unfold o_ild at h ⊢
  simp only [ce_bt] at h ⊢
  split at h
  · split at h
    · rename_i hc
      simp only [if_pos hc]
      split at h
      · rename_i hc2
        simp only [if_pos hc2]
        first | cases h | exact Or.inr ⟨_, _, _, _, _, h, fun k' q => q⟩
      · rename_i hc2
        simp only [if_neg hc2]
        first | cases h | exact Or.inr ⟨_, _, _, _, _, h, fun k' q => q⟩
    · cases h
  · cases h
theorem ta_ist {t : Nat} : ce_Tail (o_ist t) := by
  intro i nn ls st S k res h
  unfold o_ist at h ⊢
  simp only [ce_bt] at h ⊢
  split at h
  · split at h
    · rename_i hc
      simp only [if_pos hc]
      split at h
      · rename_i hc2
        simp only [if_pos hc2]
        first | cases h | exact Or.inr ⟨_, _, _, _, _, h, fun k' q => q⟩
      · rename_i hc2
        simp only [if_neg hc2]
        first | cases h | exact Or.inr ⟨_, _, _, _, _, h, fun k' q => q⟩
    · cases h
  · cases h
theorem ta_ald {t t' : Nat} {g : Nat → Nat} : ce_Tail (o_ald t t' g) := by
  intro i nn ls st S k res h
  unfold o_ald at h ⊢
  simp only [ce_bt] at h ⊢
  split at h
  · split at h
    · rename_i hc
      simp only [if_pos hc]
      split at h
      · rename_i hc2
        simp only [if_pos hc2]
        first | cases h | exact Or.inr ⟨_, _, _, _, _, h, fun k' q => q⟩
      · rename_i hc2
        simp only [if_neg hc2]
        first | cases h | exact Or.inr ⟨_, _, _, _, _, h, fun k' q => q⟩
    · cases h
  · cases h
theorem ta_aldQ : ce_Tail o_aldQ := by
  intro i nn ls st S k res h
  unfold o_aldQ at h ⊢
  simp only [ce_bt] at h ⊢
  split at h
  · rename_i j q r
    split at h
    · rename_i hc
      simp only [if_pos hc]
      split at h
      · cases h
      · rename_i hc2
        simp only [if_neg hc2]
        cases hQ : ce_Q S j.toNatClampNeg with
        | none => rw [hQ] at h; cases h
        | some x => rw [hQ] at h; exact Or.inr ⟨_, _, _, _, _, h, fun k' q => q⟩
    · cases h
  · cases h
theorem ta_cv {n mc ms MC MS : Nat} {F : List ce_V → ce_S → Option ce_S} : ce_Tail (o_cv n F mc ms MC MS) := by
  intro i nn ls st S k res h
  unfold o_cv at h ⊢
  simp only [ce_bc] at h ⊢
  split at h
  · rename_i hc
    simp only [if_pos hc]
    cases hF : F (st.take n).reverse S with
    | none => rw [hF] at h; cases h
    | some q => rw [hF] at h; exact Or.inr ⟨_, _, _, _, _, h, fun k' q => q⟩
  · cases h
theorem ta_ci {n mc ms MC MS : Nat} {F : List ce_V → ce_S → Option (Int32 × ce_S)} : ce_Tail (o_ci n F mc ms MC MS) := by
  intro i nn ls st S k res h
  unfold o_ci at h ⊢
  simp only [ce_bc] at h ⊢
  split at h
  · rename_i hc
    simp only [if_pos hc]
    cases hF : F (st.take n).reverse S with
    | none => rw [hF] at h; cases h
    | some q => rw [hF] at h; exact Or.inr ⟨_, _, _, _, _, h, fun k' q => q⟩
  · cases h
theorem ta_cl {n mc ms MC MS : Nat} {F : List ce_V → ce_S → Option (Int64 × ce_S)} : ce_Tail (o_cl n F mc ms MC MS) := by
  intro i nn ls st S k res h
  unfold o_cl at h ⊢
  simp only [ce_bc] at h ⊢
  split at h
  · rename_i hc
    simp only [if_pos hc]
    cases hF : F (st.take n).reverse S with
    | none => rw [hF] at h; cases h
    | some q => rw [hF] at h; exact Or.inr ⟨_, _, _, _, _, h, fun k' q => q⟩
  · cases h
theorem ta_cr {n t mc ms MC MS : Nat} {F : List ce_V → ce_S → Option (Nat × ce_S)} : ce_Tail (o_cr n t F mc ms MC MS) := by
  intro i nn ls st S k res h
  unfold o_cr at h ⊢
  simp only [ce_bc] at h ⊢
  split at h
  · rename_i hc
    simp only [if_pos hc]
    cases hF : F (st.take n).reverse S with
    | none => rw [hF] at h; cases h
    | some q => rw [hF] at h; exact Or.inr ⟨_, _, _, _, _, h, fun k' q => q⟩
  · cases h
theorem ta_iret : ce_Tail o_iret := fun _ _ _ _ _ _ _ h => ce_ta0 (fun _ => rfl) h
theorem ta_lret : ce_Tail o_lret := fun _ _ _ _ _ _ _ h => ce_ta0 (fun _ => rfl) h
theorem ta_aret : ce_Tail o_aret := fun _ _ _ _ _ _ _ h => ce_ta0 (fun _ => rfl) h
theorem ta_vret : ce_Tail o_vret := fun _ _ _ _ _ _ _ h => ce_ta0 (fun _ => rfl) h
theorem ta_zret : ce_Tail o_zret := fun _ _ _ _ _ _ _ h => ce_ta0 (fun _ => rfl) h
theorem ta_sw {ks : List (Int32 × Nat)} {d : Nat} : ce_Tail (o_sw ks d) := by
  intro i nn ls st S k res h
  unfold o_sw at h ⊢
  split at h
  · rename_i x r
    have key : ∀ (ks : List (Int32 × Nat)), ∃ t, ∀ kk : Nat → ce_Rs, ce_sw x ks d kk = kk t := by
      intro ks
      induction ks with
      | nil => exact ⟨d, fun _ => rfl⟩
      | cons q l ih =>
        by_cases e : x = q.1
        · exact ⟨q.2, fun kk => by unfold ce_sw; rw [if_pos e]⟩
        · obtain ⟨t, ht⟩ := ih
          exact ⟨t, fun kk => by unfold ce_sw; rw [if_neg e]; exact ht kk⟩
    obtain ⟨t, ht⟩ := key ks
    rw [ht] at h
    exact Or.inr ⟨t, nn, ls, r, S, h, fun k' q => (ht _).trans q⟩
  · cases h
def ce_TL : List ce_Op → Prop
  | [] => True
  | o :: r => ce_Tail o ∧ ce_TL r
theorem ce_TL.at : ∀ (tb : List ce_Op), ce_TL tb → ∀ i, ce_Tail (tb.getD i ce_bad) := by
  intro tb
  induction tb with
  | nil => intro _ i _ _ _ _ _ _ _ h; cases h
  | cons o r ih =>
    intro h i
    cases i with
    | zero => exact h.1
    | succ i => exact ih h.2 i
theorem ce_mono {tb : List ce_Op} (hT : ce_TL tb) : ∀ (n : Nat) (i : Nat) (nn : Nat × Nat) (ls : List (Option ce_V)) (st : List ce_V) (S : ce_S) (res : Option ce_V × ce_S), ce_run tb n i nn ls st S = some res → ce_run tb (n + 1) i nn ls st S = some res := by
  intro n
  induction n with
  | zero => intro i nn ls st S res h; cases h
  | succ n ih =>
    intro i nn ls st S res h
    have h : (tb.getD i ce_bad) i nn ls st S (ce_run tb n) = some res := h
    show (tb.getD i ce_bad) i nn ls st S (ce_run tb (n + 1)) = some res
    rcases hT.at tb i i nn ls st S _ res h with q | ⟨i', nn', ls', st', S', h1, h2⟩
    · exact q _
    · exact h2 _ (ih _ _ _ _ _ _ h1)
theorem ce_monoLe {tb : List ce_Op} (hT : ce_TL tb) {n m : Nat} (hnm : n ≤ m) {i : Nat} {nn : Nat × Nat} {ls : List (Option ce_V)} {st : List ce_V} {S : ce_S} {res : Option ce_V × ce_S} (h : ce_run tb n i nn ls st S = some res) : ce_run tb m i nn ls st S = some res := by
  induction m with
  | zero => rw [Nat.le_zero.mp hnm] at h; exact h
  | succ m ih =>
    rcases Nat.lt_or_ge n (m + 1) with q | q
    · exact ce_mono hT m _ _ _ _ _ _ (ih (by omega))
    · rw [show m + 1 = n by omega]; exact h
def ce_Ev (tb : List ce_Op) (i : Nat) (nn : Nat × Nat) (ls : List (Option ce_V)) (st : List ce_V) (S : ce_S) (res : Option ce_V × ce_S) : Prop := ∃ n, ce_run tb n i nn ls st S = some res
theorem ce_Ev.uniq {tb : List ce_Op} (hT : ce_TL tb) {i : Nat} {nn : Nat × Nat} {ls : List (Option ce_V)} {st : List ce_V} {S : ce_S} {r1 r2 : Option ce_V × ce_S} (h1 : ce_Ev tb i nn ls st S r1) (h2 : ce_Ev tb i nn ls st S r2) : r1 = r2 := by
  obtain ⟨n1, h1⟩ := h1
  obtain ⟨n2, h2⟩ := h2
  have a := ce_monoLe hT (Nat.le_max_left n1 n2) h1
  have b := ce_monoLe hT (Nat.le_max_right n1 n2) h2
  exact Option.some.inj (a.symm.trans b)
theorem ce_Ev.step {tb : List ce_Op} (hT : ce_TL tb) {i : Nat} {nn : Nat × Nat} {ls : List (Option ce_V)} {st : List ce_V} {S : ce_S} {k : ce_K} {res : Option ce_V × ce_S} (h : (tb.getD i ce_bad) i nn ls st S k = some res) (hk : ∀ i' nn' ls' st' S', k i' nn' ls' st' S' = some res → ce_Ev tb i' nn' ls' st' S' res) : ce_Ev tb i nn ls st S res := by
  rcases hT.at tb i i nn ls st S _ res h with q | ⟨i', nn', ls', st', S', h1, h2⟩
  · exact ⟨1, q _⟩
  · obtain ⟨n, hn⟩ := hk _ _ _ _ _ h1
    exact ⟨n + 1, h2 _ hn⟩
/-- a stretch: at most K steps, up to a place of 'cut' -/
noncomputable def ce_sg (tb : List ce_Op) (cut : List Nat) (K : Nat) (kk : ce_K) : ce_K := Nat.rec (motive := fun _ => ce_K) (fun _ _ _ _ _ => none) (fun _ ih i nn ls st S => (tb.getD i ce_bad) i nn ls st S (fun i' nn' ls' st' S' => Bool.rec (motive := fun _ => ce_Rs) (ih i' nn' ls' st' S') (kk i' nn' ls' st' S') (cut.elem i'))) K
theorem ce_Ev.sg {tb : List ce_Op} (hT : ce_TL tb) {cut : List Nat} {kk : ce_K} {res : Option ce_V × ce_S} (hk : ∀ i' nn' ls' st' S', kk i' nn' ls' st' S' = some res → ce_Ev tb i' nn' ls' st' S' res) : ∀ (K i : Nat) (nn : Nat × Nat) (ls : List (Option ce_V)) (st : List ce_V) (S : ce_S), ce_sg tb cut K kk i nn ls st S = some res → ce_Ev tb i nn ls st S res := by
  intro K
  induction K with
  | zero => intro i nn ls st S h; cases h
  | succ K ih =>
    intro i nn ls st S h
    refine ce_Ev.step hT (k := fun i' nn' ls' st' S' => Bool.rec (motive := fun _ => ce_Rs) (ce_sg tb cut K kk i' nn' ls' st' S') (kk i' nn' ls' st' S') (cut.elem i')) h (fun i' nn' ls' st' S' h2 => ?_)
    cases hc : cut.elem i' with
    | true => rw [hc] at h2; exact hk _ _ _ _ _ h2
    | false => rw [hc] at h2; exact ih _ _ _ _ _ h2
noncomputable def ce_kk (tb : List ce_Op) (res : Option ce_V × ce_S) : ce_K := fun i nn ls st S => (Classical.propDecidable (ce_Ev tb i nn ls st S res)).casesOn (fun _ => none) (fun _ => some res)
theorem ce_kk_of {tb : List ce_Op} {res : Option ce_V × ce_S} {i : Nat} {nn : Nat × Nat} {ls : List (Option ce_V)} {st : List ce_V} {S : ce_S} (h : ce_Ev tb i nn ls st S res) : ce_kk tb res i nn ls st S = some res := by
  unfold ce_kk
  cases Classical.propDecidable (ce_Ev tb i nn ls st S res) with
  | isTrue _ => rfl
  | isFalse q => exact absurd h q
theorem ce_of_kk {tb : List ce_Op} {res : Option ce_V × ce_S} {i : Nat} {nn : Nat × Nat} {ls : List (Option ce_V)} {st : List ce_V} {S : ce_S} (h : ce_kk tb res i nn ls st S = some res) : ce_Ev tb i nn ls st S res := by
  unfold ce_kk at h
  cases hq : Classical.propDecidable (ce_Ev tb i nn ls st S res) with
  | isTrue q => exact q
  | isFalse q => rw [hq] at h; cases h
/-- by a stretch whose meaning is known -/
theorem ce_by {tb : List ce_Op} (hT : ce_TL tb) {cut : List Nat} {K i : Nat} {nn : Nat × Nat} {ls : List (Option ce_V)} {st : List ce_V} {S : ce_S} {E : ce_K → ce_Rs} {res : Option ce_V × ce_S} (hE : ∀ kk, ce_sg tb cut K kk i nn ls st S = E kk) (h : E (ce_kk tb res) = some res) : ce_Ev tb i nn ls st S res := ce_Ev.sg hT (fun _ _ _ _ _ q => ce_of_kk q) K i nn ls st S ((hE _).trans h)
/-! a method's function: what its steps come to -/
def ce_gd (t : Option Nat) (nL : Nat) (a : List ce_V) : Prop := a.length ≤ nL ∧ (∀ v ∈ a, ∀ x, v ≠ .inr (.inr x)) ∧ (∀ t', t = some t' → ∃ j as, a = .inr (.inl (t', j)) :: as)
def ce_ls (nL : Nat) (a : List ce_V) : List (Option ce_V) := a.map some ++ List.replicate (nL - a.length) none
theorem ce_pickOf {α : Type} (P : α → Prop) (c : Prop) : ∃ f : Option α, (∀ x, f = some x → c ∧ P x) ∧ ((c ∧ ∃ x, P x) → ∃ x, f = some x) := by
  rcases Classical.em (c ∧ ∃ x, P x) with ⟨h0, x, h⟩ | h
  · exact ⟨some x, fun y e => by cases e; exact ⟨h0, h⟩, fun _ => ⟨x, rfl⟩⟩
  · exact ⟨none, (fun y e => by cases e), fun q => absurd q h⟩
noncomputable def ce_pick {α : Type} (P : α → Prop) (c : Prop) : Option α := Classical.choose (ce_pickOf P c)
theorem ce_pick_of {α : Type} {P : α → Prop} {c : Prop} {x : α} (h : ce_pick P c = some x) : c ∧ P x := (Classical.choose_spec (ce_pickOf P c)).1 x h
theorem ce_pick_eq {α : Type} {P : α → Prop} {c : Prop} {x : α} (hc : c) (h : P x) (hu : ∀ y, P y → y = x) : ce_pick P c = some x := by
  obtain ⟨y, hy⟩ := (Classical.choose_spec (ce_pickOf P c)).2 ⟨hc, x, h⟩
  have hy : ce_pick P c = some y := hy
  rw [hy, hu y (ce_pick_of hy).2]
noncomputable def ce_fV (tb : List ce_Op) (nL : Nat) (t : Option Nat) : List ce_V → ce_S → Option ce_S := fun a S => ce_pick (fun S' => ce_Ev tb 0 (0, 0) (ce_ls nL a) [] S (none, S')) (ce_gd t nL a)
noncomputable def ce_fI (tb : List ce_Op) (nL : Nat) (t : Option Nat) : List ce_V → ce_S → Option (Int32 × ce_S) := fun a S => ce_pick (fun q => ce_Ev tb 0 (0, 0) (ce_ls nL a) [] S (some (.inl q.1), q.2)) (ce_gd t nL a)
noncomputable def ce_fL (tb : List ce_Op) (nL : Nat) (t : Option Nat) : List ce_V → ce_S → Option (Int64 × ce_S) := fun a S => ce_pick (fun q => ce_Ev tb 0 (0, 0) (ce_ls nL a) [] S (some (.inr (.inr q.1)), q.2)) (ce_gd t nL a)
noncomputable def ce_fR (tb : List ce_Op) (nL : Nat) (t : Option Nat) (rt : Nat) : List ce_V → ce_S → Option (Nat × ce_S) := fun a S => ce_pick (fun q => ce_Ev tb 0 (0, 0) (ce_ls nL a) [] S (some (.inr (.inl (rt, q.1))), q.2)) (ce_gd t nL a)
theorem ce_fV_eq {tb : List ce_Op} {nL : Nat} {t : Option Nat} {a : List ce_V} {S S' : ce_S} (hT : ce_TL tb) (hg : ce_gd t nL a) (h : ce_Ev tb 0 (0, 0) (ce_ls nL a) [] S (none, S')) : ce_fV tb nL t a S = some S' := ce_pick_eq hg h (fun y hy => by have := hy.uniq hT h; simpa using this)
theorem ce_fI_eq {tb : List ce_Op} {nL : Nat} {t : Option Nat} {a : List ce_V} {S S' : ce_S} {x : Int32} (hT : ce_TL tb) (hg : ce_gd t nL a) (h : ce_Ev tb 0 (0, 0) (ce_ls nL a) [] S (some (.inl x), S')) : ce_fI tb nL t a S = some (x, S') := ce_pick_eq hg h (fun y hy => by have := hy.uniq hT h; obtain ⟨y1, y2⟩ := y; cases this; rfl)
theorem ce_fL_eq {tb : List ce_Op} {nL : Nat} {t : Option Nat} {a : List ce_V} {S S' : ce_S} {x : Int64} (hT : ce_TL tb) (hg : ce_gd t nL a) (h : ce_Ev tb 0 (0, 0) (ce_ls nL a) [] S (some (.inr (.inr x)), S')) : ce_fL tb nL t a S = some (x, S') := ce_pick_eq hg h (fun y hy => by have := hy.uniq hT h; obtain ⟨y1, y2⟩ := y; cases this; rfl)
theorem ce_fR_eq {tb : List ce_Op} {nL : Nat} {t : Option Nat} {a : List ce_V} {S S' : ce_S} {rt x : Nat} (hT : ce_TL tb) (hg : ce_gd t nL a) (h : ce_Ev tb 0 (0, 0) (ce_ls nL a) [] S (some (.inr (.inl (rt, x))), S')) : ce_fR tb nL t rt a S = some (x, S') := ce_pick_eq hg h (fun y hy => by have := hy.uniq hT h; obtain ⟨y1, y2⟩ := y; cases this; rfl)
theorem ce_fV_run {tb : List ce_Op} {nL : Nat} {t : Option Nat} : ∀ (a : List ce_V) (S : ce_S) (res : Option ce_V × ce_S), ce_wV (ce_fV tb nL t) a S = some res → a.length ≤ nL ∧ (∀ v ∈ a, ∀ x, v ≠ .inr (.inr x)) ∧ ∃ n, ce_run tb n 0 (0, 0) (a.map some ++ List.replicate (nL - a.length) none) [] S = some res := by
  intro a S res h
  unfold ce_wV at h
  cases hF : ce_fV tb nL t a S with
  | none => rw [hF] at h; cases h
  | some q => rw [hF] at h; cases h; obtain ⟨h1, h2⟩ := ce_pick_of hF; exact ⟨h1.1, h1.2.1, h2⟩
theorem ce_fI_run {tb : List ce_Op} {nL : Nat} {t : Option Nat} : ∀ (a : List ce_V) (S : ce_S) (res : Option ce_V × ce_S), ce_wI (ce_fI tb nL t) a S = some res → a.length ≤ nL ∧ (∀ v ∈ a, ∀ x, v ≠ .inr (.inr x)) ∧ ∃ n, ce_run tb n 0 (0, 0) (a.map some ++ List.replicate (nL - a.length) none) [] S = some res := by
  intro a S res h
  unfold ce_wI at h
  cases hF : ce_fI tb nL t a S with
  | none => rw [hF] at h; cases h
  | some q => rw [hF] at h; cases h; obtain ⟨h1, h2⟩ := ce_pick_of hF; exact ⟨h1.1, h1.2.1, h2⟩
theorem ce_fL_run {tb : List ce_Op} {nL : Nat} {t : Option Nat} : ∀ (a : List ce_V) (S : ce_S) (res : Option ce_V × ce_S), ce_wL (ce_fL tb nL t) a S = some res → a.length ≤ nL ∧ (∀ v ∈ a, ∀ x, v ≠ .inr (.inr x)) ∧ ∃ n, ce_run tb n 0 (0, 0) (a.map some ++ List.replicate (nL - a.length) none) [] S = some res := by
  intro a S res h
  unfold ce_wL at h
  cases hF : ce_fL tb nL t a S with
  | none => rw [hF] at h; cases h
  | some q => rw [hF] at h; cases h; obtain ⟨h1, h2⟩ := ce_pick_of hF; exact ⟨h1.1, h1.2.1, h2⟩
theorem ce_fR_run {tb : List ce_Op} {nL rt : Nat} {t : Option Nat} : ∀ (a : List ce_V) (S : ce_S) (res : Option ce_V × ce_S), ce_wR rt (ce_fR tb nL t rt) a S = some res → a.length ≤ nL ∧ (∀ v ∈ a, ∀ x, v ≠ .inr (.inr x)) ∧ ∃ n, ce_run tb n 0 (0, 0) (a.map some ++ List.replicate (nL - a.length) none) [] S = some res := by
  intro a S res h
  unfold ce_wR at h
  cases hF : ce_fR tb nL t rt a S with
  | none => rw [hF] at h; cases h
  | some q => rw [hF] at h; cases h; obtain ⟨h1, h2⟩ := ce_pick_of hF; exact ⟨h1.1, h1.2.1, h2⟩
theorem ce_fV_rec {tb : List ce_Op} {nL t : Nat} (a : List ce_V) (S : ce_S) (res : Option ce_V × ce_S) (h : ce_wV (ce_fV tb nL (some t)) a S = some res) : ∃ j as, a = .inr (.inl (t, j)) :: as := by
  unfold ce_wV at h
  cases hF : ce_fV tb nL (some t) a S with
  | none => rw [hF] at h; cases h
  | some q => exact (ce_pick_of hF).1.2.2 t rfl
theorem ce_fI_rec {tb : List ce_Op} {nL t : Nat} (a : List ce_V) (S : ce_S) (res : Option ce_V × ce_S) (h : ce_wI (ce_fI tb nL (some t)) a S = some res) : ∃ j as, a = .inr (.inl (t, j)) :: as := by
  unfold ce_wI at h
  cases hF : ce_fI tb nL (some t) a S with
  | none => rw [hF] at h; cases h
  | some q => exact (ce_pick_of hF).1.2.2 t rfl
theorem ce_fL_rec {tb : List ce_Op} {nL t : Nat} (a : List ce_V) (S : ce_S) (res : Option ce_V × ce_S) (h : ce_wL (ce_fL tb nL (some t)) a S = some res) : ∃ j as, a = .inr (.inl (t, j)) :: as := by
  unfold ce_wL at h
  cases hF : ce_fL tb nL (some t) a S with
  | none => rw [hF] at h; cases h
  | some q => exact (ce_pick_of hF).1.2.2 t rfl
theorem ce_fR_rec {tb : List ce_Op} {nL t rt : Nat} (a : List ce_V) (S : ce_S) (res : Option ce_V × ce_S) (h : ce_wR rt (ce_fR tb nL (some t) rt) a S = some res) : ∃ j as, a = .inr (.inl (t, j)) :: as := by
  unfold ce_wR at h
  cases hF : ce_fR tb nL (some t) rt a S with
  | none => rw [hF] at h; cases h
  | some q => exact (ce_pick_of hF).1.2.2 t rfl
