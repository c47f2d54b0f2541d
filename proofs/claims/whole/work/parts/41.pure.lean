/-! rows of scratch: all rows of one kind at once -/
def ce_tA (S : ce_S) (t : Nat) (f : Nat → Nat → Int32) : ce_S := (S.1, S.2.1, (fun t' => if t' = t then f else S.2.2.1 t'), S.2.2.2)
theorem r_I_tA (S : ce_S) (t : Nat) (f : Nat → Nat → Int32) : ce_I (ce_tA S t f) = ce_I S := rfl
theorem r_R_tA (S : ce_S) (t : Nat) (f : Nat → Nat → Int32) : ce_R (ce_tA S t f) = ce_R S := rfl
theorem r_L_tA (S : ce_S) (t : Nat) (f : Nat → Nat → Int32) : ce_L (ce_tA S t f) = ce_L S := rfl
theorem r_C_tA (S : ce_S) (t : Nat) (f : Nat → Nat → Int32) : ce_C (ce_tA S t f) = ce_C S := rfl
theorem r_Q_tA (S : ce_S) (t : Nat) (f : Nat → Nat → Int32) : ce_Q (ce_tA S t f) = ce_Q S := rfl
theorem r_A_tA (S : ce_S) (t : Nat) (f : Nat → Nat → Int32) (t' : Nat) : ce_A (ce_tA S t f) t' = if t' = t then f else ce_A S t' := rfl
theorem tA_tA (S : ce_S) (t : Nat) (f g : Nat → Nat → Int32) : ce_tA (ce_tA S t f) t g = ce_tA S t g := by
  unfold ce_tA
  simp only [Prod.mk.injEq, true_and, and_true]
  funext t'
  by_cases h : t' = t
  · simp only [if_pos h]
  · simp only [if_neg h]
theorem tA_self (S : ce_S) (t : Nat) : ce_tA S t (ce_A S t) = S := by
  obtain ⟨a, b, c, d⟩ := S
  unfold ce_tA
  simp only [Prod.mk.injEq, true_and, and_true]
  funext t'
  by_cases h : t' = t
  · simp only [if_pos h]; subst h; rfl
  · simp only [if_neg h]
def ce_put3 (f : Nat → Nat → Int32) (i e : Nat) (v : Int32) : Nat → Nat → Int32 := fun i' e' => if i' = i then (if e' = e then v else f i' e') else f i' e'
theorem tA_sA (S : ce_S) (t i e : Nat) (f : Nat → Nat → Int32) (v : Int32) : ce_sA (ce_tA S t f) t i e v = ce_tA S t (ce_put3 f i e v) := by
  unfold ce_sA ce_tA ce_u
  simp only [Prod.mk.injEq, true_and, and_true]
  funext t' i' e'
  by_cases h : t' = t
  · simp only [if_pos h]; rfl
  · simp only [if_neg h]
theorem sA_tA (S : ce_S) (t i e : Nat) (v : Int32) : ce_sA S t i e v = ce_tA S t (ce_put3 (ce_A S t) i e v) := by
  conv => lhs; rw [← tA_self S t]
  rw [tA_sA]
theorem sI_tA (S : ce_S) (t : Nat) (f : Nat → Nat → Int32) (t' k i : Nat) (v : Int32) : ce_sI (ce_tA S t f) t' k i v = ce_tA (ce_sI S t' k i v) t f := rfl
theorem sR_tA (S : ce_S) (t : Nat) (f : Nat → Nat → Int32) (t' k i v : Nat) : ce_sR (ce_tA S t f) t' k i v = ce_tA (ce_sR S t' k i v) t f := rfl
theorem sQ_tA (S : ce_S) (t : Nat) (f : Nat → Nat → Int32) (e v : Nat) : ce_sQ (ce_tA S t f) e v = ce_tA (ce_sQ S e v) t f := rfl
theorem sA_tA_ne (S : ce_S) (t : Nat) (f : Nat → Nat → Int32) (t' i e : Nat) (v : Int32) (h : t' ≠ t) : ce_sA (ce_tA S t f) t' i e v = ce_tA (ce_sA S t' i e v) t f := by
  unfold ce_sA ce_tA ce_u
  simp only [Prod.mk.injEq, true_and, and_true]
  funext a b c
  by_cases h1 : a = t'
  · have : a ≠ t := fun q => h (h1.symm.trans q)
    simp only [if_pos h1, if_neg this]
  · by_cases h2 : a = t
    · simp only [if_pos h2, if_neg h1]
    · simp only [if_neg h2, if_neg h1]
theorem tA_comm (S : ce_S) (t u : Nat) (f g : Nat → Nat → Int32) (h : t ≠ u) : ce_tA (ce_tA S t f) u g = ce_tA (ce_tA S u g) t f := by
  unfold ce_tA
  simp only [Prod.mk.injEq, true_and, and_true]
  funext a
  by_cases h1 : a = u
  · have : a ≠ t := fun q => h (q.symm.trans h1)
    simp only [if_pos h1, if_neg this]
  · simp only [if_neg h1]
/-! Int32 as Int -/
theorem i_lt (a b : Int32) : (a < b) = (a.toInt < b.toInt) := propext Int32.lt_iff_toInt_lt
theorem i_le (a b : Int32) : (a ≤ b) = (a.toInt ≤ b.toInt) := propext Int32.le_iff_toInt_le
theorem i_eq (a b : Int32) : (a = b) = (a.toInt = b.toInt) := propext Int32.toInt_inj.symm
theorem i_nI {n : Nat} (h : n < 2 ^ 31) : (nI n).toInt = (n : Int) := by
  unfold nI
  rw [Int32.toInt_ofNat_of_lt h]
theorem nJ_succ (n : Nat) : nI n + 1 = nI (n + 1) := by
  unfold nI
  rw [Int32.ofNat_add]; rfl
theorem nJ_add (n m : Nat) : nI n + nI m = nI (n + m) := by
  unfold nI
  rw [Int32.ofNat_add]
theorem nJ_mul (n m : Nat) : nI n * nI m = nI (n * m) := by
  unfold nI
  rw [Int32.ofNat_mul]
theorem nJ_inj {a b : Nat} (ha : a < 2 ^ 31) (hb : b < 2 ^ 31) : (nI a = nI b) = (a = b) := by
  rw [i_eq, i_nI ha, i_nI hb]
  exact propext ⟨fun h => by exact_mod_cast h, fun h => by rw [h]⟩
theorem nJ_lt {a b : Nat} (ha : a < 2 ^ 31) (hb : b < 2 ^ 31) : (nI a < nI b) = (a < b) := propext (nI_ltI ha hb)
theorem nJ_le {a b : Nat} (ha : a < 2 ^ 31) (hb : b < 2 ^ 31) : (nI a ≤ nI b) = (a ≤ b) := propext (nI_leI ha hb)
theorem nJ_of {x : Int32} (h : 0 ≤ x) : x = nI x.toNatClampNeg := by
  rw [i_eq]
  rw [i_le] at h
  have h0 : (0 : Int32).toInt = 0 := rfl
  rw [h0] at h
  have h2 : x.toInt < 2 ^ 31 := Int32.toInt_lt x
  have h3 : (x.toNatClampNeg : Int) = x.toInt := by
    rw [show x.toNatClampNeg = x.toInt.toNat from rfl]
    exact Int.toNat_of_nonneg h
  rw [i_nI (by omega), h3]
theorem clamp_lt {x : Int32} {n : Nat} (hn : n < 2 ^ 31) (h : 0 ≤ x) (h2 : x < nI n) : x.toNatClampNeg < n := by
  have e := nJ_of h
  have h3 : x.toInt < 2 ^ 31 := Int32.toInt_lt x
  have h4 : x.toNatClampNeg < 2 ^ 31 := by
    rw [show x.toNatClampNeg = x.toInt.toNat from rfl]; omega
  rw [e, nJ_lt h4 hn] at h2
  exact h2
/-! a method's own row -/
def ce_noL : List ce_V → Bool
  | [] => true
  | .inr (.inr _) :: _ => false
  | .inl _ :: l => ce_noL l
  | .inr (.inl _) :: l => ce_noL l
theorem ce_noL_of : ∀ {a : List ce_V}, ce_noL a = true → ∀ v ∈ a, ∀ x, v ≠ .inr (.inr x)
  | [], _, v, hv, _ => by cases hv
  | .inr (.inr _) :: _, h, _, _, _ => by cases h
  | .inl _ :: l, h, v, hv, x => by
    rcases List.mem_cons.mp hv with e | e
    · subst e; intro q; cases q
    · exact ce_noL_of (a := l) h v e x
  | .inr (.inl _) :: l, h, v, hv, x => by
    rcases List.mem_cons.mp hv with e | e
    · subst e; intro q; cases q
    · exact ce_noL_of (a := l) h v e x
theorem gd_n {nL : Nat} {a : List ce_V} (h1 : Nat.ble a.length nL = true) (h2 : ce_noL a = true) : ce_gd none nL a := ⟨Nat.le_of_ble_eq_true h1, ce_noL_of h2, fun t' e => by cases e⟩
theorem gd_r {t nL j : Nat} {as : List ce_V} (h1 : Nat.ble (as.length + 1) nL = true) (h2 : ce_noL as = true) : ce_gd (some t) nL (.inr (.inl (t, j)) :: as) := ⟨Nat.le_of_ble_eq_true h1, ce_noL_of (a := .inr (.inl (t, j)) :: as) h2, fun t' e => by cases e; exact ⟨j, as, rfl⟩⟩
theorem fI_by {tb : List ce_Op} {nL : Nat} {t : Option Nat} {a : List ce_V} {S S' : ce_S} {x : Int32} {cut : List Nat} {K : Nat} {E : ce_K → ce_Rs} (hT : ce_TL tb) (hg : ce_gd t nL a) (hE : ∀ kk, ce_sg tb cut K kk 0 (0, 0) (ce_ls nL a) [] S = E kk) (h : E (ce_kk tb (some (.inl x), S')) = some (some (.inl x), S')) : ce_fI tb nL t a S = some (x, S') := ce_fI_eq hT hg (ce_by hT hE h)
theorem fV_by {tb : List ce_Op} {nL : Nat} {t : Option Nat} {a : List ce_V} {S S' : ce_S} {cut : List Nat} {K : Nat} {E : ce_K → ce_Rs} (hT : ce_TL tb) (hg : ce_gd t nL a) (hE : ∀ kk, ce_sg tb cut K kk 0 (0, 0) (ce_ls nL a) [] S = E kk) (h : E (ce_kk tb (none, S')) = some (none, S')) : ce_fV tb nL t a S = some S' := ce_fV_eq hT hg (ce_by hT hE h)
theorem fL_by {tb : List ce_Op} {nL : Nat} {t : Option Nat} {a : List ce_V} {S S' : ce_S} {x : Int64} {cut : List Nat} {K : Nat} {E : ce_K → ce_Rs} (hT : ce_TL tb) (hg : ce_gd t nL a) (hE : ∀ kk, ce_sg tb cut K kk 0 (0, 0) (ce_ls nL a) [] S = E kk) (h : E (ce_kk tb (some (.inr (.inr x)), S')) = some (some (.inr (.inr x)), S')) : ce_fL tb nL t a S = some (x, S') := ce_fL_eq hT hg (ce_by hT hE h)
theorem fR_by {tb : List ce_Op} {nL rt x : Nat} {t : Option Nat} {a : List ce_V} {S S' : ce_S} {cut : List Nat} {K : Nat} {E : ce_K → ce_Rs} (hT : ce_TL tb) (hg : ce_gd t nL a) (hE : ∀ kk, ce_sg tb cut K kk 0 (0, 0) (ce_ls nL a) [] S = E kk) (h : E (ce_kk tb (some (.inr (.inl (rt, x))), S')) = some (some (.inr (.inl (rt, x))), S')) : ce_fR tb nL t rt a S = some (x, S') := ce_fR_eq hT hg (ce_by hT hE h)
theorem nJ_in {c N : Nat} (h : c < N) (hN : N < 2 ^ 31) : ¬ (nI c < 0 ∨ N ≤ c) := by
  have := nI_in h hN
  rwa [nI_clamp (by omega)] at this
