/-! the K-machine: what is known of a state while cells are made -/
def KN (c : Nat → Nat) (l : List (Nat × Nat × Nat)) (S : ce_S) : Prop := (∀ t, ce_C S t = c t) ∧ ∀ t k j, (t, k, j) ∉ l → ce_R S (1000 + t) k j = 0
def kcv (c : Nat → Nat) (t v : Nat) : Nat → Nat := fun t' => if t' = t then v else c t'
theorem KN.new {c c' : Nat → Nat} {l l' : List (Nat × Nat × Nat)} {S : ce_S} {t j : Nat} {ks : List Nat} (h : KN c l S) (hj : c t = j) (hk : ∀ k, kref t k ≠ 0 → k ∈ ks) (hc : ∀ t', kcv c t (j + 1) t' = c' t') (hl : ∀ q ∈ ks.map (fun k => (t, k, j)) ++ l, q ∈ l') : KN c' l' (kS_new S t) := by
  subst hj
  refine ⟨fun t' => ?_, fun t' k j hn => ?_⟩
  · rw [kS_C_new, ← hc]
    unfold kcv
    by_cases e : t' = t
    · rw [if_pos e, if_pos e, h.1]
    · rw [if_neg e, if_neg e, h.1]
  · show (if 1000 + t' = 1000 + t ∧ j = ce_C S t then kref t k else ce_R S (1000 + t') k j) = 0
    rw [h.1]
    by_cases e : t' = t
    · subst e
      by_cases e2 : j = c t'
      · rw [if_pos ⟨rfl, e2⟩]
        by_cases z : kref t' k = 0
        · exact z
        · exact absurd (hl _ (List.mem_append.mpr (Or.inl (List.mem_map.mpr ⟨k, hk k z, by rw [e2]⟩)))) hn
      · rw [if_neg (fun q => e2 q.2)]
        exact h.2 t' k j (fun z => hn (hl _ (List.mem_append.mpr (Or.inr z))))
    · rw [if_neg (fun q => e (by omega))]
      exact h.2 t' k j (fun z => hn (hl _ (List.mem_append.mpr (Or.inr z))))
theorem KN.row {c c' : Nat → Nat} {l l' : List (Nat × Nat × Nat)} {S : ce_S} {t j n : Nat} {ks : List Nat} (h : KN c l S) (hj : c t = j) (hk : ∀ k, (ce_so t = 2 ∧ ¬ t = 5 ∧ k < n) → k ∈ ks) (hc : ∀ t', kcv c t (j + 1) t' = c' t') (hl : ∀ q ∈ ks.map (fun k => (t, k, j)) ++ l, q ∈ l') : KN c' l' (kS_row S t n) := by
  subst hj
  refine ⟨fun t' => ?_, fun t' k j hn => ?_⟩
  · rw [kS_C_row, ← hc]
    unfold kcv
    by_cases e : t' = t
    · rw [if_pos e, if_pos e, h.1]
    · rw [if_neg e, if_neg e, h.1]
  · show (if 1000 + t' = 1000 + t ∧ j = ce_C S t then (if ce_so t = 2 ∧ ¬ t = 5 ∧ k < n then 1 else 0) else ce_R S (1000 + t') k j) = 0
    rw [h.1]
    by_cases e : t' = t
    · subst e
      by_cases e2 : j = c t'
      · rw [if_pos ⟨rfl, e2⟩]
        by_cases z : ce_so t' = 2 ∧ ¬ t' = 5 ∧ k < n
        · exact absurd (hl _ (List.mem_append.mpr (Or.inl (List.mem_map.mpr ⟨k, hk k z, by rw [e2]⟩)))) hn
        · rw [if_neg z]
      · rw [if_neg (fun q => e2 q.2)]
        exact h.2 t' k j (fun z => hn (hl _ (List.mem_append.mpr (Or.inr z))))
    · rw [if_neg (fun q => e (by omega))]
      exact h.2 t' k j (fun z => hn (hl _ (List.mem_append.mpr (Or.inr z))))
theorem KN.same {c : Nat → Nat} {l : List (Nat × Nat × Nat)} {S S' : ce_S} (h : KN c l S) (hC : ∀ t, ce_C S' t = ce_C S t) (hR : ∀ t k j, ce_R S' (1000 + t) k j = ce_R S (1000 + t) k j) : KN c l S' := ⟨fun t => (hC t).trans (h.1 t), fun t k j hn => (hR t k j).trans (h.2 t k j hn)⟩
theorem KN.imp {c c' : Nat → Nat} {l l' : List (Nat × Nat × Nat)} {S : ce_S} (h : KN c l S) (hc : ∀ t, c t = c' t) (hl : ∀ q ∈ l, q ∈ l') : KN c' l' S := ⟨fun t => (h.1 t).trans (hc t), fun t k j hn => h.2 t k j (fun z => hn (hl _ z))⟩
theorem KN.put0 {c : Nat → Nat} {l l' : List (Nat × Nat × Nat)} {S S' : ce_S} {t f j : Nat} (h : KN c l S) (hC : ∀ t, ce_C S' t = ce_C S t) (hR : ∀ t' k' j', ce_R S' (1000 + t') k' j' = if 1000 + t' = 1000 + t then (if k' = f then (if j' = j then 0 else ce_R S (1000 + t') k' j') else ce_R S (1000 + t') k' j') else ce_R S (1000 + t') k' j') (hl : ∀ q ∈ l, q ≠ (t, f, j) → q ∈ l') : KN c l' S' := by
  refine ⟨fun t' => (hC t').trans (h.1 t'), fun t' k' j' hn => ?_⟩
  rw [hR]
  by_cases e1 : t' = t
  · rw [if_pos (by omega)]
    by_cases e2 : k' = f
    · rw [if_pos e2]
      by_cases e3 : j' = j
      · rw [if_pos e3]
      · rw [if_neg e3]
        exact h.2 t' k' j' (fun z => hn (hl _ z (fun q => e3 (by cases q; rfl))))
    · rw [if_neg e2]
      exact h.2 t' k' j' (fun z => hn (hl _ z (fun q => e2 (by cases q; rfl))))
  · rw [if_neg (by omega)]
    exact h.2 t' k' j' (fun z => hn (hl _ z (fun q => e1 (by cases q; rfl))))
theorem KN.putS {c : Nat → Nat} {l l' : List (Nat × Nat × Nat)} {S : ce_S} {t f j : Nat} (h : KN c l S) (hl : ∀ q ∈ l, q ≠ (t, f, j) → q ∈ l') : KN c l' (kS_putS S t f j) := h.put0 (fun _ => rfl) (fun _ _ _ => rfl) hl
theorem KN.putM {c : Nat → Nat} {l l' : List (Nat × Nat × Nat)} {S : ce_S} {t f j v : Nat} (h : KN c l S) (ht : t < 1000) (hl : ∀ q ∈ l, q ≠ (t, f, j) → q ∈ l') : KN c l' (kS_putM S t f j v) := h.put0 (fun _ => rfl) (fun t' k' j' => by
  have g : ∀ a b, ce_R (ce_sR S t f j v) (1000 + t') a b = ce_R S (1000 + t') a b := fun a b => by rw [r_R_sR, if_neg (by omega)]
  unfold kS_putM
  rw [r_R_sR]
  simp only [g]) hl
/-- nothing at all is unset -/
def kfu (S : ce_S) : Prop := ∀ t k j, ce_R S (1000 + t) k j = 0
theorem kfu_full {S : ce_S} (h : kfu S) : kfull S := fun t k i _ => h t k i
theorem KN.kfu {c : Nat → Nat} {S : ce_S} (h : KN c [] S) : kfu S := fun t k j => h.2 t k j (fun z => by cases z)
/-- only the cells of W change -/
def kg (W : Nat → Nat → Prop) (S S' : ce_S) : Prop := (∀ t j, t < 100 → ¬ W t j → (∀ k, ce_I S' t k j = ce_I S t k j) ∧ (∀ k, ce_R S' t k j = ce_R S t k j) ∧ (∀ e, ce_A S' t j e = ce_A S t j e) ∧ ce_L S' t j = ce_L S t j) ∧ (¬ W 5 0 → ce_Q S' = ce_Q S)
theorem kg.rf {W : Nat → Nat → Prop} {S : ce_S} : kg W S S := ⟨fun _ _ _ _ => ⟨fun _ => rfl, fun _ => rfl, fun _ => rfl, rfl⟩, fun _ => rfl⟩
theorem kg.tr {W : Nat → Nat → Prop} {S S' S'' : ce_S} (h : kg W S S') (g : kg W S' S'') : kg W S S'' := ⟨fun t j ht hw => ⟨fun k => ((g.1 t j ht hw).1 k).trans ((h.1 t j ht hw).1 k), fun k => ((g.1 t j ht hw).2.1 k).trans ((h.1 t j ht hw).2.1 k), fun e => ((g.1 t j ht hw).2.2.1 e).trans ((h.1 t j ht hw).2.2.1 e), ((g.1 t j ht hw).2.2.2).trans ((h.1 t j ht hw).2.2.2)⟩, fun hw => (g.2 hw).trans (h.2 hw)⟩
theorem kg.le {W W' : Nat → Nat → Prop} {S S' : ce_S} (h : kg W S S') (hW : ∀ t j, W t j → W' t j) : kg W' S S' := ⟨fun t j ht hw => h.1 t j ht (fun z => hw (hW _ _ z)), fun hw => h.2 (fun z => hw (hW _ _ z))⟩
theorem kg.new {W : Nat → Nat → Prop} {S S1 : ce_S} {t : Nat} (h : kg W S S1) (w : W t (ce_C S1 t)) : kg W S (kS_new S1 t) := h.tr ⟨fun t' j ht hw => ⟨fun k => (by
  show (if t' = t ∧ j = ce_C S1 t then 0 else ce_I S1 t' k j) = _
  rw [if_neg (fun q => hw (by rw [q.1, q.2]; exact w))]), fun k => (by
  show (if t' = 1000 + t ∧ j = ce_C S1 t then kref t k else ce_R S1 t' k j) = _
  rw [if_neg (fun q => by omega)]), fun _ => rfl, rfl⟩, fun _ => rfl⟩
theorem kg.row {W : Nat → Nat → Prop} {S S1 : ce_S} {t n : Nat} (h : kg W S S1) (w : W t (ce_C S1 t)) (w5 : t = 5 → W 5 0) : kg W S (kS_row S1 t n) := h.tr ⟨fun t' j ht hw => ⟨fun _ => rfl, fun k => (by
  show (if t' = 1000 + t ∧ j = ce_C S1 t then (if ce_so t = 2 ∧ ¬ t = 5 ∧ k < n then 1 else 0) else ce_R S1 t' k j) = _
  rw [if_neg (fun q => by omega)]), fun e => (by
  show (if t' = t ∧ j = ce_C S1 t then 0 else ce_A S1 t' j e) = _
  rw [if_neg (fun q => hw (by rw [q.1, q.2]; exact w))]), (by
  show (if t' = t ∧ j = ce_C S1 t then n else ce_L S1 t' j) = _
  rw [if_neg (fun q => hw (by rw [q.1, q.2]; exact w))])⟩, fun hw => funext fun e => (by
  show (if t = 5 then none else ce_Q S1 e) = ce_Q S1 e
  rw [if_neg (fun q => hw (w5 q))])⟩
theorem kg.putS {W : Nat → Nat → Prop} {S S1 : ce_S} {t f j : Nat} (h : kg W S S1) : kg W S (kS_putS S1 t f j) := h.tr ⟨fun t' j' ht hw => ⟨fun _ => rfl, fun k => (by
  unfold kS_putS
  rw [r_R_sR, if_neg (by omega)]), fun _ => rfl, rfl⟩, fun _ => rfl⟩
theorem kg.sR {W : Nat → Nat → Prop} {S S1 : ce_S} {t f j v : Nat} (h : kg W S S1) (w : W t j) : kg W S (ce_sR S1 t f j v) := h.tr ⟨fun t' j' ht hw => ⟨fun _ => rfl, fun k => (by
  rw [r_R_sR]
  by_cases e1 : t' = t
  · by_cases e2 : j' = j
    · exact absurd (by rw [e1, e2]; exact w) hw
    · simp only [if_neg e2, ite_self]
  · rw [if_neg e1]), fun _ => rfl, rfl⟩, fun _ => rfl⟩
theorem kg.putM {W : Nat → Nat → Prop} {S S1 : ce_S} {t f j v : Nat} (h : kg W S S1) (w : W t j) : kg W S (kS_putM S1 t f j v) := (h.sR (f := f) (v := v) w).putS
theorem kg.sI {W : Nat → Nat → Prop} {S S1 : ce_S} {t f j : Nat} {v : Int32} (h : kg W S S1) (w : W t j) : kg W S (ce_sI S1 t f j v) := h.tr ⟨fun t' j' ht hw => ⟨fun k => (by
  rw [r_I_sI]
  by_cases e1 : t' = t
  · by_cases e2 : j' = j
    · exact absurd (by rw [e1, e2]; exact w) hw
    · simp only [if_neg e2, ite_self]
  · rw [if_neg e1]), fun _ => rfl, fun _ => rfl, rfl⟩, fun _ => rfl⟩
theorem kg.sA {W : Nat → Nat → Prop} {S S1 : ce_S} {t j e : Nat} {v : Int32} (h : kg W S S1) (w : W t j) : kg W S (ce_sA S1 t j e v) := h.tr ⟨fun t' j' ht hw => ⟨fun _ => rfl, fun _ => rfl, fun k => (by
  rw [r_A_sA]
  by_cases e1 : t' = t
  · by_cases e2 : j' = j
    · exact absurd (by rw [e1, e2]; exact w) hw
    · simp only [if_neg e2, ite_self]
  · rw [if_neg e1]), rfl⟩, fun _ => rfl⟩
theorem kg.sF {W : Nat → Nat → Prop} {S S1 : ce_S} {t j : Nat} {f : Nat → Int32} (h : kg W S S1) (w : W t j) : kg W S (ce_sF S1 t j f) := h.tr ⟨fun t' j' ht hw => ⟨fun _ => rfl, fun _ => rfl, fun k => (by
  rw [r_A_sF]
  by_cases e1 : t' = t
  · by_cases e2 : j' = j
    · exact absurd (by rw [e1, e2]; exact w) hw
    · simp only [if_neg e2, ite_self]
  · rw [if_neg e1]), rfl⟩, fun _ => rfl⟩
theorem kg.sQ {W : Nat → Nat → Prop} {S S1 : ce_S} {e v : Nat} (h : kg W S S1) (w : W 5 0) : kg W S (ce_sQ S1 e v) := h.tr ⟨fun t' j' ht hw => ⟨fun _ => rfl, fun _ => rfl, fun _ => rfl, rfl⟩, fun hw => absurd w hw⟩
/-- both -/
def KW (W : Nat → Nat → Prop) (S0 : ce_S) (c : Nat → Nat) (l : List (Nat × Nat × Nat)) (S : ce_S) : Prop := KN c l S ∧ kg W S0 S
theorem KW.rf {W : Nat → Nat → Prop} {S : ce_S} {c : Nat → Nat} {l : List (Nat × Nat × Nat)} (h : KN c l S) : KW W S c l S := ⟨h, kg.rf⟩
theorem KW.new {W : Nat → Nat → Prop} {S0 : ce_S} {c c' : Nat → Nat} {l l' : List (Nat × Nat × Nat)} {S : ce_S} {t j : Nat} {ks : List Nat} (h : KW W S0 c l S) (w : W t j) (hj : c t = j) (hk : ∀ k, kref t k ≠ 0 → k ∈ ks) (hc : ∀ t', kcv c t (j + 1) t' = c' t') (hl : ∀ q ∈ ks.map (fun k => (t, k, j)) ++ l, q ∈ l') : KW W S0 c' l' (kS_new S t) := ⟨h.1.new hj hk hc hl, h.2.new (by rw [h.1.1, hj]; exact w)⟩
theorem KW.row {W : Nat → Nat → Prop} {S0 : ce_S} {c c' : Nat → Nat} {l l' : List (Nat × Nat × Nat)} {S : ce_S} {t j n : Nat} {ks : List Nat} (h : KW W S0 c l S) (w : W t j) (w5 : t = 5 → W 5 0) (hj : c t = j) (hk : ∀ k, (ce_so t = 2 ∧ ¬ t = 5 ∧ k < n) → k ∈ ks) (hc : ∀ t', kcv c t (j + 1) t' = c' t') (hl : ∀ q ∈ ks.map (fun k => (t, k, j)) ++ l, q ∈ l') : KW W S0 c' l' (kS_row S t n) := ⟨h.1.row hj hk hc hl, h.2.row (by rw [h.1.1, hj]; exact w) w5⟩
theorem KW.putS {W : Nat → Nat → Prop} {S0 : ce_S} {c : Nat → Nat} {l l' : List (Nat × Nat × Nat)} {S : ce_S} {t f j : Nat} (h : KW W S0 c l S) (hl : ∀ q ∈ l, q ≠ (t, f, j) → q ∈ l') : KW W S0 c l' (kS_putS S t f j) := ⟨h.1.putS hl, h.2.putS⟩
theorem KW.putM {W : Nat → Nat → Prop} {S0 : ce_S} {c : Nat → Nat} {l l' : List (Nat × Nat × Nat)} {S : ce_S} {t f j v : Nat} (h : KW W S0 c l S) (w : W t j) (ht : t < 1000) (hl : ∀ q ∈ l, q ≠ (t, f, j) → q ∈ l') : KW W S0 c l' (kS_putM S t f j v) := ⟨h.1.putM ht hl, h.2.putM w⟩
theorem KW.sI {W : Nat → Nat → Prop} {S0 : ce_S} {c : Nat → Nat} {l : List (Nat × Nat × Nat)} {S : ce_S} {t f j : Nat} {v : Int32} (h : KW W S0 c l S) (w : W t j) : KW W S0 c l (ce_sI S t f j v) := ⟨h.1.same (fun _ => rfl) (fun _ _ _ => rfl), h.2.sI w⟩
theorem KW.sA {W : Nat → Nat → Prop} {S0 : ce_S} {c : Nat → Nat} {l : List (Nat × Nat × Nat)} {S : ce_S} {t j e : Nat} {v : Int32} (h : KW W S0 c l S) (w : W t j) : KW W S0 c l (ce_sA S t j e v) := ⟨h.1.same (fun _ => rfl) (fun _ _ _ => rfl), h.2.sA w⟩
theorem KW.sF {W : Nat → Nat → Prop} {S0 : ce_S} {c : Nat → Nat} {l : List (Nat × Nat × Nat)} {S : ce_S} {t j : Nat} {f : Nat → Int32} (h : KW W S0 c l S) (w : W t j) : KW W S0 c l (ce_sF S t j f) := ⟨h.1.same (fun _ => rfl) (fun _ _ _ => rfl), h.2.sF w⟩
theorem KW.sQ {W : Nat → Nat → Prop} {S0 : ce_S} {c : Nat → Nat} {l : List (Nat × Nat × Nat)} {S : ce_S} {e v : Nat} (h : KW W S0 c l S) (w : W 5 0) : KW W S0 c l (ce_sQ S e v) := ⟨h.1.same (fun _ => rfl) (fun _ _ _ => rfl), h.2.sQ w⟩
/-- a run from here ends in Q -/
def Jg (tb : List ce_Op) (i : Nat) (nn : Nat × Nat) (ls : List (Option ce_V)) (st : List ce_V) (S : ce_S) (Q : Option ce_V → ce_S → Prop) : Prop := ∃ x S', ce_Ev tb i nn ls st S (x, S') ∧ Q x S'
section KEV
variable {tb : List ce_Op} {i i' : Nat} {nn nn' : Nat × Nat} {ls : List (Option ce_V)} {st : List ce_V} {S : ce_S} {Q : Option ce_V → ce_S → Prop} {c c' : Nat → Nat} {l l' : List (Nat × Nat × Nat)} {W : Nat → Nat → Prop} {S0 : ce_S}
theorem jg_op {ls' : List (Option ce_V)} {st' : List ce_V} {S' : ce_S} (h : ∀ k, (tb.getD i ce_bad) i nn ls st S k = k i' nn' ls' st' S') (g : Jg tb i' nn' ls' st' S' Q) : Jg tb i nn ls st S Q := by
  obtain ⟨x, S2, ⟨n, hn⟩, hq⟩ := g
  exact ⟨x, S2, ⟨n + 1, (h _).trans hn⟩, hq⟩
theorem jg_end {x : Option ce_V} {S' : ce_S} (h : ∀ k, (tb.getD i ce_bad) i nn ls st S k = some (x, S')) (q : Q x S') : Jg tb i nn ls st S Q := ⟨x, S', ⟨1, h _⟩, q⟩
theorem jg_sg {ls' : List (Option ce_V)} {st' : List ce_V} {S' : ce_S} (hT : ce_TL tb) (K : Nat) (h : ∀ kk, ce_sg tb [i'] K kk i nn ls st S = kk i' nn' ls' st' S') (g : Jg tb i' nn' ls' st' S' Q) : Jg tb i nn ls st S Q := by
  obtain ⟨x, S2, hn, hq⟩ := g
  exact ⟨x, S2, ce_by hT h (ce_kk_of hn), hq⟩
theorem jg_new {t ci N MC MS j : Nat} {ks : List Nat} (hK : KW W S0 c l S) (h : tb.getD i ce_bad = o_knew t ci N MC MS) (hi : i + 1 = i') (hn : (nn.1 + 1, nn.2 + N) = nn') (hj : c t = j) (hci : ce_ci t j = ci) (hk : ∀ k, kref t k ≠ 0 → k ∈ ks) (hm : nn.1 + 1 ≤ MC ∧ nn.2 + N ≤ MS) (w : W t j) (hc : ∀ t', kcv c t (j + 1) t' = c' t') (hl : ∀ q ∈ ks.map (fun k => (t, k, j)) ++ l, q ∈ l') (g : KW W S0 c' l' (kS_new S t) → Jg tb i' nn' ls (.inr (.inl (t, j)) :: st) (kS_new S t) Q) : Jg tb i nn ls st S Q := by
  subst hi; subst hn
  have e : ce_C S t = j := (hK.1.1 t).trans hj
  refine jg_op (fun k => ?_) (g (hK.new w hj hk hc hl))
  rw [h]
  unfold o_knew
  rw [e]
  exact if_pos ⟨hm, hci⟩
theorem jg_newa {t MC MS j n : Nat} {x : Int32} (hK : KW W S0 c l S) (h : tb.getD i ce_bad = o_knewa t MC MS) (hi : i + 1 = i') (hx : x.toNatClampNeg = n) (h0 : ¬ x < 0) (hn : (nn.1 + 1, nn.2 + n) = nn') (hj : c t = j) (hb : n ≤ 100000) (hs : (ce_sl t).getD n = n) (hso : ¬ ce_so t = 2) (hm : nn.1 + 1 ≤ MC ∧ nn.2 + n ≤ MS) (w : W t j) (hc : ∀ t', kcv c t (j + 1) t' = c' t') (g : KW W S0 c' l (kS_row S t n) → Jg tb i' nn' ls (.inr (.inl (t, j)) :: st) (kS_row S t n) Q) : Jg tb i nn ls (.inl x :: st) S Q := by
  subst hi; subst hn; subst hx
  have e : ce_C S t = j := (hK.1.1 t).trans hj
  refine jg_op (fun k => ?_) (g (hK.row (ks := []) w (fun z => absurd (by rw [z]; rfl) hso) hj (fun k q => absurd q.1 hso) hc (fun q hq => hq)))
  rw [h]
  unfold o_knewa
  simp only [e]
  exact if_pos ⟨⟨hm, h0⟩, hb, hs⟩
theorem jg_anew {t MC MS j n : Nat} {x : Int32} {ks : List Nat} (hK : KW W S0 c l S) (h : tb.getD i ce_bad = o_kanew t MC MS) (hi : i + 1 = i') (hx : x.toNatClampNeg = n) (h0 : ¬ x < 0) (hn : (nn.1 + 1, nn.2 + n) = nn') (hj : c t = j) (hb : n ≤ 100000) (hs : (ce_sl t).getD n = n) (h5 : t = 5 → j = 0) (hk : ∀ k, (ce_so t = 2 ∧ ¬ t = 5 ∧ k < n) → k ∈ ks) (hm : nn.1 + 1 ≤ MC ∧ nn.2 + n ≤ MS) (w : W t j) (hc : ∀ t', kcv c t (j + 1) t' = c' t') (hl : ∀ q ∈ ks.map (fun k => (t, k, j)) ++ l, q ∈ l') (g : KW W S0 c' l' (kS_row S t n) → Jg tb i' nn' ls (.inr (.inl (t, j)) :: st) (kS_row S t n) Q) : Jg tb i nn ls (.inl x :: st) S Q := by
  subst hi; subst hn; subst hx
  have e : ce_C S t = j := (hK.1.1 t).trans hj
  refine jg_op (fun k => ?_) (g (hK.row w (fun z => (by have z2 := h5 z; subst z; subst z2; exact w)) hj hk hc hl))
  rw [h]
  unfold o_kanew
  simp only [e]
  exact if_pos ⟨⟨⟨hm, h0⟩, hb, hs⟩, fun z => (by have z2 := h5 z; subst z; rw [e]; exact z2)⟩
theorem jg_getS {t f t' j r : Nat} {g0 : Nat → Nat} (hK : KW W S0 c l S) (h : tb.getD i ce_bad = o_kgetS t f t' g0) (hi : i + 1 = i') (hu : (t, f, j) ∉ l) (hj : j < c t) (hr : g0 j = r) (g : Jg tb i' nn ls (.inr (.inl (t', r)) :: st) S Q) : Jg tb i nn ls (.inr (.inl (t, j)) :: st) S Q := by
  subst hi; subst hr
  refine jg_op (fun k => ?_) g
  rw [h]
  exact if_pos ⟨rfl, hK.1.2 t f j hu⟩
theorem jg_putS {t f t' j r : Nat} {g0 : Nat → Nat} (hK : KW W S0 c l S) (h : tb.getD i ce_bad = o_kputS t f t' g0) (hi : i + 1 = i') (hr : g0 j = r) (hl : ∀ q ∈ l, q ≠ (t, f, j) → q ∈ l') (g : KW W S0 c l' (kS_putS S t f j) → Jg tb i' nn ls st (kS_putS S t f j) Q) : Jg tb i nn ls (.inr (.inl (t', r)) :: .inr (.inl (t, j)) :: st) S Q := by
  subst hi; subst hr
  refine jg_op (fun k => ?_) (g (hK.putS hl))
  rw [h]
  exact if_pos ⟨rfl, rfl, rfl⟩
theorem jg_putM {t f t' j r : Nat} (hK : KW W S0 c l S) (h : tb.getD i ce_bad = o_kputM t f t') (hi : i + 1 = i') (w : W t j) (ht : t < 1000) (hl : ∀ q ∈ l, q ≠ (t, f, j) → q ∈ l') (g : KW W S0 c l' (kS_putM S t f j r) → Jg tb i' nn ls st (kS_putM S t f j r) Q) : Jg tb i nn ls (.inr (.inl (t', r)) :: .inr (.inl (t, j)) :: st) S Q := by
  subst hi
  refine jg_op (fun k => ?_) (g (hK.putM w ht hl))
  rw [h]
  exact if_pos ⟨rfl, rfl⟩
theorem jg_putI {t f j : Nat} {x : Int32} (hK : KW W S0 c l S) (h : tb.getD i ce_bad = o_kputI t f) (hi : i + 1 = i') (w : W t j) (g : KW W S0 c l (ce_sI S t f j x) → Jg tb i' nn ls st (ce_sI S t f j x) Q) : Jg tb i nn ls (.inl x :: .inr (.inl (t, j)) :: st) S Q := by
  subst hi
  refine jg_op (fun k => ?_) (g (hK.sI w))
  rw [h]
  exact if_pos rfl
theorem jg_aast {t e j v n t' : Nat} {x : Int32} {g0 : Nat → Nat} (hK : KW W S0 c l S) (h : tb.getD i ce_bad = o_kaast t g0) (hi : i + 1 = i') (he : x.toNatClampNeg = e) (h0 : ¬ x < 0) (ht : t' = ce_et t) (hv : v = g0 e) (hs : ce_sl t = some n) (hb : e < n) (hl : ∀ q ∈ l, q ≠ (t, e, j) → q ∈ l') (g : KW W S0 c l' (kS_putS S t e j) → Jg tb i' nn ls st (kS_putS S t e j) Q) : Jg tb i nn ls (.inr (.inl (t', v)) :: .inl x :: .inr (.inl (t, j)) :: st) S Q := by
  subst hi; subst he
  refine jg_op (fun k => ?_) (g (hK.putS hl))
  rw [h]
  have hlen : ce_len S t j = n := by unfold ce_len; rw [hs]
  exact if_pos ⟨⟨rfl, ht, hv⟩, fun z => (by
    rcases z with z | z
    · exact h0 z
    · have z : ce_len S t j ≤ x.toNatClampNeg := z
      omega)⟩
theorem jg_aastQ {e v : Nat} {x : Int32} (hK : KW W S0 c l S) (h : tb.getD i ce_bad = o_kaastQ) (hi : i + 1 = i') (he : x.toNatClampNeg = e) (h0 : ¬ x < 0) (h5 : c 5 = 1) (hu : (5, e, 0) ∉ l) (hb : e < 6) (w : W 5 0) (g : KW W S0 c l (ce_sQ S e v) → Jg tb i' nn ls st (ce_sQ S e v) Q) : Jg tb i nn ls (.inr (.inl (13, v)) :: .inl x :: .inr (.inl (5, 0)) :: st) S Q := by
  subst hi; subst he
  refine jg_op (fun k => ?_) (g (hK.sQ w))
  rw [h]
  exact if_pos ⟨⟨⟨rfl, rfl⟩, (hK.1.1 5).trans h5, hK.1.2 5 _ 0 hu⟩, fun z => (by
    rcases z with z | z
    · exact h0 z
    · have z : 6 ≤ x.toNatClampNeg := z
      omega)⟩
theorem jg_ald {t e j r n t' : Nat} {x : Int32} {g0 : Nat → Nat} (hK : KW W S0 c l S) (h : tb.getD i ce_bad = o_kald t t' g0) (hi : i + 1 = i') (he : x.toNatClampNeg = e) (h0 : ¬ x < 0) (hr : g0 e = r) (hs : ce_sl t = some n) (hb : e < n) (hu : (t, e, j) ∉ l) (hj : j < c t) (g : Jg tb i' nn ls (.inr (.inl (t', r)) :: st) S Q) : Jg tb i nn ls (.inl x :: .inr (.inl (t, j)) :: st) S Q := by
  subst hi; subst he; subst hr
  refine jg_op (fun k => ?_) g
  rw [h]
  have hlen : ce_len S t j = n := by unfold ce_len; rw [hs]
  exact if_pos ⟨⟨rfl, hK.1.2 t _ j hu⟩, fun z => (by
    rcases z with z | z
    · exact h0 z
    · have z : ce_len S t j ≤ x.toNatClampNeg := z
      omega)⟩
theorem jg_aldQ {e v : Nat} {x : Int32} (hK : KW W S0 c l S) (h : tb.getD i ce_bad = o_kaldQ) (hi : i + 1 = i') (he : x.toNatClampNeg = e) (h0 : ¬ x < 0) (h5 : c 5 = 1) (hu : (5, e, 0) ∉ l) (hb : e < 6) (hQ : ce_Q S e = some v) (g : Jg tb i' nn ls (.inr (.inl (13, v)) :: st) S Q) : Jg tb i nn ls (.inl x :: .inr (.inl (5, 0)) :: st) S Q := by
  subst hi; subst he
  have hel : ce_elK S 5 0 x.toNatClampNeg = some v := by
    unfold ce_elK
    rw [if_pos (hK.1.2 5 _ 0 hu)]
    exact hQ
  refine jg_op (fun k => ?_) g
  rw [h]
  refine (if_pos ⟨⟨rfl, (by
    show ce_elK S 5 0 x.toNatClampNeg ≠ none
    rw [hel]; exact fun z => by cases z)⟩, fun z => (by
    rcases z with z | z
    · exact h0 z
    · have z : 6 ≤ x.toNatClampNeg := z
      omega)⟩).trans ?_
  rw [hel]
  rfl
theorem jg_kinit {q : Nat × Nat} (h : tb.getD i ce_bad = o_kinit) (hi : i + 1 = i') (hl : st.length ≤ 4) (g : Jg tb i' nn ls st S Q) : Jg tb i nn ls (.inr (.inl q) :: st) S Q := by
  subst hi
  refine jg_op (fun k => ?_) g
  rw [h]
  exact if_pos hl
theorem jg_cv {n mc ms MC MS : Nat} {F : List ce_V → ce_S → Option ce_S} {a rest : List ce_V} {S' : ce_S} (h : tb.getD i ce_bad = o_cv n F mc ms MC MS) (hi : i + 1 = i') (hn : (nn.1 + mc, nn.2 + ms) = nn') (ha : (st.take n).reverse = a) (hd : st.drop n = rest) (hF : F a S = some S') (hm : nn.1 + mc ≤ MC ∧ nn.2 + ms ≤ MS ∧ (st.drop n).length ≤ 4 ∧ n ≤ st.length) (g : Jg tb i' nn' ls rest S' Q) : Jg tb i nn ls st S Q := by
  subst hi; subst hn; subst ha; subst hd
  refine jg_op (fun k => ?_) g
  rw [h]
  unfold o_cv
  rw [ce_bc, if_pos hm, hF]
  rfl
theorem jg_cr {n t mc ms MC MS v : Nat} {F : List ce_V → ce_S → Option (Nat × ce_S)} {a rest : List ce_V} {S' : ce_S} (h : tb.getD i ce_bad = o_cr n t F mc ms MC MS) (hi : i + 1 = i') (hn : (nn.1 + mc, nn.2 + ms) = nn') (ha : (st.take n).reverse = a) (hd : st.drop n = rest) (hF : F a S = some (v, S')) (hm : nn.1 + mc ≤ MC ∧ nn.2 + ms ≤ MS ∧ (st.drop n).length ≤ 4 ∧ n ≤ st.length) (g : Jg tb i' nn' ls (.inr (.inl (t, v)) :: rest) S' Q) : Jg tb i nn ls st S Q := by
  subst hi; subst hn; subst ha; subst hd
  refine jg_op (fun k => ?_) g
  rw [h]
  unfold o_cr
  rw [ce_bc, if_pos hm, hF]
  rfl
theorem jg_kp {P : Nat → Bool} {n : Nat} {F : List ce_V → ce_S → ce_Rs} {a rest st' : List ce_V} {r : Option ce_V} {S1 : ce_S} (h : tb.getD i ce_bad = o_kp P n F) (hi : i + 1 = i') (ha : (st.take n).reverse = a) (hd : st.drop n = rest) (hF : F a (ksub S P) = some (r, S1)) (hm : (st.drop n).length ≤ 4 ∧ n ≤ st.length) (hp : kpre P S S1 a) (hr : r.toList ++ rest = st') {S2 : ce_S} (h2 : kjoin S S1 = S2) (g : Jg tb i' nn ls st' S2 Q) : Jg tb i nn ls st S Q := by
  subst hi; subst ha; subst hd; subst hr; subst h2
  refine jg_op (fun k => ?_) g
  rw [h]
  unfold o_kp
  rw [hF, Option.bind_some]
  exact if_pos ⟨hm, hp⟩
theorem jg_ist {t e j n : Nat} {x v : Int32} (hK : KW W S0 c l S) (h : tb.getD i ce_bad = o_ist t) (hi : i + 1 = i') (he : x.toNatClampNeg = e) (h0 : ¬ x < 0) (hs : ce_len S t j = n) (hb : e < n) (w : W t j) (g : KW W S0 c l (ce_sA S t j e v) → Jg tb i' nn ls st (ce_sA S t j e v) Q) : Jg tb i nn ls (.inl v :: .inl x :: .inr (.inl (t, j)) :: st) S Q := by
  subst hi; subst he
  refine jg_op (fun k => ?_) (g (hK.sA w))
  rw [h]
  unfold o_ist
  simp only
  rw [ce_bt, if_pos rfl]
  exact if_neg (fun z => by
    rcases z with z | z
    · exact h0 z
    · have z : ce_len S t j ≤ x.toNatClampNeg := z
      omega)
theorem jg_copy {t t' j j' : Nat} {n dp sp : Int32} (hK : KW W S0 c l S) (h : tb.getD i ce_bad = o_copy t t') (hi : i + 1 = i') (w : W t' j') (hb : ¬ sp < 0 ∧ ¬ dp < 0 ∧ ¬ n < 0 ∧ sp.toNatClampNeg + n.toNatClampNeg ≤ ce_len S t j ∧ dp.toNatClampNeg + n.toNatClampNeg ≤ ce_len S t' j' ∧ st.length ≤ 4) (g : KW W S0 c l (ce_sF S t' j' (va_cpy (ce_A S t j) (ce_A S t' j') sp.toNatClampNeg dp.toNatClampNeg n.toNatClampNeg)) → Jg tb i' nn ls st (ce_sF S t' j' (va_cpy (ce_A S t j) (ce_A S t' j') sp.toNatClampNeg dp.toNatClampNeg n.toNatClampNeg)) Q) : Jg tb i nn ls (.inl n :: .inl dp :: .inr (.inl (t', j')) :: .inl sp :: .inr (.inl (t, j)) :: st) S Q := by
  subst hi
  refine jg_op (fun k => ?_) (g (hK.sF w))
  rw [h]
  exact if_pos ⟨rfl, rfl, hb⟩
theorem jg_iinc {jj : Nat} {x d x' : Int32} {ls' : List (Option ce_V)} (h : tb.getD i ce_bad = o_iinc jj d) (hi : i + 1 = i') (hx : ls.getD jj none = some (.inl x)) (hd : x + d = x') (hl : ls.set jj (some (.inl x')) = ls') (g : Jg tb i' nn ls' st S Q) : Jg tb i nn ls st S Q := by
  subst hi; subst hd; subst hl
  refine jg_op (fun k => ?_) g
  rw [h]
  unfold o_iinc
  rw [hx]
  simp only
  rw [q_add_eq]
theorem jg_cmplt_t {t : Nat} {x y : Int32} (h : tb.getD i ce_bad = o_cmplt t) (hc : x < y) (g : Jg tb t nn ls st S Q) : Jg tb i nn ls (.inl y :: .inl x :: st) S Q := by
  refine jg_op (fun k => ?_) g
  rw [h]
  exact if_pos hc
theorem jg_cmplt_f {t : Nat} {x y : Int32} (h : tb.getD i ce_bad = o_cmplt t) (hi : i + 1 = i') (hc : ¬ x < y) (g : Jg tb i' nn ls st S Q) : Jg tb i nn ls (.inl y :: .inl x :: st) S Q := by
  subst hi
  refine jg_op (fun k => ?_) g
  rw [h]
  exact if_neg hc
theorem jg_cmpeq_t {t : Nat} {x y : Int32} (h : tb.getD i ce_bad = o_cmpeq t) (hc : x = y) (g : Jg tb t nn ls st S Q) : Jg tb i nn ls (.inl y :: .inl x :: st) S Q := by
  refine jg_op (fun k => ?_) g
  rw [h]
  exact if_pos hc
theorem jg_cmpeq_f {t : Nat} {x y : Int32} (h : tb.getD i ce_bad = o_cmpeq t) (hi : i + 1 = i') (hc : ¬ x = y) (g : Jg tb i' nn ls st S Q) : Jg tb i nn ls (.inl y :: .inl x :: st) S Q := by
  subst hi
  refine jg_op (fun k => ?_) g
  rw [h]
  exact if_neg hc
theorem jg_cmpge_t {t : Nat} {x y : Int32} (h : tb.getD i ce_bad = o_cmpge t) (hc : y ≤ x) (g : Jg tb t nn ls st S Q) : Jg tb i nn ls (.inl y :: .inl x :: st) S Q := by
  refine jg_op (fun k => ?_) g
  rw [h]
  exact if_pos hc
theorem jg_cmpge_f {t : Nat} {x y : Int32} (h : tb.getD i ce_bad = o_cmpge t) (hi : i + 1 = i') (hc : ¬ y ≤ x) (g : Jg tb i' nn ls st S Q) : Jg tb i nn ls (.inl y :: .inl x :: st) S Q := by
  subst hi
  refine jg_op (fun k => ?_) g
  rw [h]
  exact if_neg hc
end KEV
/-- a method's function, out of such a run -/
theorem fV_jg {tb : List ce_Op} {nL : Nat} {t : Option Nat} {a : List ce_V} {S : ce_S} {Q : ce_S → Prop} (hT : ce_TL tb) (hg : ce_gd t nL a) (h : Jg tb 0 (0, 0) (ce_ls nL a) [] S (fun x S' => x = none ∧ Q S')) : ∃ S', ce_fV tb nL t a S = some S' ∧ Q S' := by
  obtain ⟨x, S', h1, h2, h3⟩ := h
  subst h2
  exact ⟨S', ce_fV_eq hT hg h1, h3⟩
theorem fI_jg {tb : List ce_Op} {nL : Nat} {t : Option Nat} {a : List ce_V} {S : ce_S} {Q : Int32 → ce_S → Prop} (hT : ce_TL tb) (hg : ce_gd t nL a) (h : Jg tb 0 (0, 0) (ce_ls nL a) [] S (fun x S' => ∃ v, x = some (.inl v) ∧ Q v S')) : ∃ v S', ce_fI tb nL t a S = some (v, S') ∧ Q v S' := by
  obtain ⟨x, S', h1, v, h2, h3⟩ := h
  subst h2
  exact ⟨v, S', ce_fI_eq hT hg h1, h3⟩
theorem fR_jg {tb : List ce_Op} {nL rt : Nat} {t : Option Nat} {a : List ce_V} {S : ce_S} {Q : Nat → ce_S → Prop} (hT : ce_TL tb) (hg : ce_gd t nL a) (h : Jg tb 0 (0, 0) (ce_ls nL a) [] S (fun x S' => ∃ v, x = some (.inr (.inl (rt, v))) ∧ Q v S')) : ∃ v S', ce_fR tb nL t rt a S = some (v, S') ∧ Q v S' := by
  obtain ⟨x, S', h1, v, h2, h3⟩ := h
  subst h2
  exact ⟨v, S', ce_fR_eq hT hg h1, h3⟩
