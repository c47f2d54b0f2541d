/-! the K-machine: calls of plain methods, on a part of the cells -/
def kpre (P : Nat → Bool) (S S1 : ce_S) (a : List ce_V) : Prop := kfullP S P (ce_C S) ∧ ce_okS (ksub S P) ∧ ce_okT (ksub S P) a ∧ (P 61 = true ∧ P 62 = true) ∧ (∀ t, ce_C S1 t = ce_C (ksub S P) t) ∧ kothers S S1 P ∧ kfullP S1 P (ce_C S)
noncomputable def o_kp (P : Nat → Bool) (n : Nat) (F : List ce_V → ce_S → ce_Rs) : ce_Op := fun i nn ls st S k => (F (st.take n).reverse (ksub S P)).bind fun q => @ite _ (((st.drop n).length ≤ 4 ∧ n ≤ st.length) ∧ kpre P S q.2 (st.take n).reverse) (Classical.propDecidable _) (k (i + 1) nn ls (q.1.toList ++ st.drop n) (kjoin S q.2)) none
theorem o_kp_of {P : Nat → Bool} {n i : Nat} {F : List ce_V → ce_S → ce_Rs} {nn : Nat × Nat} {ls : List (Option ce_V)} {st : List ce_V} {S : ce_S} {k : ce_K} {res : Option ce_V × ce_S} (h : o_kp P n F i nn ls st S k = some res) : ∃ r S1, F (st.take n).reverse (ksub S P) = some (r, S1) ∧ ((st.drop n).length ≤ 4 ∧ n ≤ st.length) ∧ kpre P S S1 (st.take n).reverse ∧ k (i + 1) nn ls (r.toList ++ st.drop n) (kjoin S S1) = some res := by
  unfold o_kp at h
  cases hF : F (st.take n).reverse (ksub S P) with
  | none => rw [hF] at h; cases h
  | some q =>
    rw [hF, Option.bind_some] at h
    by_cases hc : ((st.drop n).length ≤ 4 ∧ n ≤ st.length) ∧ kpre P S q.2 (st.take n).reverse
    · rw [if_pos hc] at h
      exact ⟨q.1, q.2, rfl, hc.1, hc.2, h⟩
    · rw [if_neg hc] at h; cases h
theorem kp_call {p : Program} {l : Launch} {e : Env} {R : Room} {s : State} {m : MethodId} {args : Array Value} {below : List Frame} {meth : Method} {c : Code} {H : Heap} {locs : List Loc} {cells slots pc : Nat} {Q : State → Prop} {rls : Array Slot} {rest st0 : List Value} {av : Array Value} {D : va_G} {ca : Nat → ClassId} {b0 b1 : Nat → Prop} {ad : Nat → Nat → Nat} {S : ce_S} {res : Option ce_V × ce_S}
    (hr : va_Run p l e R s m args below meth c H locs cells slots 0 0 (F0 m pc rls st0) rest (ce_Po D ca b1 ad S res av) (fun q => b1 q)) (hS : va_S (fun q => b0 q) s.heap H locs) (hb1 : ∀ q, b1 q → b0 q)
    (kk : ∀ (ad' : Nat → Nat → Nat) (H1 : Heap) (locs1 : List Loc), ce_ag S ad res.2 ad' → ce_okS res.2 → (∀ v, res.1 = some v → ce_okV res.2 v) → ce_H D ca b1 ad' res.2 H1 → H.size ≤ H1.size → (∀ q : Nat, q < H.size → ¬ b1 q → H1[q]? = H[q]?) → va_S (fun q => b0 q) s.heap H1 locs1 → W p l e R s m args below meth c H1 locs1 cells slots Q (F0 m (pc + 3) rls ((res.1.map (ce_val ad')).toList ++ rest))) : W p l e R s m args below meth c H locs cells slots Q (F0 m pc rls st0) := by
  intro T hT X
  obtain ⟨v, st₀, t, T', L, h0, X', hL, e1, e2, ⟨ad', h1, h2, h3, h4, h5, hz, hk⟩, st⟩ := hr T hT X
  cases h2
  rw [h0] at hz hk
  obtain ⟨t2, a1, b1⟩ := kk ad' T'.heap (locs ++ L) h1 h3 h4 (by rw [e1]; exact h5) (by rw [e1]; exact hz) (fun q g1 g2 => by rw [e1, hk q g1 g2])
    ⟨Nat.le_trans hS.1 (by rw [e1]; exact hz), fun q g1 g2 => by rw [e1, hk q (Nat.lt_of_lt_of_le g1 hS.1) (fun z => g2 (hb1 q z))]; exact hS.2.1 q g1 g2, fun q hq => by
      rcases List.mem_append.mp hq with h | h
      · exact hS.2.2 q h
      · exact hb1 _ (hL q h)⟩ T' rfl X'
  exact ⟨t2, st t2 a1, b1⟩
/-- what a part's cells want at a call -/
theorem kp_pre {D : va_G} {ca : Nat → ClassId} {b0 : Nat → Prop} {ad0 : Nat → Nat → Nat} {S0 : ce_S} {ad : Nat → Nat → Nat} {s : State} {H : Heap} {locs : List Loc} {rls : Array Slot} {nL : Nat} {ls : List (Option ce_V)} {S : ce_S} {P : Nat → Bool} (hG : ce_GK D ca s) (h61 : ce_61 S0) (hX : ce_X ad0 b0 s) (hR : ce_RelK D ca b0 ad0 S0 ad s H locs rls nL ls S) (hf : kfullP S P (ce_C S)) : ∀ U : State, U.heap = H → s.WarmedH U.vm → ce_Pre D ca (kb b0 ad S P) ad (ksub S P) U := fun U hU hW => by
  obtain ⟨g1, g2, g3⟩ := ce_preK hG h61 hX hR U hU hW
  exact ⟨g1.1, ksub_X g2 (fun t i hi ht => (g3.1 t i hi ht).2.2), ksub_H g3 hf⟩
/-- what is put together behind the call -/
theorem kp_after {l : Launch} {cc : ByteArray} {own : String} {nL : Nat} {rt : Option FieldType} {d MC MS : Nat} {pcs : List Nat} {i pc n : Nat} {nn : Nat × Nat} {ls : List (Option ce_V)} {st : List ce_V} {S S1 : ce_S} {P : Nat → Bool} {k : ce_K} {res : Option ce_V × ce_S} {r : Option ce_V} {p : Program} {e : Env} {s : State} {m : MethodId} {args : Array Value} {below : List Frame} {meth : Method} {c : Code} {D : va_G} {ca : Nat → ClassId} {b0 : Nat → Prop} {ad0 : Nat → Nat → Nat} {S0 : ce_S} {ad : Nat → Nat → Nat} {H : Heap} {locs : List Loc} {rls : Array Slot} {av : Array Value}
    (hp' : pcs.getD (i + 1) 0 = pc + 3) (hk : ∀ i' nn' ls' st' S', k i' nn' ls' st' S' = some res → ce_WnK l cc own nL rt d MC MS pcs res i' nn' ls' st' S') (hC : ce_CxK p s m args meth c cc own nL rt D ca) (h61 : ce_61 S0) (hX : ce_X ad0 b0 s) (hR : ce_RelK D ca b0 ad0 S0 ad s H locs rls nL ls S) (hTr : ce_okT S (st.drop n)) (a1 : nn.1 ≤ MC) (a2 : nn.2 ≤ MS) (hpre : kpre P S S1 (st.take n).reverse) (hk2 : k (i + 1) nn ls (r.toList ++ st.drop n) (kjoin S S1) = some res)
    (hr : va_Run p l e (ce_rm d MC MS) s m args below meth c H locs nn.1 nn.2 0 0 (F0 m pc rls (st.map (ce_val ad))) ((st.drop n).map (ce_val ad)) (ce_Po D ca (kb b0 ad S P) ad (ksub S P) (r, S1) av) (fun q => kb b0 ad S P q)) : W p l e (ce_rm d MC MS) s m args below meth c H locs nn.1 nn.2 (MQ below (ce_PoK D ca b0 ad0 S0 res) args s MC MS (fun q => b0 q)) (F0 m pc rls (st.map (ce_val ad))) := by
  obtain ⟨p1, p2, p3, p4, p5, p6, p7⟩ := hpre
  refine kp_call hr hR.2.1 (fun q hq => hq.1) (fun ad' H1 locs1 k1 k2 k3 k4 kz kf k5 => ?_)
  obtain ⟨j1, j2⟩ := kjoin_H hR.1 hR.2.2.2.1 p5 p6 p7 k2 k1 k4 kz kf
  have w := hk _ _ _ _ _ hk2 p e s m args below meth c D ca b0 ad0 S0 ad H1 locs1 rls hC h61 hX ⟨j1, k5, hR.2.2.1, j2, ce_okL_kept (fun _ => rfl) hR.2.2.2.2.1, ce_ag_kept (fun _ => rfl) hR.2.2.2.2.2⟩ (fun v hv => by
    rcases List.mem_append.mp hv with q | q
    · have h := k3 v (Option.mem_toList.mp q)
      match v, h with
      | .inl x, _ => trivial
      | .inr (.inl z), h =>
        have h : z.2 < ce_C S1 z.1 := h
        rw [p5] at h
        exact (ksub_C h).2
      | .inr (.inr x), _ => trivial
    · exact hTr v q) a1 a2
  rw [hp', List.map_append] at w
  have e : (Option.map (ce_val ad') r).toList = r.toList.map (ce_val ad) := by
    cases r with
    | none => rfl
    | some v =>
      show [ce_val ad' v] = [ce_val ad v]
      have h := k3 v rfl
      match v, h with
      | .inl x, _ => rfl
      | .inr (.inl z), h =>
        have h : z.2 < ce_C S1 z.1 := h
        rw [p5] at h
        exact congrArg (fun y => [Value.ref y]) (k1 z.1 z.2 h).1
      | .inr (.inr x), _ => rfl
  show W _ _ _ _ _ _ _ _ _ _ _ _ _ _ _ (F0 m (pc + 3) rls ((Option.map (ce_val ad') r).toList ++ _))
  rw [e]
  exact w
