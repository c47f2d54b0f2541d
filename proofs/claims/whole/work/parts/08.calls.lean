/-! contracts, and calls by them -/
def ce_Pre (D : va_G) (ca : Nat → ClassId) (b0 : Nat → Prop) (ad : Nat → Nat → Nat) (S : ce_S) (U : State) : Prop := ce_G D ca U ∧ ce_X ad b0 U ∧ ce_H D ca b0 ad S U.heap
def ce_Ctr (l : Launch) (y : MethodName) (cc : ByteArray) (nL : Nat) (rt : Option FieldType) (d MC MS : Nat) (F : List ce_V → ce_S → ce_Rs) : Prop :=
  ∀ (D : va_G) (ca : Nat → ClassId) (b0 : Nat → Prop) (ad : Nat → Nat → Nat) (S : ce_S) (a : List ce_V) (res : Option ce_V × ce_S), F a S = some res → ce_okS S → ce_okT S a → ce_61 S →
    Met l y (Cond.code y cc nL rt :: ce_tw) (ce_rm d MC MS) (va_Pc (a.map (ce_val ad)) (ce_Pre D ca b0 ad S)) (ce_Po D ca b0 ad S res) MC MS (fun q => b0 q)
theorem ce_blind {D : va_G} {ca : Nat → ClassId} {b0 : Nat → Prop} {ad : Nat → Nat → Nat} {S : ce_S} {av : List Value} : FrameBlind (va_Pc av (ce_Pre D ca b0 ad S)) := by
  intro a U g mk h
  exact ⟨h.1, h.2.1.same rfl, h.2.2.1.same rfl rfl, h.2.2.2⟩
theorem ce_args_lv {ad : Nat → Nat → Nat} {nL : Nat} {a : List ce_V} (hc : ∀ v ∈ a, (ce_val ad v).category = 1) (hn : a.length ≤ nL) : ce_lv ad ((lg_sl (a.map (ce_val ad)) ++ List.replicate (nL - (lg_sl (a.map (ce_val ad))).length) Slot.unset).toArray) nL (a.map some ++ List.replicate (nL - a.length) none) := by
  have hs : ∀ (b : List ce_V), (∀ v ∈ b, (ce_val ad v).category = 1) → lg_sl (b.map (ce_val ad)) = b.map (fun v => Slot.val (ce_val ad v)) := by
    intro b
    induction b with
    | nil => intro _; rfl
    | cons v r ih =>
      intro h
      have h1 := ih (fun w hw => h w (List.mem_cons_of_mem _ hw))
      have h2 := h v List.mem_cons_self
      unfold lg_sl at h1 ⊢
      rw [List.map_cons, List.flatMap_cons, h1, if_neg (by rw [h2]; decide)]
      rfl
  have hl : (lg_sl (a.map (ce_val ad))).length = a.length := by rw [hs a hc, List.length_map]
  obtain ⟨h1, h2, -⟩ := lv_entry (a.map (ce_val ad)) (n := nL) (by rw [hl]; exact hn)
  refine ⟨h1, h2, by simp; omega, fun j v hv => ?_⟩
  have hj : j < a.length := by
    rcases Nat.lt_or_ge j a.length with q | q
    · exact q
    · rw [List.getElem?_append_right (by simpa using q), List.getElem?_replicate] at hv
      split at hv <;> cases hv
  rw [List.getElem?_append_left (by simpa using hj), List.getElem?_map, List.getElem?_eq_getElem hj] at hv
  have hv2 : a[j] = v := by simpa using hv
  subst hv2
  refine ⟨?_, hc _ (List.getElem_mem hj)⟩
  rw [List.getElem?_toArray, List.getElem?_append_left (by rw [hl]; exact hj), hs a hc, List.getElem?_map, List.getElem?_eq_getElem hj]
  rfl
/-- a method's contract, by a run of its steps -/
theorem ce_ctr_of {l : Launch} {y : MethodName} {cc : ByteArray} {nL : Nat} {rt : Option FieldType} {d MC MS : Nat} {pcs : List Nat} {tb : List ce_Op} {F : List ce_V → ce_S → ce_Rs} (hy : plainName y.cls = true) (h0 : pcs.getD 0 0 = 0) (hok : ce_OkL l cc y.cls nL rt d MC MS pcs 0 tb)
    (hF : ∀ (a : List ce_V) (S : ce_S) (res : Option ce_V × ce_S), F a S = some res → a.length ≤ nL ∧ (∀ v ∈ a, ∀ x, v ≠ .inr (.inr x)) ∧ ∃ n, ce_run tb n 0 (0, 0) (a.map some ++ List.replicate (nL - a.length) none) [] S = some res) : ce_Ctr l y cc nL rt d MC MS F := by
  intro D ca b0 ad S a res hf hS hT h61
  obtain ⟨hn, hc, n, hr⟩ := hF a S res hf
  refine Met.ofW (cc := cc) (maxL := nL) (ret := rt) hy rfl ?_
  intro p e s m args below meth c s₁ B hml hv
  obtain ⟨rfl, hG, hX, hH⟩ := hv
  have hts := atoms_spec (ws := Cond.code y cc nL rt :: ce_tw) B.pre
  have hown : s.vm.findClass y.cls = some m.cls := findClass_of_methodNamed B.named
  have hcat : ∀ v ∈ a, (ce_val ad v).category = 1 := by
    intro v hv
    have := hc v hv
    match v, this with
    | .inl x, _ => rfl
    | .inr (.inl q), _ => rfl
    | .inr (.inr x), h => exact absurd rfl (h x)
  rw [lg_entry_eq]
  have w := ce_run_ok hok n 0 (0, 0) _ [] S res hr p e s m _ below meth c D ca b0 ad S ad s.heap [] _ ⟨B.exec, B.bytes, hml, hown, ⟨_, hts⟩, B.returns, B.notSynchronized, hG⟩ h61 hX ⟨hH, va_S.rf, ce_args_lv hcat hn, hS, fun j v hj => ?_, ce_ag.refl⟩ (fun v hv => by cases hv) (Nat.zero_le _) (Nat.zero_le _)
  · rw [h0] at w
    exact w
  · have hjl : j < a.length := by
      rcases Nat.lt_or_ge j a.length with q | q
      · exact q
      · rw [List.getElem?_append_right (by simpa using q), List.getElem?_replicate] at hj
        split at hj <;> cases hj
    rw [List.getElem?_append_left (by simpa using hjl), List.getElem?_map, List.getElem?_eq_getElem hjl] at hj
    have hv2 : a[j] = v := by simpa using hj
    subst hv2
    exact hT _ (List.getElem_mem hjl)
/-- behind a call -/
theorem ce_call {p : Program} {l : Launch} {e : Env} {R : Room} {s : State} {m : MethodId} {args : Array Value} {below : List Frame} {meth : Method} {c : Code} {H : Heap} {locs : List Loc} {cells slots mc ms pc : Nat} {Q : State → Prop} {rls : Array Slot} {rest st0 : List Value} {av : Array Value} {D : va_G} {ca : Nat → ClassId} {b0 : Nat → Prop} {ad : Nat → Nat → Nat} {S : ce_S} {res : Option ce_V × ce_S}
    (hr : va_Run p l e R s m args below meth c H locs cells slots mc ms (F0 m pc rls st0) rest (ce_Po D ca b0 ad S res av) (fun q => b0 q)) (hS : va_S (fun q => b0 q) s.heap H locs)
    (kk : ∀ (ad' : Nat → Nat → Nat) (H1 : Heap) (locs1 : List Loc), ce_ag S ad res.2 ad' → ce_okS res.2 → (∀ v, res.1 = some v → ce_okV res.2 v) → ce_H D ca b0 ad' res.2 H1 → va_S (fun q => b0 q) s.heap H1 locs1 → W p l e R s m args below meth c H1 locs1 (cells + mc) (slots + ms) Q (F0 m (pc + 3) rls ((res.1.map (ce_val ad')).toList ++ rest))) : W p l e R s m args below meth c H locs cells slots Q (F0 m pc rls st0) := by
  intro T hT X
  obtain ⟨v, st₀, t, T', L, h0, X', hL, e1, e2, ⟨ad', h1, h2, h3, h4, h5, hz, hk⟩, st⟩ := hr T hT X
  cases h2
  rw [h0] at hz hk
  obtain ⟨t2, a1, b1⟩ := kk ad' T'.heap (locs ++ L) h1 h3 h4 (by rw [e1]; exact h5)
    ⟨Nat.le_trans hS.1 (by rw [e1]; exact hz), fun q g1 g2 => by rw [e1, hk q (Nat.lt_of_lt_of_le g1 hS.1) g2]; exact hS.2.1 q g1 g2, fun q hq => by
      rcases List.mem_append.mp hq with h | h
      · exact hS.2.2 q h
      · exact hL q h⟩ T' rfl X'
  exact ⟨t2, st t2 a1, b1⟩
theorem ce_val_ag {S S' : ce_S} {ad ad' : Nat → Nat → Nat} (h : ce_ag S ad S' ad') {v : ce_V} (hv : ce_okV S v) : ce_val ad' v = ce_val ad v := by
  match v, hv with
  | .inl x, _ => rfl
  | .inr (.inl q), hv => exact congrArg Value.ref (h q.1 q.2 hv).1
  | .inr (.inr x), _ => rfl
theorem ce_okV_ag {S S' : ce_S} {ad ad' : Nat → Nat → Nat} (h : ce_ag S ad S' ad') {v : ce_V} (hv : ce_okV S v) : ce_okV S' v := by
  match v, hv with
  | .inl x, _ => trivial
  | .inr (.inl q), hv => exact (h q.1 q.2 hv).2
  | .inr (.inr x), _ => trivial
theorem ce_map_ag {S S' : ce_S} {ad ad' : Nat → Nat → Nat} (h : ce_ag S ad S' ad') {st : List ce_V} (hv : ce_okT S st) : st.map (ce_val ad') = st.map (ce_val ad) := List.map_congr_left (fun v hq => ce_val_ag h (hv v hq))
theorem ce_lv_ag {S S' : ce_S} {ad ad' : Nat → Nat → Nat} (h : ce_ag S ad S' ad') {rls : Array Slot} {nL : Nat} {ls : List (Option ce_V)} (hl : ce_lv ad rls nL ls) (ho : ce_okL S ls) : ce_lv ad' rls nL ls := ⟨hl.1, hl.2.1, hl.2.2.1, fun j v hj => by rw [ce_val_ag h (ho j v hj)]; exact hl.2.2.2 j v hj⟩
theorem ce_ag.trans {S0 S S' : ce_S} {ad0 ad ad' : Nat → Nat → Nat} (h0 : ce_ag S0 ad0 S ad) (h : ce_ag S ad S' ad') : ce_ag S0 ad0 S' ad' := fun t i hi => by
  obtain ⟨g1, g2⟩ := h0 t i hi
  obtain ⟨k1, k2⟩ := h t i g2
  exact ⟨k1.trans g1, k2⟩
/-- what a calling step does, whatever comes back -/
def ce_isC (op : ce_Op) (n mc ms MC MS : Nat) (F : List ce_V → ce_S → ce_Rs) : Prop := ∀ (i : Nat) (nn : Nat × Nat) (ls : List (Option ce_V)) (st : List ce_V) (S : ce_S) (k : ce_K) (res : Option ce_V × ce_S), op i nn ls st S k = some res →
  nn.1 + mc ≤ MC ∧ nn.2 + ms ≤ MS ∧ (st.drop n).length ≤ 4 ∧ n ≤ st.length ∧ ∃ (r : Option ce_V) (S' : ce_S), F (st.take n).reverse S = some (r, S') ∧ k (i + 1) (nn.1 + mc, nn.2 + ms) ls (r.toList ++ st.drop n) S' = some res
def ce_wV (F : List ce_V → ce_S → Option ce_S) : List ce_V → ce_S → ce_Rs := fun a S => (F a S).bind fun S' => some (none, S')
def ce_wI (F : List ce_V → ce_S → Option (Int32 × ce_S)) : List ce_V → ce_S → ce_Rs := fun a S => (F a S).bind fun q => some (some (.inl q.1), q.2)
def ce_wL (F : List ce_V → ce_S → Option (Int64 × ce_S)) : List ce_V → ce_S → ce_Rs := fun a S => (F a S).bind fun q => some (some (.inr (.inr q.1)), q.2)
def ce_wR (t : Nat) (F : List ce_V → ce_S → Option (Nat × ce_S)) : List ce_V → ce_S → ce_Rs := fun a S => (F a S).bind fun q => some (some (.inr (.inl (t, q.1))), q.2)
theorem is_cv {n mc ms MC MS : Nat} {F : List ce_V → ce_S → Option ce_S} : ce_isC (o_cv n F mc ms MC MS) n mc ms MC MS (ce_wV F) := by
  intro i nn ls st S k res h
  unfold o_cv at h
  rw [ce_bc] at h
  by_cases hc : nn.1 + mc ≤ MC ∧ nn.2 + ms ≤ MS ∧ (st.drop n).length ≤ 4 ∧ n ≤ st.length
  · rw [if_pos hc] at h
    refine ⟨hc.1, hc.2.1, hc.2.2.1, hc.2.2.2, ?_⟩
    cases hF : F (st.take n).reverse S with
    | none => rw [hF] at h; cases h
    | some S' => rw [hF] at h; exact ⟨none, S', by unfold ce_wV; rw [hF]; rfl, h⟩
  · rw [if_neg hc] at h; cases h
theorem is_ci {n mc ms MC MS : Nat} {F : List ce_V → ce_S → Option (Int32 × ce_S)} : ce_isC (o_ci n F mc ms MC MS) n mc ms MC MS (ce_wI F) := by
  intro i nn ls st S k res h
  unfold o_ci at h
  rw [ce_bc] at h
  by_cases hc : nn.1 + mc ≤ MC ∧ nn.2 + ms ≤ MS ∧ (st.drop n).length ≤ 4 ∧ n ≤ st.length
  · rw [if_pos hc] at h
    refine ⟨hc.1, hc.2.1, hc.2.2.1, hc.2.2.2, ?_⟩
    cases hF : F (st.take n).reverse S with
    | none => rw [hF] at h; cases h
    | some q => rw [hF] at h; exact ⟨some (.inl q.1), q.2, by unfold ce_wI; rw [hF]; rfl, h⟩
  · rw [if_neg hc] at h; cases h
theorem is_cl {n mc ms MC MS : Nat} {F : List ce_V → ce_S → Option (Int64 × ce_S)} : ce_isC (o_cl n F mc ms MC MS) n mc ms MC MS (ce_wL F) := by
  intro i nn ls st S k res h
  unfold o_cl at h
  rw [ce_bc] at h
  by_cases hc : nn.1 + mc ≤ MC ∧ nn.2 + ms ≤ MS ∧ (st.drop n).length ≤ 4 ∧ n ≤ st.length
  · rw [if_pos hc] at h
    refine ⟨hc.1, hc.2.1, hc.2.2.1, hc.2.2.2, ?_⟩
    cases hF : F (st.take n).reverse S with
    | none => rw [hF] at h; cases h
    | some q => rw [hF] at h; exact ⟨some (.inr (.inr q.1)), q.2, by unfold ce_wL; rw [hF]; rfl, h⟩
  · rw [if_neg hc] at h; cases h
theorem is_cr {n t mc ms MC MS : Nat} {F : List ce_V → ce_S → Option (Nat × ce_S)} : ce_isC (o_cr n t F mc ms MC MS) n mc ms MC MS (ce_wR t F) := by
  intro i nn ls st S k res h
  unfold o_cr at h
  rw [ce_bc] at h
  by_cases hc : nn.1 + mc ≤ MC ∧ nn.2 + ms ≤ MS ∧ (st.drop n).length ≤ 4 ∧ n ≤ st.length
  · rw [if_pos hc] at h
    refine ⟨hc.1, hc.2.1, hc.2.2.1, hc.2.2.2, ?_⟩
    cases hF : F (st.take n).reverse S with
    | none => rw [hF] at h; cases h
    | some q => rw [hF] at h; exact ⟨some (.inr (.inl (t, q.1))), q.2, by unfold ce_wR; rw [hF]; rfl, h⟩
  · rw [if_neg hc] at h; cases h
theorem ce_gIn {w0 : Cond} {y' : MethodName} {cc' : ByteArray} {n' : Nat} {r' : Option FieldType} {ex : List Cond} (h : Cond.code y' cc' n' r' ∈ ce_tw) (he : ∀ w ∈ ex, w ∈ ce_tw) : GoodIn (w0 :: ce_tw) (ex ++ (Cond.code y' cc' n' r' :: ce_tw)) := by
  have g : ∀ w ∈ ce_tw, w ∈ (w0 :: ce_tw) ∧ ((w.onTables && w.keeps) = true ∨ ∃ ty, w = .arrayClass ty) := fun w hw => ⟨List.mem_cons_of_mem _ hw, good_of_word (List.mem_filter.mp hw).2⟩
  intro w hw
  rcases List.mem_append.mp hw with hw | hw
  · exact g w (he w hw)
  · rcases List.mem_cons.mp hw with e | hw
    · subst e; exact g _ h
    · exact g w hw
theorem ce_tw_at {n : Nat} {w : Cond} (h : lw_tbl[n]? = some w) (g : goodWord w = true) : w ∈ ce_tw := ce_tw_in (List.mem_of_getElem? h) g
/-- a callee by its contract; what a call of it needs of the tables, but for how it is named -/
def ce_callee (l : Launch) (y : MethodName) (n d mc ms : Nat) (F : List ce_V → ce_S → ce_Rs) : Prop := ∃ (cc : ByteArray) (nL : Nat) (rt : Option FieldType), ce_Ctr l y cc nL rt d mc ms F ∧ Cond.code y cc nL rt ∈ ce_tw ∧ nL ≤ 41 ∧ y.cls ≠ "java/lang/invoke/MethodHandle" ∧ y.cls ≠ "java/lang/invoke/VarHandle" ∧ (parseMethodDescriptor y.desc).map (fun d => d.parameters.length) = some n
section CEC
variable {l : Launch} {cc : ByteArray} {own : String} {nL : Nat} {rt : Option FieldType} {d MC MS : Nat} {pcs : List Nat} {i pc : Nat}
theorem ok_static {op : ce_Op} {y : MethodName} {n d' mc ms ix p1 p2 p3 : Nat} {F : List ce_V → ce_S → ce_Rs} (hop : ce_isC op n mc ms MC MS F) (hp : pcs.getD i 0 = pc) (hp' : pcs.getD (i + 1) 0 = pc + 3) (hd : decode cc pc = .ok (.invokestatic ix, 3)) (hD : d' < d) (hy : y.cls = own) (hc : ce_callee l y n d' mc ms F) (g1 : lw_tbl[p1]? = some (Cond.methodLink own ix y)) (g2 : lw_tbl[p2]? = some (Cond.static y)) (g3 : lw_tbl[p3]? = some (Cond.initialized own)) : ce_Ok l cc own nL rt d MC MS pcs i op := by
  intro nn ls st S k res h hk p e s m args below meth c D ca b0 ad0 S0 ad H locs rls hC h61 hX hR hT h1 h2
  obtain ⟨hx, hb, hml, hown, ⟨w0, hts⟩, hr, hlk, hG⟩ := id hC
  obtain ⟨a1, a2, a3, a4, r, S', hF, hk2⟩ := hop i nn ls st S k res h
  obtain ⟨cc', nL', rt', hctr, hcode, hnl, hm1, hm2, hlen⟩ := hc
  have hTa : ce_okT S (st.take n).reverse := fun v hv => hT v (List.mem_of_mem_take (List.mem_reverse.mp hv))
  have hTr : ce_okT S (st.drop n) := fun v hv => hT v (List.mem_of_mem_drop hv)
  have hM := hctr D ca b0 ad S _ _ hF hR.2.2.2.1 hTa ⟨Nat.le_of_not_lt fun q => by { have h61 := h61.1; have := (hR.2.2.2.2.2 61 (ce_C S 61) (by omega)).2; omega }, Nat.le_of_not_lt fun q => by { have h61 := h61.2; have := (hR.2.2.2.2.2 62 (ce_C S 62) (by omega)).2; omega }⟩
  rw [hp]
  have hst : st.map (ce_val ad) = ((st.take n).reverse.map (ce_val ad)).reverse ++ (st.drop n).map (ce_val ad) := by
    rw [← List.map_reverse, List.reverse_reverse, ← List.map_append, List.take_append_drop]
  rw [hst]
  refine ce_call (va_runS (As := (st.take n).reverse.map (ce_val ad)) (rest := (st.drop n).map (ce_val ad)) ⟨hx, hb, hml, hown, hts⟩ hM (cwS n hts (ce_gIn (ex := [.methodLink own ix y, .static y, .initialized own]) hcode (by
      intro w hw
      rcases List.mem_cons.mp hw with e | hw
      · subst e; exact ce_tw_at g1 rfl
      rcases List.mem_cons.mp hw with e | hw
      · subst e; exact ce_tw_at g2 rfl
      rcases List.mem_cons.mp hw with e | hw
      · subst e; exact ce_tw_at g3 rfl
      · cases hw)) rfl rfl rfl ⟨hy, hm1, hm2, hlen⟩ ⟨hD, by show 8 + (nL' + 11) + 60 * d' ≤ 60 * d; omega⟩) ⟨ce_blind, fun U hU hW => ⟨rfl, hG.warm hW, (hX.agree (fun j hj => ⟨(hR.2.2.2.2.2 61 j (Nat.lt_of_lt_of_le hj h61.1)).1, (hR.2.2.2.2.2 62 j (Nat.lt_of_lt_of_le hj h61.2)).1⟩)).warm hW (by rw [hU]; exact hR.2.1.1) (fun q g1 g2 => by rw [hU]; exact hR.2.1.2.1 q g1 g2), by rw [hU]; exact hR.1⟩⟩ rfl (by simp; omega) hR.2.2.1.1 rfl (lv_room (ce_cat8 a3)) hd ⟨a1, a2⟩) hR.2.1 (fun ad' H1 locs1 k1 k2 k3 k4 k5 => ?_)
  have w := hk _ _ _ _ _ hk2 p e s m args below meth c D ca b0 ad0 S0 ad' H1 locs1 rls hC h61 hX ⟨k4, k5, ce_lv_ag k1 hR.2.2.1 hR.2.2.2.2.1, k2, fun j v hj => ce_okV_ag k1 (hR.2.2.2.2.1 j v hj), hR.2.2.2.2.2.trans k1⟩ (fun v hv => by
    rcases List.mem_append.mp hv with q | q
    · exact k3 v (Option.mem_toList.mp q)
    · exact ce_okV_ag k1 (hTr v q)) a1 a2
  rw [hp', List.map_append, ce_map_ag k1 hTr] at w
  have e : (Option.map (ce_val ad') r).toList = r.toList.map (ce_val ad') := by cases r <;> rfl
  show W _ _ _ _ _ _ _ _ _ _ _ _ _ _ _ (F0 m (pc + 3) rls ((Option.map (ce_val ad') r).toList ++ _))
  rw [e]
  exact w
end CEC
