/-! what the tables say of the world, and the rows of the heap -/
def ce_castW : List (String × String) := [(RX0, RX2), (RX1, RX2), (RX7, RX8)]
def ce_G (D : va_G) (ca : Nat → ClassId) (U : State) : Prop := va_K D vwCl (ce_tys ca) U ∧ (va_Nw (.methodLinkNest RX10 7 yX11_within RX11) U ∧ va_Nw (.methodLinkNest RX4 37 yX11_within RX11) U ∧ va_Nw (.methodLinkNest RX6 22 yX11_within RX11) U) ∧ (∀ q ∈ ce_castW, va_Nw (.castable q.1 q.2) U) ∧ (∀ a ∈ [RX0, RX1, RX2, RX3, RX7, RX8], ∀ b ∈ [RX2, RX8, RX7, RX0, RX1], a = b ∨ (a, b) ∈ ce_castW ∨ va_Nc a b U)
theorem ce_G.warm {D : va_G} {ca : Nat → ClassId} {s U : State} (hW : s.WarmedH U.vm) (h : ce_G D ca s) : ce_G D ca U :=
  ⟨va_K.moved hW.alike h.1, ⟨h.2.1.1.warmM hW, h.2.1.2.1.warmM hW, h.2.1.2.2.warmM hW⟩, fun q hq => (h.2.2.1 q hq).warmC hW, fun a ha b hb => (h.2.2.2 a ha b hb).imp id (Or.imp id (fun z => va_Nc.moved hW.alike z))⟩
theorem ce_G.same {D : va_G} {ca : Nat → ClassId} {s U : State} (hW : s.vm = U.vm) (h : ce_G D ca s) : ce_G D ca U :=
  ⟨va_K.moved (by rw [hW]; exact Vm.Alike.refl _) h.1, ⟨h.2.1.1.same rfl hW, h.2.1.2.1.same rfl hW, h.2.1.2.2.same rfl hW⟩, fun q hq => (h.2.2.1 q hq).same rfl hW, fun a ha b hb => (h.2.2.2 a ha b hb).imp id (Or.imp id (fun z => va_Nc.moved (by rw [hW]; exact Vm.Alike.refl _) z))⟩
/-- the text constants, and two statics of the JDK's -/
def ce_tR : List (String × Nat × String) := [(RX9, 106, "least"), (RX9, 112, "first"), (RX9, 114, "pull"), (RX9, 116, "or"), (RX9, 118, "and"), (RX9, 120, "not"), (RX9, 122, "cost"), (RX9, 124, "shoes"), (RX9, 126, "hour"), (RX9, 128, "bid"), (RX9, 130, "said"), (RX9, 132, "cups"), (RX11, 80, "least cost + shoes * 2 - ( hour < 9 ) * 10 ; first 2 * cost + shoes * 20 ; pull 0 ;")]
def ce_sB : List (List Int32) := [[108, 101, 97, 115, 116], [102, 105, 114, 115, 116], [112, 117, 108, 108], [111, 114], [97, 110, 100], [110, 111, 116], [99, 111, 115, 116], [115, 104, 111, 101, 115], [104, 111, 117, 114], [98, 105, 100], [115, 97, 105, 100], [99, 117, 112, 115], [108, 101, 97, 115, 116, 32, 99, 111, 115, 116, 32, 43, 32, 115, 104, 111, 101, 115, 32, 42, 32, 50, 32, 45, 32, 40, 32, 104, 111, 117, 114, 32, 60, 32, 57, 32, 41, 32, 42, 32, 49, 48, 32, 59, 32, 102, 105, 114, 115, 116, 32, 50, 32, 42, 32, 99, 111, 115, 116, 32, 43, 32, 115, 104, 111, 101, 115, 32, 42, 32, 50, 48, 32, 59, 32, 112, 117, 108, 108, 32, 48, 32, 59]]
def ce_sN : List Nat := [5, 5, 4, 2, 3, 3, 4, 5, 4, 3, 4, 4, 83]
def ce_61 (S : ce_S) : Prop := 13 ≤ ce_C S 61 ∧ 13 ≤ ce_C S 62
def ce_X (ad : Nat → Nat → Nat) (b0 : Nat → Prop) (U : State) : Prop := vk_S 13 ce_sN ce_sB (ad 61) (ad 62) (fun q => b0 q) U U.heap ∧ (∀ (j : Nat) (q : String × Nat × String), ce_tR[j]? = some q → vk_R q.1 q.2.1 q.2.2 (ad 61 j) U) ∧ va_Z "java/lang/String" "COMPACT_STRINGS" "Z" (.int 1) (fun q => b0 q) U U.heap ∧ va_Zq "jdk/internal/util/Preconditions" "SIOOBE_FORMATTER" "Ljava/util/function/BiFunction;" (fun q => b0 q) U U.heap ∧ ∀ q : Nat, U.heap.size ≤ q → b0 q
theorem ce_X.warm {ad : Nat → Nat → Nat} {b0 : Nat → Prop} {s U : State} (hW : s.WarmedH U.vm) (hz : s.heap.size ≤ U.heap.size) (hq : ∀ q : Nat, q < s.heap.size → ¬ b0 q → U.heap[q]? = s.heap[q]?) (h : ce_X ad b0 s) : ce_X ad b0 U := by
  obtain ⟨h1, h2, h3, h4, h5⟩ := h
  exact ⟨(h1.kept hq).moved hW.alike, fun j q hj => (h2 j q hj).warm hW, (h3.kept hq).moved hW.alike, (h4.kept hq).moved hW.alike, fun q g => h5 q (Nat.le_trans hz g)⟩
theorem ce_X.same {ad : Nat → Nat → Nat} {b0 : Nat → Prop} {s U : State} (hv : s.vm = U.vm) (hq : U.heap = s.heap) (h : ce_X ad b0 s) : ce_X ad b0 U := by
  obtain ⟨h1, h2, h3, h4, h5⟩ := h
  have ha : s.vm.Alike U.vm := by rw [hv]; exact Vm.Alike.refl _
  have hk : ∀ q : Nat, q < s.heap.size → ¬ b0 q → U.heap[q]? = s.heap[q]? := fun q _ _ => by rw [hq]
  exact ⟨(h1.kept hk).moved ha, fun j q hj => (h2 j q hj).same hv.symm, (h3.kept hk).moved ha, (h4.kept hk).moved ha, fun q g => h5 q (by rw [hq] at g; exact g)⟩
theorem ce_X.agree {ad ad' : Nat → Nat → Nat} {b0 : Nat → Prop} {s : State} (hq : ∀ j : Nat, j < 13 → ad' 61 j = ad 61 j ∧ ad' 62 j = ad 62 j) (h : ce_X ad b0 s) : ce_X ad' b0 s := by
  obtain ⟨h1, h2, h3, h4, h5⟩ := h
  refine ⟨⟨fun i hi => by rw [(hq i hi).1, (hq i hi).2]; exact h1.1 i hi, fun i j hi hj => by rw [(hq i hi).1, (hq j hj).1]; exact h1.2 i j hi hj⟩, fun j q hj => ?_, h3, h4, h5⟩
  rw [(hq j (by have := (List.getElem?_eq_some_iff.mp hj).1; exact this)).1]
  exact h2 j q hj
/-- a cell stays where the state and the heap stay -/
theorem ce_at.kept {D : va_G} {ca : Nat → ClassId} {ad : Nat → Nat → Nat} {S S' : ce_S} {t i : Nat} {H H1 : Heap} (h : ce_at D ca ad S t i H) (hq : H1[ad t i]? = H[ad t i]?) (hI : ∀ k, ce_I S' t k i = ce_I S t k i) (hR : ∀ k, ce_R S' t k i = ce_R S t k i) (hA : ∀ e, ce_A S' t i e = ce_A S t i e) (hL : ce_L S' t i = ce_L S t i) (hQ : ce_so t = 2 → ∀ e, ce_el S' t e = ce_el S t e) : ce_at D ca ad S' t i H1 := by
  have hl : ce_len S' t i = ce_len S t i := by
    unfold ce_len
    cases ce_sl t <;> simp [hL]
  refine ⟨fun h0 => ?_, fun h1 => ?_, fun h2 => ?_⟩
  · obtain ⟨r, h1, h2⟩ := h.1 h0
    refine ⟨r, h1, (h2.kept hq).to (fun k _ => ?_)⟩
    unfold ce_fv
    cases ce_fk t k with
    | inl u => simp [hI]
    | inr u => cases u with
      | inl u => rfl
      | inr u => simp [hR]
  · rw [hq, h.2.1 h1, hl]
    congr 4
    funext e
    exact (hA e).symm
  · rw [hq, h.2.2 h2, hl]
    congr 7
    funext e
    rw [hQ h2 e]
/-- one cell is written: the others stay -/
theorem ce_H.set {D : va_G} {ca : Nat → ClassId} {b0 : Nat → Prop} {ad : Nat → Nat → Nat} {S S' : ce_S} {t i : Nat} {H H1 : Heap} (h : ce_H D ca b0 ad S H) (hi : i < ce_C S t) (ht : ce_so t < 3) (hz : H1.size = H.size) (ho : ∀ q : Nat, q ≠ ad t i → H1[q]? = H[q]?) (hC : ∀ t, ce_C S' t = ce_C S t) (hc : ce_at D ca ad S' t i H1)
    (hk : ∀ t' i', ¬ (t' = t ∧ i' = i) → (∀ k, ce_I S' t' k i' = ce_I S t' k i') ∧ (∀ k, ce_R S' t' k i' = ce_R S t' k i') ∧ (∀ e, ce_A S' t' i' e = ce_A S t' i' e) ∧ ce_L S' t' i' = ce_L S t' i' ∧ (ce_so t' = 2 → i' < ce_C S t' → ∀ e, ce_el S' t' e = ce_el S t' e)) : ce_H D ca b0 ad S' H1 := by
  refine ⟨fun t' i' hi' ht' => ?_, fun a b a' b' h1 h2 h3 h4 h5 => h.2 a b a' b' (by rw [hC] at h1; exact h1) (by rw [hC] at h2; exact h2) h3 h4 h5⟩
  rw [hC] at hi'
  obtain ⟨g1, g2, g3⟩ := h.1 t' i' hi' ht'
  refine ⟨?_, g2, by rw [hz]; exact g3⟩
  by_cases e : t' = t ∧ i' = i
  · obtain ⟨rfl, rfl⟩ := e
    exact hc
  · obtain ⟨k1, k2, k3, k4, k5⟩ := hk t' i' e
    exact g1.kept (ho _ (fun q => e (h.2 t' i' t i hi' hi ht' ht q))) k1 k2 k3 k4 (fun z => k5 z hi')
theorem ce_u_eq {α : Type} (f : Nat → Nat → Nat → α) (t k i : Nat) (v : α) : ce_u f t k i v t k i = v := by simp [ce_u]
theorem ce_u_ne {α : Type} (f : Nat → Nat → Nat → α) {t k i t' k' i' : Nat} (v : α) (h : ¬ (t' = t ∧ k' = k ∧ i' = i)) : ce_u f t k i v t' k' i' = f t' k' i' := by
  unfold ce_u
  by_cases h1 : t' = t
  · by_cases h2 : k' = k
    · by_cases h3 : i' = i
      · exact absurd ⟨h1, h2, h3⟩ h
      · simp [h3]
    · simp [h2]
  · simp [h1]
section CEB
variable {p : Program} {l : Launch} {e : Env} {R : Room} {s : State} {m : MethodId} {args : Array Value} {below : List Frame} {meth : Method} {c : Code} {H : Heap} {locs : List Loc} {cells slots : Nat} {Q : State → Prop}
variable {cc : ByteArray} {pc : Nat} {ls : Array Slot} {rest : List Value} {D : va_G} {cl : List vw_C} {tys : List (ClassId × FieldType)}
/-- getfield -/
theorem ce_get (hexec : p.tables.exec = Jvm.exec) (hb : c.code = cc) {own C : String} {T : u_T} {N ci index : Nat} {Ts : List Cond} (hts : ∀ w ∈ Ts, w.before args s = true) (hin : ∀ w ∈ u_ws C T N, w ∈ Ts) (hown : s.vm.findClass own = some m.cls) (hK : va_K D cl tys s) {a : Nat} {V : Nat → Value} (hP : t_OB a (D.1 ci) N (D.2 ci) H V) (hc : cl[ci]? = some (C, T, N)) (k : Nat) (hk : k < N) (hlink : (Cond.fieldLink own index (T k).1 (T k).2.1 (T k).2.2.1).before args s = true) {v : Value} (hv : V k = v) (hdg : decode cc pc = .ok (.getfield index, 3))
    (kk : W p l e R s m args below meth c H locs cells slots Q (F0 m (pc + 3) ls (v :: rest))) : W p l e R s m args below meth c H locs cells slots Q (F0 m pc ls (.ref a :: rest)) := by
  obtain ⟨cell, q1, q2, q3, q4⟩ := hP
  obtain ⟨hS, hfc, kC, hkC, hkind⟩ := hK.1 ci _ hc
  obtain ⟨cf, kf, fi, f, hi, hsl⟩ := hS k hk
  refine W.getf hexec hb hown hlink hi (u_facts hfc hkC (u_lays hts hin hk) hi).1 q1 (by rw [q3]; exact fun h => by cases h) (v := v) ?_ rfl rfl hdg kk
  rw [hsl, q4 k hk, hv]
/-- putfield, and that nothing else changes -/
theorem ce_put (hexec : p.tables.exec = Jvm.exec) (hb : c.code = cc) {own C : String} {T : u_T} {N ci index : Nat} {Ts : List Cond} (hts : ∀ w ∈ Ts, w.before args s = true) (hin : ∀ w ∈ u_ws C T N, w ∈ Ts) (ty0 : Nat → FieldType) (hty : ∀ k, k < N → parseFieldDescriptor (T k).2.2.1 = some (ty0 k)) (hnm : ∀ a, a < N → ∀ b, b < N → a ≠ b → (T a).2.1 ≠ (T b).2.1) (hown : s.vm.findClass own = some m.cls) (hK : va_K D cl tys s) {a : Nat} {V : Nat → Value} (hP : t_OB a (D.1 ci) N (D.2 ci) H V) (hc : cl[ci]? = some (C, T, N)) (k : Nat) (hk : k < N) (hlink : (Cond.fieldLink own index (T k).1 (T k).2.1 (T k).2.2.1).before args s = true) (hfin : (T k).2.2.2 = false) {v : Value} (hn : narrow (ty0 k) v = v) (hfit : fits (ty0 k) v = true)
    (hdg : decode cc pc = .ok (.putfield index, 3)) (kk : ∀ (H1 : Heap) (lc : Loc), lc.base = a → t_OB a (D.1 ci) N (D.2 ci) H1 (updV V k v) → H1.size = H.size → (∀ q : Nat, q ≠ a → H1[q]? = H[q]?) → W p l e R s m args below meth c H1 (locs ++ [lc]) cells slots Q (F0 m (pc + 3) ls rest)) : W p l e R s m args below meth c H locs cells slots Q (F0 m pc ls (v :: .ref a :: rest)) := by
  have hap := va_apart (own := own) hts hin ty0 hty hnm hK hc
  obtain ⟨cell, q1, q2, q3, q4⟩ := hP
  obtain ⟨hS, hfc, kC, hkC, hkind⟩ := hK.1 ci _ hc
  obtain ⟨cf, kf, fi, f, hi, hsl⟩ := hS k hk
  have hlay := hts _ (hin _ (u_in_lay hk))
  unfold u_lay at hlay
  rw [if_neg (by rw [hfin]; decide)] at hlay
  have hst := (u_facts hfc hkC (u_lays hts hin hk) hi).1
  have h6 := u_store hfc hkC hkind hlay hi (hty k hk) hn hfit
  refine W.putK hexec hb (f := f) ⟨hown, hlink, ⟨_, _, _, hi⟩, hst⟩ (by rw [q2]; exact h6) q1 q3 (by rw [hsl]; exact k2_hasslot (q4 k hk)) rfl rfl hdg fun H' e1 e2 e3 => ?_
  rw [hsl] at e1 ⊢
  exact kk H' _ rfl ⟨_, e1, q2, q3, t_set q4 hap hk v⟩ e2 e3
end CEB
