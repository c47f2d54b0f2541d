/-! the K-machine: fields -/
theorem r_R_sR2 (S : ce_S) (t k i v t' k' i' : Nat) : ce_R (ce_sR S t k i v) t' k' i' = if t' = t ∧ k' = k ∧ i' = i then v else ce_R S t' k' i' := by
  rw [r_R_sR]
  by_cases h1 : t' = t
  · by_cases h2 : k' = k
    · by_cases h3 : i' = i
      · rw [if_pos h1, if_pos h2, if_pos h3, if_pos ⟨h1, h2, h3⟩]
      · rw [if_pos h1, if_pos h2, if_neg h3, if_neg (fun q => h3 q.2.2)]
    · rw [if_pos h1, if_neg h2, if_neg (fun q => h2 q.2.1)]
  · rw [if_neg h1, if_neg (fun q => h1 q.1)]
/-- a write of one cell: what stays of the others -/
def kstay (S S' : ce_S) (t j : Nat) : Prop := ∀ t' i', ¬ (t' = t ∧ i' = j) → ce_so t' < 3 → (∀ k, ce_I S' t' k i' = ce_I S t' k i') ∧ (∀ k, ce_R S' t' k i' = ce_R S t' k i') ∧ (∀ k, ce_R S' (1000 + t') k i' = ce_R S (1000 + t') k i') ∧ (∀ e, ce_A S' t' i' e = ce_A S t' i' e) ∧ ce_L S' t' i' = ce_L S t' i' ∧ (ce_so t' = 2 → i' < ce_C S t' → ∀ e, ce_el S' t' e = ce_el S t' e)
theorem ce_HK.set {D : va_G} {ca : Nat → ClassId} {b0 : Nat → Prop} {ad : Nat → Nat → Nat} {S S' : ce_S} {t j : Nat} {H H1 : Heap} (h : ce_HK D ca b0 ad S H) (hk : kokS S) (hj : j < ce_C S t) (ht : ce_so t < 3) (hz : H1.size = H.size) (ho : ∀ q : Nat, q ≠ ad t j → H1[q]? = H[q]?) (hC : ∀ t, ce_C S' t = ce_C S t) (hc : ce_atK D ca ad S' t j H1) (hs : kstay S S' t j) : ce_HK D ca b0 ad S' H1 := by
  refine ⟨fun t' i' hi' ht' => ?_, fun a b a' b' h1 h2 h3 h4 h5 => h.2 a b a' b' (by rw [hC] at h1; exact h1) (by rw [hC] at h2; exact h2) h3 h4 h5⟩
  rw [hC] at hi'
  obtain ⟨g1, g2, g3⟩ := h.1 t' i' hi' ht'
  refine ⟨?_, g2, by rw [hz]; exact g3⟩
  by_cases e : t' = t ∧ i' = j
  · obtain ⟨rfl, rfl⟩ := e
    exact hc
  · obtain ⟨k1, k2, k3, k4, k5, k6⟩ := hs t' i' e ht'
    exact g1.kept hi' hk (ho _ (fun q => e (h.2 t' i' t j hi' hj ht' ht q))) (fun _ _ _ => rfl) k1 k2 k3 k4 k5 (fun z => k6 z hi')
section KPT
variable {p : Program} {l : Launch} {e : Env} {R : Room} {s : State} {m : MethodId} {args : Array Value} {below : List Frame} {meth : Method} {c : Code} {H : Heap} {locs : List Loc} {cells slots : Nat} {Q : State → Prop}
variable {cc : ByteArray} {pc : Nat} {ls : Array Slot} {rest : List Value} {D : va_G} {cl : List vw_C} {tys : List (ClassId × FieldType)}
/-- putfield of a final field, in its class's own constructor -/
theorem ce_putF (hexec : p.tables.exec = Jvm.exec) (hb : c.code = cc) {own C : String} {T : u_T} {N ci index : Nat} {Ts : List Cond} (hts : ∀ w ∈ Ts, w.before args s = true) (hin : ∀ w ∈ u_ws C T N, w ∈ Ts) (ty0 : Nat → FieldType) (hty : ∀ k, k < N → parseFieldDescriptor (T k).2.2.1 = some (ty0 k)) (hnm : ∀ a, a < N → ∀ b, b < N → a ≠ b → (T a).2.1 ≠ (T b).2.1) (hown : s.vm.findClass own = some m.cls) (hK : va_K D cl tys s) {a : Nat} {V : Nat → Value} (hP : t_OB a (D.1 ci) N (D.2 ci) H V) (hc : cl[ci]? = some (C, T, N)) (k : Nat) (hk : k < N) (hlink : (Cond.fieldLink own index (T k).1 (T k).2.1 (T k).2.2.1).before args s = true) (hfin : (T k).2.2.2 = true) (hin2 : meth.name = "<init>") (hdecl : (T k).1 = own) {v : Value} (hn : narrow (ty0 k) v = v) (hfit : fits (ty0 k) v = true)
    (hdg : decode cc pc = .ok (.putfield index, 3)) (kk : ∀ (H1 : Heap) (lc : Loc), lc.base = a → t_OB a (D.1 ci) N (D.2 ci) H1 (updV V k v) → H1.size = H.size → (∀ q : Nat, q ≠ a → H1[q]? = H[q]?) → W p l e R s m args below meth c H1 (locs ++ [lc]) cells slots Q (F0 m (pc + 3) ls rest)) : W p l e R s m args below meth c H locs cells slots Q (F0 m pc ls (v :: .ref a :: rest)) := by
  have hap := va_apart (own := own) hts hin ty0 hty hnm hK hc
  obtain ⟨cell, q1, q2, q3, q4⟩ := hP
  obtain ⟨hS, hfc, kC, hkC, hkind⟩ := hK.1 ci _ hc
  obtain ⟨cf, kf, fi, f, hi, hsl⟩ := hS k hk
  have hlay := hts _ (hin _ (u_in_lay hk))
  unfold u_lay at hlay
  rw [if_pos hfin] at hlay
  have hst := (u_facts hfc hkC (u_lays hts hin hk) hi).1
  have hcf : m.cls = cf := by
    obtain ⟨_, _, c', _, _, _, -, -, hf', -, -, -, hown2, -⟩ := Cond.laysFinal_spec hlay
    have e1 : c' = cf := by have := hi.symm.trans hf'; simp at this; exact this.1.symm
    rw [hdecl] at hown2
    rw [← e1]; exact Option.some.inj (hown.symm.trans hown2)
  have h6 := u_fits hfc hkC hkind (Or.inr hlay) hi (hty k hk) hn hfit
  refine W.putFinK hexec hb hown hlink hi hst hcf hin2 (by rw [q2]; exact h6) q1 q3 (by rw [hsl]; exact k2_hasslot (q4 k hk)) rfl rfl hdg fun H' e1 e2 e3 => ?_
  rw [hsl] at e1 ⊢
  exact kk H' _ rfl ⟨_, e1, q2, q3, t_set q4 hap hk v⟩ e2 e3
end KPT
/-- what a written field comes to -/
theorem ce_atK.put {D : va_G} {ca : Nat → ClassId} {ad : Nat → Nat → Nat} {S S' : ce_S} {t j f : Nat} {v : Value} {H1 : Heap} {r : vw_C} (hso : ce_so t = 0) (hr : vwCl[ce_ci t j]? = some r) (hO : t_OB (ad t j) (D.1 (ce_ci t j)) r.2.2 (D.2 (ce_ci t j)) H1 (updV (fun k => ce_fvK ad S t k j) f v)) (hv : ce_fvK ad S' t f j = v) (ho : ∀ k, k ≠ f → ce_fvK ad S' t k j = ce_fvK ad S t k j) : ce_atK D ca ad S' t j H1 := by
  refine ⟨fun _ => ⟨r, hr, hO.to (fun k _ => ?_)⟩, (fun h1 => by rw [hso] at h1; cases h1), (fun h1 => by rw [hso] at h1; cases h1)⟩
  unfold updV
  by_cases hk : k = f
  · rw [if_pos hk, hk, hv]
  · rw [if_neg hk, ho k hk]
def kS_putS (S : ce_S) (t f j : Nat) : ce_S := ce_sR S (1000 + t) f j 0
def kS_putM (S : ce_S) (t f j v : Nat) : ce_S := ce_sR (ce_sR S t f j v) (1000 + t) f j 0
theorem kstay_I (S : ce_S) (t f j : Nat) (x : Int32) : kstay S (ce_sI S t f j x) t j := fun t' i' hne _ => ⟨fun k => ce_u_ne S.1 x (fun q => hne ⟨q.1, q.2.2⟩), fun _ => rfl, fun _ => rfl, fun _ => rfl, rfl, fun _ _ _ => rfl⟩
theorem kstay_S (S : ce_S) (t f j : Nat) : kstay S (kS_putS S t f j) t j := fun t' i' hne hs => by
  have hlt := ce_so_lt hs
  refine ⟨fun _ => rfl, fun k => ?_, fun k => ?_, fun _ => rfl, rfl, fun _ _ _ => rfl⟩
  · unfold kS_putS; rw [r_R_sR2, if_neg (fun q => by omega)]
  · unfold kS_putS; rw [r_R_sR2, if_neg (fun q => hne ⟨by omega, q.2.2⟩)]
theorem kstay_M (S : ce_S) (t f j v : Nat) (ht : t < 1000) : kstay S (kS_putM S t f j v) t j := fun t' i' hne hs => by
  have hlt := ce_so_lt hs
  refine ⟨fun _ => rfl, fun k => ?_, fun k => ?_, fun _ => rfl, rfl, fun _ _ _ => rfl⟩
  · unfold kS_putM; rw [r_R_sR2, if_neg (fun q => by omega), r_R_sR2, if_neg (fun q => hne ⟨q.1, q.2.2⟩)]
  · unfold kS_putM; rw [r_R_sR2, if_neg (fun q => hne ⟨by omega, q.2.2⟩), r_R_sR2, if_neg (fun q => by omega)]
theorem kokS_I {S : ce_S} {t f j : Nat} {x : Int32} (h : kokS S) : kokS (ce_sI S t f j x) := h
theorem kokS_S {S : ce_S} {t f j : Nat} {z : Nat × (Nat → Nat)} (h : kokS S) (hs : ce_so t = 0) (hf : ce_fk t f = .inr (.inl z)) (hz : z.2 j < ce_C S z.1) : kokS (kS_putS S t f j) := by
  refine ⟨fun t' k i hi ht hU => ?_, fun t' i e x hi ht he hx => ?_⟩
  · have hlt := ce_so_lt (t := t') (by rw [ht]; decide)
    have hR : ∀ k i, ce_R (kS_putS S t f j) t' k i = ce_R S t' k i := fun k i => by unfold kS_putS; rw [r_R_sR2, if_neg (fun q => by omega)]
    rw [hR]
    by_cases e : t' = t ∧ k = f ∧ i = j
    · obtain ⟨rfl, rfl, rfl⟩ := e
      exact ⟨fun q hq => (by rw [hf] at hq; cases hq; exact hz), fun q hq => (by rw [hf] at hq; cases hq)⟩
    · refine h.1 t' k i hi ht ?_
      unfold kS_putS at hU
      rw [r_R_sR2, if_neg (fun q => e ⟨by omega, q.2⟩)] at hU
      exact hU
  · refine h.2 t' i e x hi ht he ?_
    have eU : ce_R (kS_putS S t f j) (1000 + t') e i = ce_R S (1000 + t') e i := by
      unfold kS_putS
      rw [r_R_sR2, if_neg (fun q => by
        have : t' = t := by omega
        subst this; rw [hs] at ht; cases ht)]
    unfold ce_elK at hx ⊢
    rw [eU] at hx
    exact hx
theorem kokS_M {S : ce_S} {t f j v t0 : Nat} (h : kokS S) (hs : ce_so t = 0) (hf : ce_fk t f = .inr (.inr t0)) (hv : v < ce_C S t0) : kokS (kS_putM S t f j v) := by
  have ht0 := ce_so_lt (t := t) (by rw [hs]; decide)
  refine ⟨fun t' k i hi ht hU => ?_, fun t' i e x hi ht he hx => ?_⟩
  · have hlt := ce_so_lt (t := t') (by rw [ht]; decide)
    by_cases e : t' = t ∧ k = f ∧ i = j
    · obtain ⟨rfl, rfl, rfl⟩ := e
      refine ⟨fun q hq => (by rw [hf] at hq; cases hq), fun q hq => ?_⟩
      rw [hf] at hq; cases hq
      unfold kS_putM
      rw [r_R_sR2, if_neg (fun q => by omega), r_R_sR2, if_pos ⟨rfl, rfl, rfl⟩]
      exact hv
    · have hR : ce_R (kS_putM S t f j v) t' k i = ce_R S t' k i := by
        unfold kS_putM; rw [r_R_sR2, if_neg (fun q => by omega), r_R_sR2, if_neg e]
      rw [hR]
      refine h.1 t' k i hi ht ?_
      unfold kS_putM at hU
      rw [r_R_sR2, if_neg (fun q => e ⟨by omega, q.2⟩), r_R_sR2, if_neg (fun q => by omega)] at hU
      exact hU
  · refine h.2 t' i e x hi ht he ?_
    have eU : ce_R (kS_putM S t f j v) (1000 + t') e i = ce_R S (1000 + t') e i := by
      unfold kS_putM
      rw [r_R_sR2, if_neg (fun q => by
        have : t' = t := by omega
        subst this; rw [hs] at ht; cases ht), r_R_sR2, if_neg (fun q => by omega)]
    unfold ce_elK at hx ⊢
    rw [eU] at hx
    exact hx
