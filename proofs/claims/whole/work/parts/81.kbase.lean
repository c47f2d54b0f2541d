/-! the K-machine, on which cells are made: which references are still unset is kept in ce_R of kind 1000 + t -/
def ce_fvK (ad : Nat → Nat → Nat) (S : ce_S) (t k i : Nat) : Value := match ce_fk t k with
  | .inl _ => .int (ce_I S t k i)
  | .inr (.inl q) => if ce_R S (1000 + t) k i = 0 then .ref (ad q.1 (q.2 i)) else .null
  | .inr (.inr t') => if ce_R S (1000 + t) k i = 0 then .ref (ad t' (ce_R S t k i)) else .null
def ce_elK (S : ce_S) (t i e : Nat) : Option Nat := if ce_R S (1000 + t) e i = 0 then ce_el S t e else none
def ce_atK (D : va_G) (ca : Nat → ClassId) (ad : Nat → Nat → Nat) (S : ce_S) (t i : Nat) (H : Heap) : Prop :=
  (ce_so t = 0 → ∃ r : vw_C, vwCl[ce_ci t i]? = some r ∧ t_OB (ad t i) (D.1 (ce_ci t i)) r.2.2 (D.2 (ce_ci t i)) H (fun k => ce_fvK ad S t k i)) ∧
  (ce_so t = 1 → H[ad t i]? = some (vp_cell (ca 0) (ce_len S t i, .inl (fun e => ce_A S t i e)))) ∧
  (ce_so t = 2 → H[ad t i]? = some (vp_cell (ca (ce_ac t)) (ce_len S t i, .inr (.inr (.inr (.inr (fun e => (ce_elK S t i e).map (ad (ce_et t)))))))))
def ce_HK (D : va_G) (ca : Nat → ClassId) (b0 : Nat → Prop) (ad : Nat → Nat → Nat) (S : ce_S) (H : Heap) : Prop :=
  (∀ t i, i < ce_C S t → ce_so t < 3 → ce_atK D ca ad S t i H ∧ b0 (ad t i) ∧ ad t i < H.size) ∧ (∀ t i t' i', i < ce_C S t → i' < ce_C S t' → ce_so t < 3 → ce_so t' < 3 → ad t i = ad t' i' → t = t' ∧ i = i')
/-- nothing is unset -/
def kfull (S : ce_S) : Prop := ∀ t k i, i < ce_C S t → ce_R S (1000 + t) k i = 0
theorem ce_fvK_eq {ad : Nat → Nat → Nat} {S : ce_S} {t k i : Nat} (h : ce_R S (1000 + t) k i = 0) : ce_fvK ad S t k i = ce_fv ad S t k i := by
  unfold ce_fvK ce_fv
  cases ce_fk t k with
  | inl u => rfl
  | inr u => cases u with
    | inl q => simp only [if_pos h]
    | inr q => simp only [if_pos h]
theorem ce_atK_eq {D : va_G} {ca : Nat → ClassId} {ad : Nat → Nat → Nat} {S : ce_S} {t i : Nat} {H : Heap} (h : ∀ k, ce_R S (1000 + t) k i = 0) : ce_atK D ca ad S t i H = ce_at D ca ad S t i H := by
  have e1 : (fun k => ce_fvK ad S t k i) = fun k => ce_fv ad S t k i := funext fun k => ce_fvK_eq (h k)
  have e2 : (fun e => (ce_elK S t i e).map (ad (ce_et t))) = fun e => (ce_el S t e).map (ad (ce_et t)) := funext fun e => by unfold ce_elK; rw [if_pos (h e)]
  unfold ce_atK ce_at
  rw [e1, e2]
theorem HK_to {D : va_G} {ca : Nat → ClassId} {b0 : Nat → Prop} {ad : Nat → Nat → Nat} {S : ce_S} {H : Heap} (hk : kfull S) (h : ce_HK D ca b0 ad S H) : ce_H D ca b0 ad S H := ⟨fun t i hi ht => by
  have := h.1 t i hi ht
  rw [ce_atK_eq (fun k => hk t k i hi)] at this
  exact this, h.2⟩
theorem HK_of {D : va_G} {ca : Nat → ClassId} {b0 : Nat → Prop} {ad : Nat → Nat → Nat} {S : ce_S} {H : Heap} (hk : kfull S) (h : ce_H D ca b0 ad S H) : ce_HK D ca b0 ad S H := ⟨fun t i hi ht => by
  have := h.1 t i hi ht
  rw [← ce_atK_eq (fun k => hk t k i hi)] at this
  exact this, h.2⟩
/-- every reference that is set is one of a cell that there is -/
def kokS (S : ce_S) : Prop :=
  (∀ t k i, i < ce_C S t → ce_so t = 0 → ce_R S (1000 + t) k i = 0 → (∀ q, ce_fk t k = .inr (.inl q) → q.2 i < ce_C S q.1) ∧ (∀ t', ce_fk t k = .inr (.inr t') → ce_R S t k i < ce_C S t')) ∧
  (∀ t i e x, i < ce_C S t → ce_so t = 2 → e < ce_len S t i → ce_elK S t i e = some x → x < ce_C S (ce_et t))
theorem kokS_to {S : ce_S} (hk : kfull S) (h : kokS S) : ce_okS S := ⟨fun t k i hi ht => h.1 t k i hi ht (hk t k i hi), fun t i e x hi ht he hx => h.2 t i e x hi ht he (by unfold ce_elK; rw [if_pos (hk t e i hi)]; exact hx)⟩
theorem kokS_of {S : ce_S} (hk : kfull S) (h : ce_okS S) : kokS S := ⟨fun t k i hi ht _ => h.1 t k i hi ht, fun t i e x hi ht he hx => h.2 t i e x hi ht he (by unfold ce_elK at hx; rw [if_pos (hk t e i hi)] at hx; exact hx)⟩
/-- what the rows of references want of the world -/
def k_AA (U : State) : Prop := (Cond.arrayOver (.array .int)).before #[] U = true
theorem k_AA.moved {u U : State} (hvm : u.vm.Alike U.vm) (h : k_AA u) : k_AA U := by
  obtain ⟨comp, c, k, h1, h2, h3, h4, h5⟩ := arrayOverA_spec h
  obtain ⟨k', hk', he⟩ := hvm.2.2 _ _ h3
  have hi : (U.vm.classes.findIdx? fun (x : Class) => match x.kind with | .array component _ => component == comp | _ => false) = some c := by
    refine (va_idx_bare U.vm comp).symm.trans ?_
    first | rw [hvm.bare_eq] | rw [← hvm.bare_eq]
    exact (va_idx_bare u.vm comp).trans h2
  have hkind : k'.kind = .array comp (.array .int) := by rw [he]; exact h4
  have f1 : U.vm.findClass (FieldType.array .int).toString = some comp := by rw [hvm.findClass]; exact h1
  have f2 : U.vm.findClass ("[" ++ (FieldType.array .int).toString) = some c := by rw [hvm.findClass]; exact h5
  unfold k_AA Cond.before Cond.holds
  simp only [Cond.value]
  rw [f1, Option.bind_some]
  refine (congrArg (fun o : Option Nat => (o.bind (fun c => (U.vm.classes[c]?).map fun (k : Class) => match k.kind with | .array _ ty => decide (ty = FieldType.array .int) && decide (U.vm.findClass ("[" ++ (FieldType.array .int).toString) = some c) | _ => false) == some true)) hi).trans ?_
  simp [hk', hkind, f2]
/-- nest mates' constructors, and where they are named -/
def k_nest : List (String × Nat × MethodName) := [(RX11, 29, yX9_init), (RX11, 56, yX3_init), (RX11, 59, yX2_init), (RX11, 62, yX8_init), (RX11, 65, yX7_init), (RX11, 68, yX0_init), (RX11, 71, yX1_init), (RX11, 79, yX6_init), (RX2, 1, yX3_init), (RX8, 1, yX3_init), (RX7, 1, yX8_init), (RX0, 1, yX2_init), (RX1, 1, yX2_init)]
def ce_GK (D : va_G) (ca : Nat → ClassId) (U : State) : Prop := ce_G D ca U ∧ (∀ C ∈ [RX3, RX5, RX10, RX6], va_AO C U) ∧ k_AA U ∧ (∀ C ∈ [RX0, RX1, RX2, RX7, RX8], va_Nw (.castable C RX3) U) ∧ ∀ q ∈ k_nest, va_Nw (.methodLinkNest q.1 q.2.1 q.2.2 RX11) U
theorem ce_GK.warm {D : va_G} {ca : Nat → ClassId} {s U : State} (hW : s.WarmedH U.vm) (h : ce_GK D ca s) : ce_GK D ca U := ⟨h.1.warm hW, fun C hC => (h.2.1 C hC).moved hW.alike, h.2.2.1.moved hW.alike, fun C hC => (h.2.2.2.1 C hC).warmC hW, fun q hq => (h.2.2.2.2 q hq).warmM hW⟩
theorem ce_GK.same {D : va_G} {ca : Nat → ClassId} {s U : State} (hW : s.vm = U.vm) (h : ce_GK D ca s) : ce_GK D ca U := ⟨h.1.same hW, fun C hC => (h.2.1 C hC).moved (by rw [hW]; exact Vm.Alike.refl _), h.2.2.1.moved (by rw [hW]; exact Vm.Alike.refl _), fun C hC => (h.2.2.2.1 C hC).same rfl hW, fun q hq => (h.2.2.2.2 q hq).same rfl hW⟩
def ce_CxK (p : Program) (s : State) (m : MethodId) (args : Array Value) (meth : Method) (c : Code) (cc : ByteArray) (own : String) (nL : Nat) (rt : Option FieldType) (D : va_G) (ca : Nat → ClassId) : Prop :=
  p.tables.exec = Jvm.exec ∧ c.code = cc ∧ c.maxLocals = nL ∧ s.vm.findClass own = some m.cls ∧ (∃ w0 : Cond, ∀ w ∈ w0 :: ce_tw, w.before args s = true) ∧ meth.sig.returnType = rt ∧ meth.locks = false ∧ ce_GK D ca s ∧ (rt = none → meth.name = "<init>")
def ce_PoK (D : va_G) (ca : Nat → ClassId) (b0 : Nat → Prop) (ad : Nat → Nat → Nat) (S : ce_S) (res : Option ce_V × ce_S) : Array Value → State → Outcome → State → Prop := fun _ st oc t => ∃ ad' : Nat → Nat → Nat, ce_ag S ad res.2 ad' ∧ oc = .returned (res.1.map (ce_val ad')) ∧ kokS res.2 ∧ (∀ v, res.1 = some v → ce_okV res.2 v) ∧ ce_HK D ca b0 ad' res.2 t.heap ∧ va_F (fun q => b0 q) st t
def ce_RelK (D : va_G) (ca : Nat → ClassId) (b0 : Nat → Prop) (ad0 : Nat → Nat → Nat) (S0 : ce_S) (ad : Nat → Nat → Nat) (s : State) (H : Heap) (locs : List Loc) (rls : Array Slot) (nL : Nat) (ls : List (Option ce_V)) (S : ce_S) : Prop :=
  ce_HK D ca b0 ad S H ∧ va_S (fun q => b0 q) s.heap H locs ∧ ce_lv ad rls nL ls ∧ kokS S ∧ ce_okL S ls ∧ ce_ag S0 ad0 S ad
def ce_WnK (l : Launch) (cc : ByteArray) (own : String) (nL : Nat) (rt : Option FieldType) (d MC MS : Nat) (pcs : List Nat) (res : Option ce_V × ce_S) (i : Nat) (nn : Nat × Nat) (ls : List (Option ce_V)) (st : List ce_V) (S : ce_S) : Prop :=
  ∀ (p : Program) (e : Env) (s : State) (m : MethodId) (args : Array Value) (below : List Frame) (meth : Method) (c : Code) (D : va_G) (ca : Nat → ClassId) (b0 : Nat → Prop) (ad0 : Nat → Nat → Nat) (S0 : ce_S) (ad : Nat → Nat → Nat) (H : Heap) (locs : List Loc) (rls : Array Slot),
    ce_CxK p s m args meth c cc own nL rt D ca → ce_61 S0 → ce_X ad0 b0 s → ce_RelK D ca b0 ad0 S0 ad s H locs rls nL ls S → ce_okT S st → nn.1 ≤ MC → nn.2 ≤ MS →
    W p l e (ce_rm d MC MS) s m args below meth c H locs nn.1 nn.2 (MQ below (ce_PoK D ca b0 ad0 S0 res) args s MC MS (fun q => b0 q)) (F0 m (pcs.getD i 0) rls (st.map (ce_val ad)))
def ce_OkK (l : Launch) (cc : ByteArray) (own : String) (nL : Nat) (rt : Option FieldType) (d MC MS : Nat) (pcs : List Nat) (i : Nat) (op : ce_Op) : Prop :=
  ∀ (nn : Nat × Nat) (ls : List (Option ce_V)) (st : List ce_V) (S : ce_S) (k : ce_K) (res : Option ce_V × ce_S), op i nn ls st S k = some res → (∀ i' nn' ls' st' S', k i' nn' ls' st' S' = some res → ce_WnK l cc own nL rt d MC MS pcs res i' nn' ls' st' S') → ce_WnK l cc own nL rt d MC MS pcs res i nn ls st S
def ce_OkLK (l : Launch) (cc : ByteArray) (own : String) (nL : Nat) (rt : Option FieldType) (d MC MS : Nat) (pcs : List Nat) : Nat → List ce_Op → Prop
  | _, [] => True
  | i, o :: r => ce_OkK l cc own nL rt d MC MS pcs i o ∧ ce_OkLK l cc own nL rt d MC MS pcs (i + 1) r
theorem ce_OkLK.at {l : Launch} {cc : ByteArray} {own : String} {nL : Nat} {rt : Option FieldType} {d MC MS : Nat} {pcs : List Nat} : ∀ (tb : List ce_Op) (i j : Nat), ce_OkLK l cc own nL rt d MC MS pcs i tb → j < tb.length → ce_OkK l cc own nL rt d MC MS pcs (i + j) (tb.getD j ce_bad) := by
  intro tb
  induction tb with
  | nil => intro i j _ h; exact absurd h (Nat.not_lt_zero _)
  | cons o r ih =>
    intro i j h hj
    cases j with
    | zero => exact h.1
    | succ j =>
      have := ih (i + 1) j h.2 (by simpa using hj)
      rw [show i + (j + 1) = i + 1 + j by omega]
      simpa using this
theorem ce_run_okK {l : Launch} {cc : ByteArray} {own : String} {nL : Nat} {rt : Option FieldType} {d MC MS : Nat} {pcs : List Nat} {tb : List ce_Op} (h : ce_OkLK l cc own nL rt d MC MS pcs 0 tb) : ∀ (n i : Nat) (nn : Nat × Nat) (ls : List (Option ce_V)) (st : List ce_V) (S : ce_S) (res : Option ce_V × ce_S), ce_run tb n i nn ls st S = some res → ce_WnK l cc own nL rt d MC MS pcs res i nn ls st S := by
  intro n
  induction n with
  | zero => intro i nn ls st S res h; cases h
  | succ n ih =>
    intro i nn ls st S res hr
    have hr : (tb.getD i ce_bad) i nn ls st S (ce_run tb n) = some res := hr
    by_cases hi : i < tb.length
    · have h1 := h.at tb 0 i hi
      rw [Nat.zero_add] at h1
      exact h1 nn ls st S _ res hr (fun i' nn' ls' st' S' h2 => ih i' nn' ls' st' S' res h2)
    · rw [show tb.getD i ce_bad = ce_bad by simp [List.getD, List.getElem?_eq_none (Nat.not_lt.mp hi)]] at hr
      cases hr
def ce_PreK (D : va_G) (ca : Nat → ClassId) (b0 : Nat → Prop) (ad : Nat → Nat → Nat) (S : ce_S) (U : State) : Prop := ce_GK D ca U ∧ ce_X ad b0 U ∧ ce_HK D ca b0 ad S U.heap
def ce_CtrK (l : Launch) (y : MethodName) (cc : ByteArray) (nL : Nat) (rt : Option FieldType) (d MC MS : Nat) (F : List ce_V → ce_S → ce_Rs) : Prop :=
  ∀ (D : va_G) (ca : Nat → ClassId) (b0 : Nat → Prop) (ad : Nat → Nat → Nat) (S : ce_S) (a : List ce_V) (res : Option ce_V × ce_S), F a S = some res → kokS S → ce_okT S a → ce_61 S →
    Met l y (Cond.code y cc nL rt :: ce_tw) (ce_rm d MC MS) (va_Pc (a.map (ce_val ad)) (ce_PreK D ca b0 ad S)) (ce_PoK D ca b0 ad S res) MC MS (fun q => b0 q)
theorem ce_blindK {D : va_G} {ca : Nat → ClassId} {b0 : Nat → Prop} {ad : Nat → Nat → Nat} {S : ce_S} {av : List Value} : FrameBlind (va_Pc av (ce_PreK D ca b0 ad S)) := by
  intro a U g mk h
  exact ⟨h.1, h.2.1.same rfl, h.2.2.1.same rfl rfl, h.2.2.2⟩

/-- a method's contract, by a run of its steps -/
theorem ce_ctr_ofK {l : Launch} {y : MethodName} {cc : ByteArray} {nL : Nat} {rt : Option FieldType} {d MC MS : Nat} {pcs : List Nat} {tb : List ce_Op} {F : List ce_V → ce_S → ce_Rs} (hy : plainName y.cls = true) (hyn : rt = none → y.name = "<init>") (h0 : pcs.getD 0 0 = 0) (hok : ce_OkLK l cc y.cls nL rt d MC MS pcs 0 tb)
    (hF : ∀ (a : List ce_V) (S : ce_S) (res : Option ce_V × ce_S), F a S = some res → a.length ≤ nL ∧ (∀ v ∈ a, ∀ x, v ≠ .inr (.inr x)) ∧ ∃ n, ce_run tb n 0 (0, 0) (a.map some ++ List.replicate (nL - a.length) none) [] S = some res) : ce_CtrK l y cc nL rt d MC MS F := by
  intro D ca b0 ad S a res hf hS hT h61
  obtain ⟨hn, hc, n, hr⟩ := hF a S res hf
  refine Met.ofW (cc := cc) (maxL := nL) (ret := rt) hy rfl ?_
  intro p e s m args below meth c s₁ B hml hv
  obtain ⟨rfl, hG, hX, hH⟩ := hv
  have hts := atoms_spec (ws := Cond.code y cc nL rt :: ce_tw) B.pre
  have hown : s.vm.findClass y.cls = some m.cls := findClass_of_methodNamed B.named
  have hcat : ∀ v ∈ a, (ce_val ad v).category = 1 := by
    intro v hv
    have := hc v hv
    match v, this with
    | .inl x, _ => rfl
    | .inr (.inl q), _ => rfl
    | .inr (.inr x), h => exact absurd rfl (h x)
  rw [lg_entry_eq]
  have w := ce_run_okK hok n 0 (0, 0) _ [] S res hr p e s m _ below meth c D ca b0 ad S ad s.heap [] _ ⟨B.exec, B.bytes, hml, hown, ⟨_, hts⟩, B.returns, B.notSynchronized, hG, fun z => (name_of_methodNamed B.named B.method).1.trans (hyn z)⟩ h61 hX ⟨hH, va_S.rf, ce_args_lv hcat hn, hS, fun j v hj => ?_, ce_ag.refl⟩ (fun v hv => by cases hv) (Nat.zero_le _) (Nat.zero_le _)
  · rw [h0] at w
    exact w
  · have hjl : j < a.length := by
      rcases Nat.lt_or_ge j a.length with q | q
      · exact q
      · rw [List.getElem?_append_right (by simpa using q), List.getElem?_replicate] at hj
        split at hj <;> cases hj
    rw [List.getElem?_append_left (by simpa using hjl), List.getElem?_map, List.getElem?_eq_getElem hjl] at hj
    have hv2 : a[j] = v := by simpa using hj
    subst hv2
    exact hT _ (List.getElem_mem hjl)
