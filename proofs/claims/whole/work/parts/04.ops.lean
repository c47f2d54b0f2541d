/-! the plain machine: a step is a function; a method's code is a list of steps -/
abbrev ce_Rs : Type := Option (Option ce_V × ce_S)
abbrev ce_K : Type := Nat → Nat × Nat → List (Option ce_V) → List ce_V → ce_S → ce_Rs
abbrev ce_Op : Type := Nat → Nat × Nat → List (Option ce_V) → List ce_V → ce_S → ce_K → ce_Rs
theorem ce_bt {X : ce_Rs} {a b : Nat} : (Bool.rec (motive := fun _ => ce_Rs) none X (Nat.beq a b) : ce_Rs) = if a = b then X else none := by
  by_cases h : a = b
  · subst h
    rw [if_pos rfl, show Nat.beq a a = true from by first | exact Nat.beq_refl a | simp]
  · rw [if_neg h, show Nat.beq a b = false from by cases hq : Nat.beq a b with | false => rfl | true => exact absurd (Nat.eq_of_beq_eq_true hq) h]
theorem ce_bl {X : ce_Rs} {a b : Nat} : (Bool.rec (motive := fun _ => ce_Rs) none X (Nat.ble a b) : ce_Rs) = if a ≤ b then X else none := by
  by_cases h : a ≤ b
  · rw [if_pos h, Nat.ble_eq_true_of_le h]
  · rw [if_neg h, show Nat.ble a b = false from by cases hq : Nat.ble a b with | false => rfl | true => exact absurd (Nat.le_of_ble_eq_true hq) h]
theorem ce_ba {X : ce_Rs} {b c : Bool} : (Bool.rec (motive := fun _ => ce_Rs) none X (b && c) : ce_Rs) = Bool.rec (motive := fun _ => ce_Rs) none (Bool.rec (motive := fun _ => ce_Rs) none X c) b := by cases b <;> rfl
theorem ce_bc {X : ce_Rs} {a b c d e f g h : Nat} : (Bool.rec (motive := fun _ => ce_Rs) none X (Nat.ble a b && (Nat.ble c d && (Nat.ble e f && Nat.ble g h))) : ce_Rs) = if a ≤ b ∧ c ≤ d ∧ e ≤ f ∧ g ≤ h then X else none := by
  rw [ce_ba, ce_ba, ce_ba, ce_bl, ce_bl, ce_bl, ce_bl]
  by_cases h1 : a ≤ b <;> by_cases h2 : c ≤ d <;> by_cases h3 : e ≤ f <;> by_cases h4 : g ≤ h <;> simp [h1, h2, h3, h4]
def ce_bad : ce_Op := fun _ _ _ _ _ _ => none
noncomputable def ce_run (tb : List ce_Op) (n : Nat) : ce_K := Nat.rec (motive := fun _ => ce_K) (fun _ _ _ _ _ => none) (fun _ ih i nn ls st S => (tb.getD i ce_bad) i nn ls st S ih) n
def o_int (v : Int32) : ce_Op := fun i nn ls st S k => k (i + 1) nn ls (.inl v :: st) S
def o_long (v : Int64) : ce_Op := fun i nn ls st S k => k (i + 1) nn ls (.inr (.inr v) :: st) S
def o_iload (j : Nat) : ce_Op := fun i nn ls st S k => match ls.getD j none with
  | some (.inl x) => k (i + 1) nn ls (.inl x :: st) S
  | _ => none
def o_aload (j : Nat) : ce_Op := fun i nn ls st S k => match ls.getD j none with
  | some (.inr (.inl q)) => k (i + 1) nn ls (.inr (.inl q) :: st) S
  | _ => none
def o_istore (j : Nat) : ce_Op := fun i nn ls st S k => match st with
  | .inl x :: r => k (i + 1) nn (ls.set j (some (.inl x))) r S
  | _ => none
def o_astore (j : Nat) : ce_Op := fun i nn ls st S k => match st with
  | .inr (.inl q) :: r => k (i + 1) nn (ls.set j (some (.inr (.inl q)))) r S
  | _ => none
noncomputable def o_iinc (j : Nat) (d : Int32) : ce_Op := fun i nn ls st S k => match ls.getD j none with
  | some (.inl x) => k (i + 1) nn (ls.set j (some (.inl (q_add x d)))) st S
  | _ => none
def o_bin (f : Int32 → Int32 → Int32) : ce_Op := fun i nn ls st S k => match st with
  | .inl y :: .inl x :: r => k (i + 1) nn ls (.inl (f x y) :: r) S
  | _ => none
noncomputable def o_div : ce_Op := fun i nn ls st S k => match st with
  | .inl y :: .inl x :: r => if y = 0 then none else k (i + 1) nn ls (.inl (q_div x y) :: r) S
  | _ => none
noncomputable def o_rem : ce_Op := fun i nn ls st S k => match st with
  | .inl y :: .inl x :: r => if y = 0 then none else k (i + 1) nn ls (.inl (q_rem x y) :: r) S
  | _ => none
def o_un (f : Int32 → Int32) : ce_Op := fun i nn ls st S k => match st with
  | .inl x :: r => k (i + 1) nn ls (.inl (f x) :: r) S
  | _ => none
def o_i2l : ce_Op := fun i nn ls st S k => match st with
  | .inl x :: r => k (i + 1) nn ls (.inr (.inr x.toInt64) :: r) S
  | _ => none
def o_lcmp : ce_Op := fun i nn ls st S k => match st with
  | .inr (.inr y) :: .inr (.inr x) :: r => k (i + 1) nn ls (.inl (lg_cmp x y) :: r) S
  | _ => none
def o_goto (t : Nat) : ce_Op := fun _ nn ls st S k => k t nn ls st S
def o_ifeq (t : Nat) : ce_Op := fun i nn ls st S k => match st with
  | .inl x :: r => if x = 0 then k t nn ls r S else k (i + 1) nn ls r S
  | _ => none
def o_ifne (t : Nat) : ce_Op := fun i nn ls st S k => match st with
  | .inl x :: r => if x = 0 then k (i + 1) nn ls r S else k t nn ls r S
  | _ => none
def o_iflt (t : Nat) : ce_Op := fun i nn ls st S k => match st with
  | .inl x :: r => if x < 0 then k t nn ls r S else k (i + 1) nn ls r S
  | _ => none
def o_ifge (t : Nat) : ce_Op := fun i nn ls st S k => match st with
  | .inl x :: r => if 0 ≤ x then k t nn ls r S else k (i + 1) nn ls r S
  | _ => none
def o_ifgt (t : Nat) : ce_Op := fun i nn ls st S k => match st with
  | .inl x :: r => if 0 < x then k t nn ls r S else k (i + 1) nn ls r S
  | _ => none
def o_ifle (t : Nat) : ce_Op := fun i nn ls st S k => match st with
  | .inl x :: r => if x ≤ 0 then k t nn ls r S else k (i + 1) nn ls r S
  | _ => none
def o_cmpeq (t : Nat) : ce_Op := fun i nn ls st S k => match st with
  | .inl y :: .inl x :: r => if x = y then k t nn ls r S else k (i + 1) nn ls r S
  | _ => none
def o_cmpne (t : Nat) : ce_Op := fun i nn ls st S k => match st with
  | .inl y :: .inl x :: r => if x = y then k (i + 1) nn ls r S else k t nn ls r S
  | _ => none
def o_cmplt (t : Nat) : ce_Op := fun i nn ls st S k => match st with
  | .inl y :: .inl x :: r => if x < y then k t nn ls r S else k (i + 1) nn ls r S
  | _ => none
def o_cmpge (t : Nat) : ce_Op := fun i nn ls st S k => match st with
  | .inl y :: .inl x :: r => if y ≤ x then k t nn ls r S else k (i + 1) nn ls r S
  | _ => none
def o_cmpgt (t : Nat) : ce_Op := fun i nn ls st S k => match st with
  | .inl y :: .inl x :: r => if y < x then k t nn ls r S else k (i + 1) nn ls r S
  | _ => none
def o_cmple (t : Nat) : ce_Op := fun i nn ls st S k => match st with
  | .inl y :: .inl x :: r => if x ≤ y then k t nn ls r S else k (i + 1) nn ls r S
  | _ => none
def ce_sw (x : Int32) : List (Int32 × Nat) → Nat → (Nat → ce_Rs) → ce_Rs
  | [], d, kk => kk d
  | q :: r, d, kk => if x = q.1 then kk q.2 else ce_sw x r d kk
def o_sw (ks : List (Int32 × Nat)) (d : Nat) : ce_Op := fun _ nn ls st S k => match st with
  | .inl x :: r => ce_sw x ks d (fun t => k t nn ls r S)
  | _ => none
def o_dup : ce_Op := fun i nn ls st S k => match st with
  | .inl x :: r => k (i + 1) nn ls (.inl x :: .inl x :: r) S
  | .inr (.inl x) :: r => k (i + 1) nn ls (.inr (.inl x) :: .inr (.inl x) :: r) S
  | _ => none
def o_dup2 : ce_Op := fun i nn ls st S k => match st with
  | .inl y :: .inr (.inl x) :: r => k (i + 1) nn ls (.inl y :: .inr (.inl x) :: .inl y :: .inr (.inl x) :: r) S
  | _ => none
def o_pop : ce_Op := fun i nn ls st S k => match st with
  | .inl _ :: r => k (i + 1) nn ls r S
  | _ => none
noncomputable def o_getI (t f : Nat) : ce_Op := fun i nn ls st S k => match st with
  | .inr (.inl q) :: r => Bool.rec (motive := fun _ => ce_Rs) none (k (i + 1) nn ls (.inl (ce_I S t f q.2) :: r) S) (Nat.beq q.1 t)
  | _ => none
noncomputable def o_getS (t t' : Nat) (g : Nat → Nat) : ce_Op := fun i nn ls st S k => match st with
  | .inr (.inl q) :: r => Bool.rec (motive := fun _ => ce_Rs) none (k (i + 1) nn ls (.inr (.inl (t', g q.2)) :: r) S) (Nat.beq q.1 t)
  | _ => none
noncomputable def o_getM (t f t' : Nat) : ce_Op := fun i nn ls st S k => match st with
  | .inr (.inl q) :: r => Bool.rec (motive := fun _ => ce_Rs) none (k (i + 1) nn ls (.inr (.inl (t', ce_R S t f q.2)) :: r) S) (Nat.beq q.1 t)
  | _ => none
noncomputable def o_putI (t f : Nat) : ce_Op := fun i nn ls st S k => match st with
  | .inl x :: .inr (.inl q) :: r => Bool.rec (motive := fun _ => ce_Rs) none (k (i + 1) nn ls r (ce_sI S t f q.2 x)) (Nat.beq q.1 t)
  | _ => none
noncomputable def o_putZ (t f : Nat) : ce_Op := fun i nn ls st S k => match st with
  | .inl x :: .inr (.inl q) :: r => Bool.rec (motive := fun _ => ce_Rs) none ((if x = 0 ∨ x = 1 then k (i + 1) nn ls r (ce_sI S t f q.2 x) else none)) (Nat.beq q.1 t)
  | _ => none
noncomputable def o_putM (t f t' : Nat) : ce_Op := fun i nn ls st S k => match st with
  | .inr (.inl v) :: .inr (.inl q) :: r => Bool.rec (motive := fun _ => ce_Rs) none ((if v.1 = t' then k (i + 1) nn ls r (ce_sR S t f q.2 v.2) else none)) (Nat.beq q.1 t)
  | _ => none
noncomputable def o_ild (t : Nat) : ce_Op := fun i nn ls st S k => match st with
  | .inl j :: .inr (.inl q) :: r => Bool.rec (motive := fun _ => ce_Rs) none ((if j < 0 ∨ ce_len S t q.2 ≤ j.toNatClampNeg then none else k (i + 1) nn ls (.inl (ce_A S t q.2 j.toNatClampNeg) :: r) S)) (Nat.beq q.1 t)
  | _ => none
noncomputable def o_ist (t : Nat) : ce_Op := fun i nn ls st S k => match st with
  | .inl x :: .inl j :: .inr (.inl q) :: r => Bool.rec (motive := fun _ => ce_Rs) none ((if j < 0 ∨ ce_len S t q.2 ≤ j.toNatClampNeg then none else k (i + 1) nn ls r (ce_sA S t q.2 j.toNatClampNeg x))) (Nat.beq q.1 t)
  | _ => none
noncomputable def o_alen (t : Nat) : ce_Op := fun i nn ls st S k => match st with
  | .inr (.inl q) :: r => Bool.rec (motive := fun _ => ce_Rs) none (k (i + 1) nn ls (.inl (nI (ce_len S t q.2)) :: r) S) (Nat.beq q.1 t)
  | _ => none
noncomputable def o_ald (t t' : Nat) (g : Nat → Nat) : ce_Op := fun i nn ls st S k => match st with
  | .inl j :: .inr (.inl q) :: r => Bool.rec (motive := fun _ => ce_Rs) none ((if j < 0 ∨ ce_len S t q.2 ≤ j.toNatClampNeg then none else k (i + 1) nn ls (.inr (.inl (t', g j.toNatClampNeg)) :: r) S)) (Nat.beq q.1 t)
  | _ => none
noncomputable def o_aldQ : ce_Op := fun i nn ls st S k => match st with
  | .inl j :: .inr (.inl q) :: r => Bool.rec (motive := fun _ => ce_Rs) none ((if j < 0 ∨ 6 ≤ j.toNatClampNeg then none else (ce_Q S j.toNatClampNeg).bind fun x => k (i + 1) nn ls (.inr (.inl (13, x)) :: r) S)) (Nat.beq q.1 5)
  | _ => none
def o_iret : ce_Op := fun _ _ _ st S _ => match st with
  | [.inl x] => some (some (.inl x), S)
  | _ => none
def o_zret : ce_Op := fun _ _ _ st S _ => match st with
  | [.inl x] => if x = 0 ∨ x = 1 then some (some (.inl x), S) else none
  | _ => none
def o_lret : ce_Op := fun _ _ _ st S _ => match st with
  | [.inr (.inr x)] => some (some (.inr (.inr x)), S)
  | _ => none
def o_aret : ce_Op := fun _ _ _ st S _ => match st with
  | [.inr (.inl q)] => some (some (.inr (.inl q)), S)
  | _ => none
def o_vret : ce_Op := fun _ _ _ st S _ => match st with
  | [] => some (none, S)
  | _ => none
noncomputable def o_mmax : ce_Op := fun i nn ls st S k => match st with
  | .inl y :: .inl x :: r => Bool.rec (motive := fun _ => ce_Rs) none (k (i + 1) nn ls (.inl (if x < y then y else x) :: r) S) (Nat.ble r.length 4)
  | _ => none
noncomputable def o_mmin : ce_Op := fun i nn ls st S k => match st with
  | .inl y :: .inl x :: r => Bool.rec (motive := fun _ => ce_Rs) none (k (i + 1) nn ls (.inl (if y < x then y else x) :: r) S) (Nat.ble r.length 4)
  | _ => none
noncomputable def o_inst (f : Nat → Int32) : ce_Op := fun i nn ls st S k => match st with
  | .inr (.inl q) :: r => Bool.rec (motive := fun _ => ce_Rs) none (k (i + 1) nn ls (.inl (f q.2) :: r) S) (Nat.beq q.1 10)
  | _ => none
noncomputable def o_cv (n : Nat) (F : List ce_V → ce_S → Option ce_S) (mc ms MC MS : Nat) : ce_Op := fun i nn ls st S k =>
  Bool.rec (motive := fun _ => ce_Rs) none ((F (st.take n).reverse S).bind fun S' => k (i + 1) (nn.1 + mc, nn.2 + ms) ls (st.drop n) S') (Nat.ble (nn.1 + mc) MC && (Nat.ble (nn.2 + ms) MS && (Nat.ble (st.drop n).length 4 && Nat.ble n st.length)))
noncomputable def o_ci (n : Nat) (F : List ce_V → ce_S → Option (Int32 × ce_S)) (mc ms MC MS : Nat) : ce_Op := fun i nn ls st S k =>
  Bool.rec (motive := fun _ => ce_Rs) none ((F (st.take n).reverse S).bind fun q => k (i + 1) (nn.1 + mc, nn.2 + ms) ls (.inl q.1 :: st.drop n) q.2) (Nat.ble (nn.1 + mc) MC && (Nat.ble (nn.2 + ms) MS && (Nat.ble (st.drop n).length 4 && Nat.ble n st.length)))
noncomputable def o_cl (n : Nat) (F : List ce_V → ce_S → Option (Int64 × ce_S)) (mc ms MC MS : Nat) : ce_Op := fun i nn ls st S k =>
  Bool.rec (motive := fun _ => ce_Rs) none ((F (st.take n).reverse S).bind fun q => k (i + 1) (nn.1 + mc, nn.2 + ms) ls (.inr (.inr q.1) :: st.drop n) q.2) (Nat.ble (nn.1 + mc) MC && (Nat.ble (nn.2 + ms) MS && (Nat.ble (st.drop n).length 4 && Nat.ble n st.length)))
noncomputable def o_cr (n t : Nat) (F : List ce_V → ce_S → Option (Nat × ce_S)) (mc ms MC MS : Nat) : ce_Op := fun i nn ls st S k =>
  Bool.rec (motive := fun _ => ce_Rs) none ((F (st.take n).reverse S).bind fun q => k (i + 1) (nn.1 + mc, nn.2 + ms) ls (.inr (.inl (t, q.1)) :: st.drop n) q.2) (Nat.ble (nn.1 + mc) MC && (Nat.ble (nn.2 + ms) MS && (Nat.ble (st.drop n).length 4 && Nat.ble n st.length)))
/-! what such a state is on the machine -/
def ce_rm (d MC MS : Nat) : Room := { frames := d, cells := MC, slots := MS, locals := 60 * d }
def ce_Cx (p : Program) (s : State) (m : MethodId) (args : Array Value) (meth : Method) (c : Code) (cc : ByteArray) (own : String) (nL : Nat) (rt : Option FieldType) (D : va_G) (ca : Nat → ClassId) : Prop :=
  p.tables.exec = Jvm.exec ∧ c.code = cc ∧ c.maxLocals = nL ∧ s.vm.findClass own = some m.cls ∧ (∃ w0 : Cond, ∀ w ∈ w0 :: ce_tw, w.before args s = true) ∧ meth.sig.returnType = rt ∧ meth.locks = false ∧ ce_G D ca s
def ce_lv (ad : Nat → Nat → Nat) (rls : Array Slot) (nL : Nat) (ls : List (Option ce_V)) : Prop := rls.size = nL ∧ lv_wf rls ∧ ls.length = nL ∧ ∀ (j : Nat) (v : ce_V), ls[j]? = some (some v) → rls[j]? = some (.val (ce_val ad v)) ∧ (ce_val ad v).category = 1
def ce_ag (S0 : ce_S) (ad0 : Nat → Nat → Nat) (S : ce_S) (ad : Nat → Nat → Nat) : Prop := ∀ t i, i < ce_C S0 t → ad t i = ad0 t i ∧ i < ce_C S t
def ce_Po (D : va_G) (ca : Nat → ClassId) (b0 : Nat → Prop) (ad : Nat → Nat → Nat) (S : ce_S) (res : Option ce_V × ce_S) : Array Value → State → Outcome → State → Prop := fun _ st oc t => ∃ ad' : Nat → Nat → Nat, ce_ag S ad res.2 ad' ∧ oc = .returned (res.1.map (ce_val ad')) ∧ ce_okS res.2 ∧ (∀ v, res.1 = some v → ce_okV res.2 v) ∧ ce_H D ca b0 ad' res.2 t.heap ∧ va_F (fun q => b0 q) st t
def ce_Rel (D : va_G) (ca : Nat → ClassId) (b0 : Nat → Prop) (ad0 : Nat → Nat → Nat) (S0 : ce_S) (ad : Nat → Nat → Nat) (s : State) (H : Heap) (locs : List Loc) (rls : Array Slot) (nL : Nat) (ls : List (Option ce_V)) (S : ce_S) : Prop :=
  ce_H D ca b0 ad S H ∧ va_S (fun q => b0 q) s.heap H locs ∧ ce_lv ad rls nL ls ∧ ce_okS S ∧ ce_okL S ls ∧ ce_ag S0 ad0 S ad
def ce_Wn (l : Launch) (cc : ByteArray) (own : String) (nL : Nat) (rt : Option FieldType) (d MC MS : Nat) (pcs : List Nat) (res : Option ce_V × ce_S) (i : Nat) (nn : Nat × Nat) (ls : List (Option ce_V)) (st : List ce_V) (S : ce_S) : Prop :=
  ∀ (p : Program) (e : Env) (s : State) (m : MethodId) (args : Array Value) (below : List Frame) (meth : Method) (c : Code) (D : va_G) (ca : Nat → ClassId) (b0 : Nat → Prop) (ad0 : Nat → Nat → Nat) (S0 : ce_S) (ad : Nat → Nat → Nat) (H : Heap) (locs : List Loc) (rls : Array Slot),
    ce_Cx p s m args meth c cc own nL rt D ca → ce_61 S0 → ce_X ad0 b0 s → ce_Rel D ca b0 ad0 S0 ad s H locs rls nL ls S → ce_okT S st → nn.1 ≤ MC → nn.2 ≤ MS →
    W p l e (ce_rm d MC MS) s m args below meth c H locs nn.1 nn.2 (MQ below (ce_Po D ca b0 ad0 S0 res) args s MC MS (fun q => b0 q)) (F0 m (pcs.getD i 0) rls (st.map (ce_val ad)))
def ce_Ok (l : Launch) (cc : ByteArray) (own : String) (nL : Nat) (rt : Option FieldType) (d MC MS : Nat) (pcs : List Nat) (i : Nat) (op : ce_Op) : Prop :=
  ∀ (nn : Nat × Nat) (ls : List (Option ce_V)) (st : List ce_V) (S : ce_S) (k : ce_K) (res : Option ce_V × ce_S), op i nn ls st S k = some res → (∀ i' nn' ls' st' S', k i' nn' ls' st' S' = some res → ce_Wn l cc own nL rt d MC MS pcs res i' nn' ls' st' S') → ce_Wn l cc own nL rt d MC MS pcs res i nn ls st S
def ce_OkL (l : Launch) (cc : ByteArray) (own : String) (nL : Nat) (rt : Option FieldType) (d MC MS : Nat) (pcs : List Nat) : Nat → List ce_Op → Prop
  | _, [] => True
  | i, o :: r => ce_Ok l cc own nL rt d MC MS pcs i o ∧ ce_OkL l cc own nL rt d MC MS pcs (i + 1) r
theorem ce_OkL.at {l : Launch} {cc : ByteArray} {own : String} {nL : Nat} {rt : Option FieldType} {d MC MS : Nat} {pcs : List Nat} : ∀ (tb : List ce_Op) (i j : Nat), ce_OkL l cc own nL rt d MC MS pcs i tb → j < tb.length → ce_Ok l cc own nL rt d MC MS pcs (i + j) (tb.getD j ce_bad) := by
  intro tb
  induction tb with
  | nil => intro i j _ h; exact absurd h (Nat.not_lt_zero _)
  | cons o r ih =>
    intro i j h hj
    cases j with
    | zero => exact h.1
    | succ j =>
      have := ih (i + 1) j h.2 (by simpa using hj)
      rw [show i + (j + 1) = i + 1 + j by omega]
      simpa using this
theorem ce_run_ok {l : Launch} {cc : ByteArray} {own : String} {nL : Nat} {rt : Option FieldType} {d MC MS : Nat} {pcs : List Nat} {tb : List ce_Op} (h : ce_OkL l cc own nL rt d MC MS pcs 0 tb) : ∀ (n i : Nat) (nn : Nat × Nat) (ls : List (Option ce_V)) (st : List ce_V) (S : ce_S) (res : Option ce_V × ce_S), ce_run tb n i nn ls st S = some res → ce_Wn l cc own nL rt d MC MS pcs res i nn ls st S := by
  intro n
  induction n with
  | zero => intro i nn ls st S res h; cases h
  | succ n ih =>
    intro i nn ls st S res hr
    have hr : (tb.getD i ce_bad) i nn ls st S (ce_run tb n) = some res := hr
    by_cases hi : i < tb.length
    · have h1 := h.at tb 0 i hi
      rw [Nat.zero_add] at h1
      exact h1 nn ls st S _ res hr (fun i' nn' ls' st' S' h2 => ih i' nn' ls' st' S' res h2)
    · rw [show tb.getD i ce_bad = ce_bad by simp [List.getD, List.getElem?_eq_none (Nat.not_lt.mp hi)]] at hr
      cases hr
