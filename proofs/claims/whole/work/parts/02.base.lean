/-! arithmetic that is left alone till it is wanted -/
theorem q_ex2 (f : Int32 → Int32 → Int32) : ∃ g : Int32 → Int32 → Int32, g = f := ⟨f, rfl⟩
theorem q_ex1 (f : Int32 → Int32) : ∃ g : Int32 → Int32, g = f := ⟨f, rfl⟩
noncomputable def q_add : Int32 → Int32 → Int32 := Classical.choose (q_ex2 (fun x y => x + y))
theorem q_add_eq (x y : Int32) : q_add x y = x + y := congrFun (congrFun (Classical.choose_spec (q_ex2 (fun x y => x + y))) x) y
noncomputable def q_sub : Int32 → Int32 → Int32 := Classical.choose (q_ex2 (fun x y => x - y))
theorem q_sub_eq (x y : Int32) : q_sub x y = x - y := congrFun (congrFun (Classical.choose_spec (q_ex2 (fun x y => x - y))) x) y
noncomputable def q_mul : Int32 → Int32 → Int32 := Classical.choose (q_ex2 (fun x y => x * y))
theorem q_mul_eq (x y : Int32) : q_mul x y = x * y := congrFun (congrFun (Classical.choose_spec (q_ex2 (fun x y => x * y))) x) y
noncomputable def q_and : Int32 → Int32 → Int32 := Classical.choose (q_ex2 (fun x y => x &&& y))
theorem q_and_eq (x y : Int32) : q_and x y = x &&& y := congrFun (congrFun (Classical.choose_spec (q_ex2 (fun x y => x &&& y))) x) y
noncomputable def q_div : Int32 → Int32 → Int32 := Classical.choose (q_ex2 (fun x y => x / y))
theorem q_div_eq (x y : Int32) : q_div x y = x / y := congrFun (congrFun (Classical.choose_spec (q_ex2 (fun x y => x / y))) x) y
noncomputable def q_rem : Int32 → Int32 → Int32 := Classical.choose (q_ex2 (fun x y => x - x / y * y))
theorem q_rem_eq (x y : Int32) : q_rem x y = x - x / y * y := congrFun (congrFun (Classical.choose_spec (q_ex2 (fun x y => x - x / y * y))) x) y
noncomputable def q_ushr : Int32 → Int32 → Int32 := Classical.choose (q_ex2 (fun x y => (x.toUInt32 >>> (y.toUInt32 &&& Int32.toUInt32 31)).toInt32))
theorem q_ushr_eq (x y : Int32) : q_ushr x y = (x.toUInt32 >>> (y.toUInt32 &&& Int32.toUInt32 31)).toInt32 := congrFun (congrFun (Classical.choose_spec (q_ex2 (fun x y => (x.toUInt32 >>> (y.toUInt32 &&& Int32.toUInt32 31)).toInt32))) x) y
noncomputable def q_neg : Int32 → Int32 := Classical.choose (q_ex1 (fun x => -x))
theorem q_neg_eq (x : Int32) : q_neg x = -x := congrFun (Classical.choose_spec (q_ex1 (fun x => -x))) x
noncomputable def q_i2b : Int32 → Int32 := Classical.choose (q_ex1 (fun x => x.toInt8.toInt32))
theorem q_i2b_eq (x : Int32) : q_i2b x = x.toInt8.toInt32 := congrFun (Classical.choose_spec (q_ex1 (fun x => x.toInt8.toInt32))) x
noncomputable def q_i2s : Int32 → Int32 := Classical.choose (q_ex1 (fun x => x.toInt16.toInt32))
theorem q_i2s_eq (x : Int32) : q_i2s x = x.toInt16.toInt32 := congrFun (Classical.choose_spec (q_ex1 (fun x => x.toInt16.toInt32))) x
/-! values and states of the plain machine: ints, references by kind and place, longs -/
abbrev ce_V : Type := Int32 ⊕ (Nat × Nat) ⊕ Int64
abbrev ce_S : Type := (Nat → Nat → Nat → Int32) × (Nat → Nat → Nat → Nat) × (Nat → Nat → Nat → Int32) × (Nat → Nat → Nat) × (Nat → Nat) × (Nat → Option Nat)
def ce_I (S : ce_S) : Nat → Nat → Nat → Int32 := S.1
def ce_R (S : ce_S) : Nat → Nat → Nat → Nat := S.2.1
def ce_A (S : ce_S) : Nat → Nat → Nat → Int32 := S.2.2.1
def ce_L (S : ce_S) : Nat → Nat → Nat := S.2.2.2.1
def ce_C (S : ce_S) : Nat → Nat := S.2.2.2.2.1
def ce_Q (S : ce_S) : Nat → Option Nat := S.2.2.2.2.2
def ce_u {α : Type} (f : Nat → Nat → Nat → α) (t k i : Nat) (v : α) : Nat → Nat → Nat → α := fun t' k' i' => if t' = t then (if k' = k then (if i' = i then v else f t' k' i') else f t' k' i') else f t' k' i'
def ce_sI (S : ce_S) (t k i : Nat) (v : Int32) : ce_S := (ce_u S.1 t k i v, S.2)
def ce_sR (S : ce_S) (t k i v : Nat) : ce_S := (S.1, ce_u S.2.1 t k i v, S.2.2)
def ce_sA (S : ce_S) (t i e : Nat) (v : Int32) : ce_S := (S.1, S.2.1, ce_u S.2.2.1 t i e v, S.2.2.2)
def ce_sF (S : ce_S) (t i : Nat) (f : Nat → Int32) : ce_S := (S.1, S.2.1, (fun t' i' => if t' = t then (if i' = i then f else S.2.2.1 t' i') else S.2.2.1 t' i'), S.2.2.2)
def ce_sQ (S : ce_S) (e v : Nat) : ce_S := (S.1, S.2.1, S.2.2.1, S.2.2.2.1, S.2.2.2.2.1, fun e' => if e' = e then some v else S.2.2.2.2.2 e')
def ce_val (ad : Nat → Nat → Nat) (v : ce_V) : Value := match v with
  | .inl x => .int x
  | .inr (.inl q) => .ref (ad q.1 q.2)
  | .inr (.inr x) => .long x
/-! the kinds of cells. Component: 0 the object, 1 kinds, 2 folk, 3 crowd, 4 keptFolk, 5 texts, 6 sheets (arrays), 7 tape, 8 letters, 9 steps, 10 kinds' objects, 11 sellers, 12 scenes, 13 texts, 14 codes, 15 sheets, 16 items, 17 stacks. Reference: 20 the object, 21 .. 27 kind cost number said cups stands price, 28 tape, 29 codes, 30 codeLong, 31 held, 32 stack, 33 kept, 34 sort, 35 size, 36 cells, 37 moved, 40 words, 41 a word. 60 the script, 61 text constants -/
abbrev ce_FK : Type := Unit ⊕ (Nat × (Nat → Nat)) ⊕ Nat
def ce_k0 (i : Nat) : Nat := i
def ce_k3 (e : Nat) : Nat := 3 * e
def ce_k31 (e : Nat) : Nat := 3 * e + 1
def ce_k32 (e : Nat) : Nat := 3 * e + 2
def ce_fst (t : Nat) : ce_FK := .inr (.inl (t, fun _ => 0))
def ce_fk (t k : Nat) : ce_FK := match t with
  | 0 => (match k with
    | 0 => ce_fst 1
    | 1 => ce_fst 2
    | 2 => ce_fst 12
    | 3 => ce_fst 5
    | 4 => ce_fst 7
    | 5 => ce_fst 6
    | 8 => .inr (.inl (11, fun _ => 18))
    | 9 => ce_fst 3
    | 10 => .inr (.inl (12, fun _ => 1))
    | 11 => ce_fst 4
    | 12 => .inr (.inl (12, fun _ => 2))
    | _ => .inl ())
  | 7 => (match k with
    | 1 => ce_fst 8
    | 2 => ce_fst 9
    | _ => .inl ())
  | 11 => (match k with
    | 0 => .inr (.inr 10)
    | _ => .inl ())
  | 12 => (match k with
    | 4 => .inr (.inr 13)
    | _ => .inl ())
  | 13 => (match k with
    | 0 => .inr (.inl (14, ce_k0))
    | 3 => .inr (.inl (17, ce_k0))
    | _ => .inl ())
  | 15 => (match k with
    | 0 => .inr (.inl (16, ce_k0))
    | _ => .inl ())
  | 20 => (match k with
    | 0 => ce_fst 21
    | 1 => ce_fst 22
    | 2 => ce_fst 23
    | 3 => ce_fst 24
    | 4 => ce_fst 25
    | 5 => ce_fst 26
    | 6 => ce_fst 27
    | 12 => ce_fst 40
    | 13 => ce_fst 28
    | 14 => ce_fst 29
    | 15 => ce_fst 30
    | 16 => ce_fst 31
    | 17 => ce_fst 32
    | 27 => ce_fst 33
    | 41 => ce_fst 34
    | 42 => ce_fst 35
    | 43 => ce_fst 36
    | 44 => ce_fst 37
    | _ => .inl ())
  | _ => .inl ()
/-- 0 an object, 1 a row of ints, 2 a row of references, 3 none of ours -/
def ce_so (t : Nat) : Nat := match t with
  | 0 => 0
  | 1 => 2
  | 2 => 2
  | 3 => 2
  | 4 => 2
  | 5 => 2
  | 6 => 2
  | 7 => 0
  | 8 => 1
  | 9 => 1
  | 10 => 0
  | 11 => 0
  | 12 => 0
  | 13 => 0
  | 14 => 1
  | 15 => 0
  | 16 => 1
  | 17 => 1
  | 20 => 0
  | 21 => 1
  | 22 => 1
  | 23 => 1
  | 24 => 1
  | 25 => 1
  | 26 => 1
  | 27 => 1
  | 28 => 1
  | 29 => 1
  | 30 => 1
  | 31 => 1
  | 32 => 1
  | 33 => 1
  | 34 => 1
  | 35 => 1
  | 36 => 1
  | 37 => 1
  | 40 => 2
  | 41 => 1
  | _ => 3
/-- an object's kind among vwCl -/
def ce_ci (t i : Nat) : Nat := match t with
  | 0 => 11
  | 7 => 9
  | 10 => (match i with
    | 0 => 3
    | 1 => 2
    | 2 => 8
    | 3 => 7
    | 4 => 0
    | _ => 1)
  | 11 => 5
  | 12 => 4
  | 13 => 10
  | 15 => 6
  | _ => 12
/-- a row's kind: 0 int, 1 Kind, 2 Seller, 3 Text, 4 Sheet, 5 int[] -/
def ce_ac (t : Nat) : Nat := match t with
  | 1 => 1
  | 2 => 2
  | 3 => 2
  | 4 => 2
  | 5 => 3
  | 6 => 4
  | 40 => 5
  | _ => 0
/-- a row's length, where it is fixed -/
def ce_sl (t : Nat) : Option Nat := match t with
  | 1 => some 6
  | 2 => some 6
  | 3 => some 6
  | 4 => some 6
  | 5 => some 6
  | 6 => some 4
  | 8 => some 160
  | 9 => some 160
  | 16 => some 40
  | 21 => some 6
  | 22 => some 6
  | 23 => some 6
  | 24 => some 6
  | 25 => some 6
  | 26 => some 6
  | 27 => some 6
  | 28 => some 160
  | 29 => some 3060
  | 30 => some 18
  | 31 => some 200
  | 32 => some 200
  | 33 => some 180
  | 34 => some 4
  | 35 => some 4
  | 36 => some 160
  | 37 => some 40
  | 40 => some 12
  | _ => none
def ce_len (S : ce_S) (t i : Nat) : Nat := match ce_sl t with
  | some n => n
  | none => ce_L S t i
/-- a row's items: of which kind, which -/
def ce_et (t : Nat) : Nat := match t with
  | 1 => 10
  | 5 => 13
  | 6 => 15
  | 40 => 41
  | _ => 11
def ce_eg (t : Nat) : Option (Nat → Nat) := match t with
  | 1 => some ce_k0
  | 2 => some ce_k3
  | 3 => some ce_k31
  | 4 => some ce_k32
  | 6 => some ce_k0
  | 40 => some ce_k0
  | _ => none
def ce_el (S : ce_S) (t e : Nat) : Option Nat := match ce_eg t with
  | some g => some (g e)
  | none => ce_Q S e
def ce_fv (ad : Nat → Nat → Nat) (S : ce_S) (t k i : Nat) : Value := match ce_fk t k with
  | .inl _ => .int (ce_I S t k i)
  | .inr (.inl q) => .ref (ad q.1 (q.2 i))
  | .inr (.inr t') => .ref (ad t' (ce_R S t k i))
/-- a cell of the heap holds what the state says -/
def ce_at (D : va_G) (ca : Nat → ClassId) (ad : Nat → Nat → Nat) (S : ce_S) (t i : Nat) (H : Heap) : Prop :=
  (ce_so t = 0 → ∃ r : vw_C, vwCl[ce_ci t i]? = some r ∧ t_OB (ad t i) (D.1 (ce_ci t i)) r.2.2 (D.2 (ce_ci t i)) H (fun k => ce_fv ad S t k i)) ∧
  (ce_so t = 1 → H[ad t i]? = some (vp_cell (ca 0) (ce_len S t i, .inl (fun e => ce_A S t i e)))) ∧
  (ce_so t = 2 → H[ad t i]? = some (vp_cell (ca (ce_ac t)) (ce_len S t i, .inr (.inr (.inr (.inr (fun e => (ce_el S t e).map (ad (ce_et t)))))))))
def ce_H (D : va_G) (ca : Nat → ClassId) (b0 : Nat → Prop) (ad : Nat → Nat → Nat) (S : ce_S) (H : Heap) : Prop :=
  (∀ t i, i < ce_C S t → ce_so t < 3 → ce_at D ca ad S t i H ∧ b0 (ad t i) ∧ ad t i < H.size) ∧ (∀ t i t' i', i < ce_C S t → i' < ce_C S t' → ce_so t < 3 → ce_so t' < 3 → ad t i = ad t' i' → t = t' ∧ i = i')
def ce_okV (S : ce_S) (v : ce_V) : Prop := match v with
  | .inr (.inl q) => q.2 < ce_C S q.1
  | _ => True
def ce_okT (S : ce_S) (st : List ce_V) : Prop := ∀ v ∈ st, ce_okV S v
def ce_okL (S : ce_S) (ls : List (Option ce_V)) : Prop := ∀ (j : Nat) (v : ce_V), ls[j]? = some (some v) → ce_okV S v
/-- every reference that is held is one -/
def ce_okS (S : ce_S) : Prop :=
  (∀ t k i, i < ce_C S t → ce_so t = 0 → (∀ q, ce_fk t k = .inr (.inl q) → q.2 i < ce_C S q.1) ∧ (∀ t', ce_fk t k = .inr (.inr t') → ce_R S t k i < ce_C S t')) ∧
  (∀ t i e x, i < ce_C S t → ce_so t = 2 → e < ce_len S t i → ce_el S t e = some x → x < ce_C S (ce_et t))
def ce_tys (ca : Nat → ClassId) : List (ClassId × FieldType) := [(ca 0, .int), (ca 1, .object RX3), (ca 2, .object RX5), (ca 3, .object RX10), (ca 4, .object RX6), (ca 5, .array .int)]
/-- the tables' words that stay -/
def ce_tw : List Cond := lw_tbl.filter goodWord
theorem ce_tw_in {w : Cond} (h : w ∈ lw_tbl) (g : goodWord w = true) : w ∈ ce_tw := List.mem_filter.mpr ⟨h, g⟩
theorem ce_goodIn {y : MethodName} {cc : ByteArray} {n : Nat} {r : Option FieldType} {y' : MethodName} {cc' : ByteArray} {n' : Nat} {r' : Option FieldType} (h : Cond.code y' cc' n' r' ∈ ce_tw) : GoodIn (Cond.code y cc n r :: ce_tw) (Cond.code y' cc' n' r' :: ce_tw) := by
  have g : ∀ w ∈ ce_tw, w ∈ (Cond.code y cc n r :: ce_tw) ∧ ((w.onTables && w.keeps) = true ∨ ∃ ty, w = .arrayClass ty) := fun w hw => ⟨List.mem_cons_of_mem _ hw, good_of_word (List.mem_filter.mp hw).2⟩
  intro w hw
  rcases List.mem_cons.mp hw with e | hw
  · subst e; exact g _ h
  · exact g w hw
