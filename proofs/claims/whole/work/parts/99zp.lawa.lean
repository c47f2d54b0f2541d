/-! the law: out of the given skeleton, what holds at its entry and at its end; then its arguments -/
def lw_P (b : Addr) (xs : List Int32) (args : Array Value) (s : State) : Prop := args = #[.ref b] ∧ s.IntsAt b xs ∧ xs.length ≤ 3072 ∧ (Jvm.Cond.and given_1 narrow_1).before args s = true
def lw_Q (_ : Array Value) (s : State) (o : Outcome) (t : State) : Prop := o = .returned (some (.int 1)) ∧ Framed s o t [] 600000 7302250
def lw_Z (below : List Frame) (a : Array Value) (s : State) : State → Prop := fun t => ∃ o, t.status = .running ∧ Ended t below o ∧ lw_Q a s o t
/-- the law's own end, with 1 on the stack, nothing written that was there before, its room as the claim has it -/
theorem lw_ret {p : Program} {l : Launch} {e : Env} {s : State} {m : MethodId} {below : List Frame} {meth : Method} {c : Code} {b : Nat} (hx : p.tables.exec = Jvm.exec) (hb : c.code = code) (hr : meth.sig.returnType = ret) (hlocks : meth.locks = false) {pc : Nat} {H : Heap} {ls : Array Slot} (hdg : decode code pc = .ok (.ireturn, 1)) : W p l e room_1 s m #[Value.ref b] below meth c H [] 600000 7302250 (lw_Z below #[Value.ref b] s) (F0 m pc ls [.int 1]) := by
  intro T hT X
  obtain ⟨fs, hret, hrun, hended, hW, hframe⟩ := X.leave (v := some (.int 1)) (hlocks := hlocks) (fun h => by rw [hr] at h; cases h)
  have hmeth' : T.vm.method? m = some meth := X.method'
  refine ⟨T.setFrames fs, ?_, .returned (some (.int 1)), hrun, hended, rfl, ⟨_, rfl⟩, hW, hframe⟩
  jvm_step X.here [X.here.top, hx, hb, hdg, hmeth', hr, ret, narrow_b1]
  (try refine ⟨rfl, ?_⟩); (try refine ⟨rfl, ?_⟩)
  first | (intro acts; rw [hret _ acts rfl rfl rfl]) | rw [hret _ _ rfl rfl rfl]
  exact Steps.refl _
/-- what holds at the law's entry: the machine, the code, the tables' words (any of lw_tbl by 'hts w (by decide +kernel)'), the script of L ints xs at the cell b, what the Statement gives of the start (any of its parts by flat_of_before) -/
def lw_At (p : Program) (s : State) (m : MethodId) (meth : Method) (c : Code) (b L : Nat) (xs : Nat → Int32) : Prop :=
  p.tables.exec = Jvm.exec ∧ c.code = code ∧ meth.sig.returnType = ret ∧ c.maxLocals = 4 ∧ s.vm.findClass R_law = some m.cls ∧ (∀ w ∈ lw_tbl, w.before #[Value.ref b] s = true) ∧ va_X b L xs s s.heap ∧ b < s.heap.size ∧ meth.locks = false ∧ (Jvm.Cond.and given_1 narrow_1).before #[Value.ref b] s = true
theorem lw_ts {p : Program} {s : State} {m : MethodId} {meth : Method} {c : Code} {b L : Nat} {xs : Nat → Int32} (C0 : lw_At p s m meth c b L xs) : ∀ w ∈ Cond.initialized "CarpetElevenLaw" :: ce_tw, w.before #[Value.ref b] s = true := fun w hw => by
  have h := C0.2.2.2.2.2.1
  rcases List.mem_cons.mp hw with e | hw
  · subst e; exact h _ (List.mem_of_getElem? wd_56)
  · exact h w (List.mem_filter.mp hw).1
theorem okT_nil {S : ce_S} : ce_okT S [] := fun v hv => by cases hv
theorem okT_cons {S : ce_S} {x : Int32} {as : List ce_V} (h : ce_okT S as) : ce_okT S (.inl x :: as) := fun v hv => by
  rcases List.mem_cons.mp hv with e | hv
  · subst e; exact trivial
  · exact h v hv
theorem lw_cat {v : Value} : (([v] : List Value).map fun v => v.category).sum ≤ 8 := by
  cases v <;> exact Nat.le_of_ble_eq_true rfl
theorem lg_cmp_self (x : Int64) : lg_cmp x x = 0 := by
  unfold lg_cmp
  rw [if_neg (Int64.lt_irrefl), if_pos rfl]
/-- an argument: script[i + k] -/
theorem lw_arg {p : Program} {l : Launch} {e : Env} {s : State} {m : MethodId} {below : List Frame} {meth : Method} {c : Code} {b L : Nat} {xs : Nat → Int32} {H : Heap} {locs : List Loc} {cells slots pc pc' i k : Nat} {x3 : Int32} {kz : Int} {Q : State → Prop} {ls : Array Slot} {rest : List Value} {lv : List (Nat × Value)} (C0 : lw_At p s m meth c b L xs) (hl : lv_has ls 4 ((3, .int x3) :: (0, .ref b) :: lv)) (h3 : x3 = nI (6 * i)) (hS : va_S (lb s) s.heap H locs) (hin : 6 * i + k < L ∧ L ≤ 3072) (hk : Int32.ofInt kz = nI k) (d1 : decode code pc = .ok (.aload_n 0, 1)) (d2 : decode code (pc + 1) = .ok (.iload_n 3, 1)) (d3 : decode code (pc + 2) = .ok (.iconst kz, 1)) (d4 : decode code (pc + 3) = .ok (.iadd, 1)) (d5 : decode code (pc + 4) = .ok (.iaload, 1)) (hpc : pc + 5 = pc')
    (g : W p l e room_1 s m #[Value.ref b] below meth c H locs cells slots Q (F0 m pc' ls (.int (xs (6 * i + k)) :: rest))) : W p l e room_1 s m #[Value.ref b] below meth c H locs cells slots Q (F0 m pc ls rest) := by
  obtain ⟨hx, hb, hr, hml, hown, hts0, hX, hbl, hlocks, hgv⟩ := id C0
  subst hpc
  refine lv_aload_n hx hb d1 rfl (lv_at hl 1 rfl) ?_
  refine lv_iload_n hx hb d2 rfl (lv_at hl 0 rfl) ?_
  refine lv_iconst (v := nI k) hx hb d3 hk ?_
  refine lv_iadd hx hb d4 ?_
  have e1 : x3 + nI k = nI (6 * i + k) := by rw [h3, nJ_add]
  have e2 : (nI (6 * i + k)).toNatClampNeg = 6 * i + k := nI_clamp (by omega)
  rw [e1]
  refine va_sld hx hb hX hbl (Nat.not_le.mpr hbl) hS (nI_in hin.1 (by omega)) d5 ?_
  rw [e2]
  exact g
