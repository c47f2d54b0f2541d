/-! String.checkIndex, where it does not throw -/
theorem ce_pcheck (l : Launch) (x n : Int32) (v : Value) (hv : v = .null ∨ ∃ a, v = .ref a) (h0 : ¬ x < 0) (h1 : x < n) : Met l yJ3_checkIndex_8e157 (Cond.code yJ3_checkIndex_8e157 cJ3_checkIndex_8e157 3 (some .int) :: ce_tw) (ce_rm 1 0 0) (va_Pc [.int x, .int n, v] (fun _ => True)) (QcRead x) 0 0 (fun _ => False) := by
  refine Met.ofW (cc := cJ3_checkIndex_8e157) (maxL := 3) (ret := some .int) (by decide +kernel) rfl ?_
  intro p e s m args below meth c s₁ B hml hP
  obtain ⟨rfl, -⟩ := hP
  have hx := B.exec
  have hb := B.bytes
  have hr := B.returns
  have hlocks := B.notSynchronized
  have hcat : v.category = 1 := by rcases hv with rfl | ⟨a, rfl⟩ <;> rfl
  have hsl : lg_sl [.int x, .int n, v] = [.val (.int x), .val (.int n), .val v] := by
    rcases hv with rfl | ⟨a, rfl⟩ <;> rfl
  have hl := lv_entry ([.int x, .int n, v]) (n := 3) (by rw [hsl]; exact Nat.le_refl 3)
  rw [lg_entry_eq]
  generalize (lg_sl ([.int x, .int n, v]) ++ List.replicate (3 - (lg_sl ([.int x, .int n, v])).length) Slot.unset).toArray = ls at hl ⊢
  refine lv_iload_n (k := 0) (i := 0) hx hb (by decide +kernel) rfl (lv_at hl 0 rfl) ?_
  refine lv_if_lt (off := 8) (tgt := 9) hx hb (by decide +kernel) (by decide) (fun q => absurd q h0) (fun _ => ?_)
  refine lv_iload_n (k := 0) (i := 0) hx hb (by decide +kernel) rfl (lv_at hl 0 rfl) ?_
  refine lv_iload_n (k := 1) (i := 1) hx hb (by decide +kernel) rfl (lv_at hl 1 rfl) ?_
  refine lv_icmp_lt (off := 10) (tgt := 16) hx hb (by decide +kernel) (by decide) (fun _ => ?_) (fun q => absurd h1 q)
  refine lv_iload_n (k := 0) (i := 0) hx hb (by decide +kernel) rfl (lv_at hl 0 rfl) ?_
  exact W.iret (v := x) hx hb hr (fun t ht hW => ⟨rfl, ht⟩) (fun q hq => by cases hq) (by decide +kernel)
def F_J0_check : List ce_V → ce_S → Option ce_S := fun a S => match a with
  | [.inl x, .inl n] => if x < 0 ∨ n ≤ x then none else some S
  | _ => none
theorem ct_J0_check (l : Launch) : ce_callee l yJ0_checkIndex_df160 2 2 0 0 (ce_wV F_J0_check) := by
  refine ⟨cJ0_checkIndex_df160, 2, none, ?_, ce_tw_at wd_258 rfl, by decide, by decide +kernel, by decide +kernel, by decide +kernel⟩
  intro D ca b0 ad S a res hF hS hT h61
  unfold ce_wV F_J0_check at hF
  split at hF
  · rename_i x n
    by_cases hc : x < 0 ∨ n ≤ x
    · rw [if_pos hc] at hF; cases hF
    · rw [if_neg hc] at hF
      cases hF
      have h0 : ¬ x < 0 := fun q => hc (Or.inl q)
      have h1 : x < n := Int32.not_le.mp (fun q => hc (Or.inr q))
      refine Met.ofW (cc := cJ0_checkIndex_df160) (maxL := 2) (ret := none) (by decide +kernel) rfl ?_
      intro p e s m args below meth c s₁ B hml hP
      obtain ⟨rfl, hG, hX, hH⟩ := hP
      have hx := B.exec
      have hb := B.bytes
      have hr := B.returns
      have hlocks := B.notSynchronized
      have hts := atoms_spec (ws := Cond.code yJ0_checkIndex_df160 cJ0_checkIndex_df160 2 none :: ce_tw) B.pre
      have hown : s.vm.findClass yJ0_checkIndex_df160.cls = some m.cls := findClass_of_methodNamed B.named
      have hl := lv_entry ([.int x, .int n]) (n := 2) (Nat.le_refl 2)
      show W _ _ _ _ _ _ _ _ _ _ _ _ _ _ _ (entryFrame m ([Value.int x, Value.int n] : List Value).toArray 2)
      rw [lg_entry_eq]
      generalize (lg_sl ([.int x, .int n]) ++ List.replicate (2 - (lg_sl ([.int x, .int n])).length) Slot.unset).toArray = ls at hl ⊢
      have hl : lv_has ls 2 [(0, .int x), (1, .int n)] := hl
      refine lv_iload_n (k := 0) (i := 0) hx hb (by decide +kernel) rfl (lv_at hl 0 rfl) ?_
      refine lv_iload_n (k := 1) (i := 1) hx hb (by decide +kernel) rfl (lv_at hl 1 rfl) ?_
      have key : ∀ v : Value, (v = .null ∨ ∃ a, v = .ref a) → va_Z "jdk/internal/util/Preconditions" "SIOOBE_FORMATTER" "Ljava/util/function/BiFunction;" v (fun q => b0 q) s s.heap → W p l e (headSpec (Cond.code yJ0_checkIndex_df160 cJ0_checkIndex_df160 2 none :: ce_tw) (ce_rm 2 0 0)).room s m ([Value.int x, Value.int n] : List Value).toArray below meth c s.heap [] 0 0 (MQ below (ce_Po D ca b0 ad S (none, S)) ([Value.int x, Value.int n] : List Value).toArray s 0 0 (fun q => b0 q)) (F0 m 2 ls [.int n, .int x]) := by
        intro v hv hz
        refine va_gets (index := 1053) (ref := "jdk/internal/util/Preconditions") hx hb hz va_S.rf hown (ce_wIn hts wd_259 rfl) (fun _ z => z) (by decide +kernel) ?_
        refine W.callR (r := x) (va_runS (As := [.int x, .int n, v]) (rest := []) ⟨hx, hb, hml, hown, hts⟩ (ce_pcheck l x n v hv h0 h1) (va_cwS 3 hts (ce_gIn (ex := [.methodLink yJ0_checkIndex_df160.cls 1059 yJ3_checkIndex_8e157, .static yJ3_checkIndex_8e157, .initialized yJ3_checkIndex_8e157.cls]) (ce_tw_at wd_263 rfl) (by
            intro w hw
            rcases List.mem_cons.mp hw with e | hw
            · subst e; exact ce_tw_at wd_261 rfl
            rcases List.mem_cons.mp hw with e | hw
            · subst e; exact ce_tw_at wd_262 rfl
            rcases List.mem_cons.mp hw with e | hw
            · subst e; exact ce_tw_at wd_69 rfl
            · cases hw)) rfl rfl rfl ⟨by decide +kernel, by decide +kernel, by decide +kernel⟩ ⟨by decide, by decide⟩) ⟨fun _ _ _ _ q => q, fun U hU hW => ⟨rfl, trivial⟩⟩ rfl rfl hl.1 rfl (lv_room (by decide)) (show decode cJ0_checkIndex_df160 5 = .ok (.invokestatic 1059, 3) by decide +kernel) ⟨Nat.zero_le _, Nat.zero_le _⟩).run ?_
        refine W.eq (g2 := F0 m 8 ls [.int x]) rfl ?_
        refine lv_pop hx hb (by decide +kernel) rfl ?_
        exact W.vret hx hb hr (fun t ht hW => ⟨ad, ce_ag.refl, rfl, hS, (fun v hv => by cases hv), by rw [ht]; exact hH, va_S.rf.F ht⟩) (fun q hq => by cases hq) (by decide +kernel)
      rcases hX.2.2.2.1 with hz | ⟨t, hz⟩
      · exact key _ (Or.inl rfl) hz
      · exact key _ (Or.inr ⟨t, rfl⟩) hz
  · cases hF
