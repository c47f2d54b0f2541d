/-! the law, from its entry -/
def Sz : ce_S := ((fun _ _ _ => 0), (fun _ _ _ => 0), (fun _ _ _ => 0), (fun _ _ => 0), (fun t => if t = 61 ∨ t = 62 then 13 else 0), fun _ => none)
theorem Sz_no {t i : Nat} (h : i < ce_C Sz t) : ce_so t = 3 := by
  have h : i < (if t = 61 ∨ t = 62 then 13 else 0) := h
  by_cases e : t = 61 ∨ t = 62
  · rcases e with e | e <;> (subst e; rfl)
  · rw [if_neg e] at h; exact absurd h (Nat.not_lt_zero _)
theorem Sz_H {D : va_G} {ca : Nat → ClassId} {b0 : Nat → Prop} {ad : Nat → Nat → Nat} {H : Heap} : ce_HK D ca b0 ad Sz H := ⟨fun t i hi ht => absurd ht (by rw [Sz_no hi]; decide), fun t i t' i' hi _ ht => absurd ht (by rw [Sz_no hi]; decide)⟩
theorem Sz_ok : kokS Sz := ⟨fun t k i hi ht => absurd ht (by rw [Sz_no hi]; decide), fun t i e x hi ht => absurd ht (by rw [Sz_no hi]; decide)⟩
theorem Sz_KN : KN (lgd [0, 0, 0, 0, 0, 0, 0, 0, 0, 0, 0, 0, 0, 0, 0, 0, 0, 0, 0, 0, 0, 0, 0, 0, 0, 0, 0, 0, 0, 0, 0, 0, 0, 0, 0, 0, 0, 0, 0, 0, 0, 0]) [] Sz := ⟨fun t => by
  show (if t = 61 ∨ t = 62 then 13 else 0) = lgd _ t
  unfold lgd
  by_cases e : t = 61 ∨ t = 62
  · rw [if_pos e, if_pos e]
  · rw [if_neg e, if_neg e]
    rcases Nat.lt_or_ge t 42 with q | q
    · exact (show ∀ t, t < 42 → 0 = ([0, 0, 0, 0, 0, 0, 0, 0, 0, 0, 0, 0, 0, 0, 0, 0, 0, 0, 0, 0, 0, 0, 0, 0, 0, 0, 0, 0, 0, 0, 0, 0, 0, 0, 0, 0, 0, 0, 0, 0, 0, 0] : List Nat).getD t 0 by decide) t q
    · rw [List.getD_eq_getElem?_getD, List.getElem?_eq_none (by exact q)]; rfl, fun _ _ _ _ => rfl⟩
section LWN
variable {p : Program} {l : Launch} {e : Env} {s : State} {m : MethodId} {below : List Frame} {meth : Method} {c : Code} {b : Nat} {H : Heap} {locs : List Loc} {cells slots pc : Nat} {Q : State → Prop} {rls : Array Slot} {rest : List Value} {D : va_G} {ca : Nat → ClassId} {ad : Nat → Nat → Nat} {S S1 : ce_S} {w0 : Cond}
theorem lw_new {t ix p1 p2 p3 N ci : Nat} {C : String} {T : u_T} (hx : p.tables.exec = Jvm.exec) (hb : c.code = code) (hown : s.vm.findClass R_law = some m.cls) (hts : ∀ w ∈ w0 :: ce_tw, w.before #[Value.ref b] s = true) (hG : ce_GK D ca s) (hH : ce_HK D ca (lb s) ad S H) (hk : kokS S) (hS : va_S (lb s) s.heap H locs) (hd : decode code pc = .ok (.new ix, 3)) (hso : ce_so t = 0) (hc : vwCl[ci]? = some (C, T, N)) (hcw : ∀ w ∈ u_ws C T N, w ∈ ce_tw) (ty : Nat → FieldType) (hty : ∀ k, k < N → parseFieldDescriptor (T k).2.2.1 = some (ty k)) (hdf : ∀ k, k < N → defaultValue (ty k) = if kref t k = 0 then .int 0 else .null)
    (w1 : lw_tbl[p1]? = some (Cond.classLink R_law ix C)) (w2 : lw_tbl[p2]? = some (Cond.instantiable C N)) (w3 : lw_tbl[p3]? = some (Cond.initialized C)) (hci : ce_ci t (ce_C S t) = ci) (hce : cells + 1 ≤ 600000) (hsl : slots + N ≤ 7302250)
    (kk : ∀ (ad' : Nat → Nat → Nat) (H1 : Heap), ce_ag S ad (kS_new S t) ad' → ce_HK D ca (lb s) ad' (kS_new S t) H1 → kokS (kS_new S t) → va_S (lb s) s.heap H1 locs → W p l e room_1 s m #[Value.ref b] below meth c H1 locs (cells + 1) (slots + N) Q (F0 m (pc + 3) rls (.ref (ad' t (ce_C S t)) :: rest))) : W p l e room_1 s m #[Value.ref b] below meth c H locs cells slots Q (F0 m pc rls rest) := by
  have hKn := hG.1.1.1 ci _ hc
  refine W.newcK hx hb hown (ce_wIn hts w1 rfl) (ce_wIn hts w2 rfl) (ce_wIn hts w3 rfl) (g := F0 m pc rls rest) rfl hd hce hsl hKn.2.1 rfl (fun H1 kC hkC e1 z1 o1 => ?_)
  have hcell : ce_so t < 3 → ce_atK D ca (kad ad S t H.size) (kS_new S t) t (ce_C S t) H1 := fun _ => by
    refine ⟨fun _ => ⟨(C, T, N), by rw [hci]; exact hc, ?_⟩, (fun z => by rw [hso] at z; cases z), (fun z => by rw [hso] at z; cases z)⟩
    rw [kad_new, hci]
    refine (u_born ty hts (fun w hw => List.mem_cons_of_mem _ (hcw w hw)) hKn hkC e1 hty).to (fun k hk => ?_)
    rw [hdf k hk]
    have eI : ce_I (kS_new S t) t k (ce_C S t) = 0 := by
      show (if t = t ∧ ce_C S t = ce_C S t then (0 : Int32) else _) = 0
      rw [if_pos ⟨rfl, rfl⟩]
    have eR : ce_R (kS_new S t) (1000 + t) k (ce_C S t) = kref t k := by
      show (if 1000 + t = 1000 + t ∧ ce_C S t = ce_C S t then kref t k else _) = _
      rw [if_pos ⟨rfl, rfl⟩]
    unfold ce_fvK
    rw [eR, eI]
    unfold kref
    cases ce_fk t k with
    | inl u => rfl
    | inr u => cases u <;> rfl
  have hk' : kokS (kS_new S t) := kokS_push hk (kS_C_new S t) (kS_kp_new S t) (fun _ k hz => by
    have eR : ce_R (kS_new S t) (1000 + t) k (ce_C S t) = kref t k := by
      show (if 1000 + t = 1000 + t ∧ ce_C S t = ce_C S t then kref t k else _) = _
      rw [if_pos ⟨rfl, rfl⟩]
    rw [eR] at hz
    unfold kref at hz
    cases hf : ce_fk t k with
    | inl u => exact ⟨u, rfl⟩
    | inr u => rw [hf] at hz; cases hz) (fun z => by rw [hso] at z; cases z)
  have w := kk (kad ad S t H.size) H1 (kag (kS_C_new S t)) (hH.push hk hS.1 z1 o1 (kS_C_new S t) hcell (kS_kp_new S t)) hk' ⟨by rw [z1]; exact Nat.le_succ_of_le hS.1, fun q g1 g2 => (o1 q (Nat.lt_of_lt_of_le g1 hS.1)).trans (hS.2.1 q g1 g2), hS.2.2⟩
  rw [kad_new] at w
  exact w
theorem lw_init {y : MethodName} {d' mc ms ix p1 p2 p4 t j : Nat} {F : List ce_V → ce_S → Option ce_S} (hx : p.tables.exec = Jvm.exec) (hb : c.code = code) (hml : c.maxLocals = 4) (hown : s.vm.findClass R_law = some m.cls) (hts : ∀ w ∈ w0 :: ce_tw, w.before #[Value.ref b] s = true) (hG : ce_GK D ca s) (hX : ce_X ad (lb s) s) (h61 : ce_61 S) (hH : ce_HK D ca (lb s) ad S H) (hk : kokS S) (hS : va_S (lb s) s.heap H locs) (hc : ce_ini l y 0 d' mc ms (ce_wV F)) (hF : F [.inr (.inl (t, j))] S = some S1) (hj : j < ce_C S t) (hyn : y.name = "<init>") (g1 : lw_tbl[p1]? = some (Cond.methodLink R_law ix y)) (g2 : lw_tbl[p2]? = some (Cond.instanceMethod y)) (g4 : lw_tbl[p4]? = some (Cond.initialized y.cls)) (hd : decode code pc = .ok (.invokespecial ix, 3)) (hD : d' ≤ 1000) (hsz : rls.size = 4) (hrest : (rest.map fun v => v.category).sum ≤ 8) (hce : cells + mc ≤ 600000) (hsl : slots + ms ≤ 7302250) (hmc : mc ≤ 600000) (hms : ms ≤ 7302250)
    (kk : ∀ (ad' : Nat → Nat → Nat) (H1 : Heap) (locs1 : List Loc), ce_ag S ad S1 ad' → kokS S1 → ce_HK D ca (lb s) ad' S1 H1 → va_S (lb s) s.heap H1 locs1 → W p l e room_1 s m #[Value.ref b] below meth c H1 locs1 (cells + mc) (slots + ms) Q (F0 m (pc + 3) rls rest)) : W p l e room_1 s m #[Value.ref b] below meth c H locs cells slots Q (F0 m pc rls (.ref (ad t j) :: rest)) := by
  obtain ⟨cc', nL', hctr, hcode, hnl, hm1, hm2, hlen⟩ := hc
  have hF2 : ce_wV F [.inr (.inl (t, j))] S = some (none, S1) := by unfold ce_wV; rw [hF]; rfl
  have hTa : ce_okT S [.inr (.inl (t, j))] := fun v hv => by
    rcases List.mem_cons.mp hv with e | hv
    · subst e; exact hj
    · cases hv
  have hM2 := hctr D ca (lb s) ad S _ _ hF2 hk hTa h61
  refine ce_callK (va_runI (As := []) (b := ad t j) (rest := rest) ⟨hx, hb, hml, hown, hts⟩ hM2 (cwI 0 hts (ce_gIn (ex := []) hcode (by
      intro w hw
      cases hw)) rfl rfl rfl (ce_wIn hts g4 rfl) (ce_wIn hts g1 rfl) (ce_wIn hts g2 rfl) hyn ⟨hm1, hm2, hlen⟩ ⟨(by show d' + 1 ≤ 2048; omega), by show 8 + (nL' + 11) + 60 * d' ≤ 84000; omega⟩) ⟨ce_blindK, fun U hU hW => ⟨rfl, hG.warm hW, hX.warm hW (by rw [hU]; exact hS.1) (fun q g1 g2 => by rw [hU]; exact hS.2.1 q g1 g2), by rw [hU]; exact hH⟩⟩ rfl rfl hsz rfl (lv_room hrest) hd ⟨hce, hsl⟩) hS (fun ad' H1 locs1 k1 k2 k3 k4 k5 => ?_)
  exact kk ad' H1 locs1 k1 k2 k4 k5
end LWN
