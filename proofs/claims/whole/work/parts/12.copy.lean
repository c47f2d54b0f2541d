/-! System.arraycopy, and that nothing else changes -/
section CECP
variable {p : Program} {l : Launch} {e : Env} {R : Room} {s : State} {m : MethodId} {args : Array Value} {below : List Frame} {meth : Method} {c : Code} {H : Heap} {locs : List Loc} {cells slots : Nat} {Q : State → Prop}
variable {cc : ByteArray} {pc : Nat} {ls : Array Slot} {rest : List Value} {a : Nat}
theorem ce_copy {cc : ByteArray} (hexec : p.tables.exec = Jvm.exec) (hb : c.code = cc) (hml : c.maxLocals = ls.size) {own : String} {index : Nat} (hown : s.vm.findClass own = some m.cls) (hlink : (Cond.methodLink own index arraycopyName).before args s = true) (hnat : (Cond.native arraycopyName).before args s = true) (hstat : (Cond.static arraycopyName).before args s = true) (hini : (Cond.initialized "java/lang/System").before args s = true)
    {a0 : Nat} {c0 : ClassId} {n0 n1 : Nat} {f g : Nat → Int32} (hA : ArrOfT s c0 .int) (hc0 : H[a0]? = some (vp_cell c0 (n0, .inl f))) (hc1 : H[a]? = some (vp_cell c0 (n1, .inl g)))
    {sp dp n : Int32} (h1 : ¬ sp < 0) (h2 : ¬ dp < 0) (h3 : ¬ n < 0) (h4 : sp.toNatClampNeg + n.toNatClampNeg ≤ n0) (h5 : dp.toNatClampNeg + n.toNatClampNeg ≤ n1)
    (hframes : 1 ≤ R.frames) (hlocals : (rest.map fun v => v.category).sum + (nativeFrameWords "java/lang/System" "arraycopy" 5 + 11) ≤ R.locals) (hdg : decode cc pc = .ok (.invokestatic index, 3))
    (kk : ∀ (H1 : Heap) (L : List Loc), (∀ q ∈ L, q.base = a) → H1[a]? = some (vp_cell c0 (n1, .inl (va_cpy f g sp.toNatClampNeg dp.toNatClampNeg n.toNatClampNeg))) → H1.size = H.size → (∀ q : Nat, q ≠ a → H1[q]? = H[q]?) → W p l e R s m args below meth c H1 (locs ++ L) cells slots Q (F0 m (pc + 3) ls rest)) : W p l e R s m args below meth c H locs cells slots Q (F0 m pc ls (.int n :: .int dp :: .ref a :: .int sp :: .ref a0 :: rest)) := by
  have nn : ∀ z : Int32, ¬ z < 0 → z.toInt = (z.toNatClampNeg : Int) := by
    intro z hz
    have hz0 : (0 : Int) ≤ z.toInt := by
      have := Int32.not_lt.mp hz
      simpa using Int32.le_iff_toInt_le.mp this
    show z.toInt = ((z.toInt.toNat : Nat) : Int)
    omega
  intro T hT X
  obtain ⟨-, k0, hk0, cm0, hkk0⟩ := hA n0 (fun j => .int (f j))
  obtain ⟨-, k1, hk1, cm1, hkk1⟩ := hA n1 (fun j => .int (g j))
  obtain ⟨vm', X', step⟩ := X.arraycopy hexec hown hlink hnat hstat hini (src := a0) (dst := a) (cs := vp_cell c0 (n0, .inl f)) (cd := vp_cell c0 (n1, .inl g)) (srcPos := sp) (destPos := dp) (n := n) (by rw [hT]; exact hc0) (by rw [hT]; exact hc1)
    (fun _ h => by cases h) (fun _ h => by cases h) (fun h => by cases h) (fun h => by cases h) hk0 hk1 hkk0 hkk1 (by simp [refKind]) h1 h2 h3
    (by rw [nn sp h1, nn n h3]; show ¬ _ > ((arrV c0 n0 (fun j => .int (f j))).slots.size : Int); rw [arrV_size]; omega)
    (by rw [nn dp h2, nn n h3]; show ¬ _ > ((arrV c0 n1 (fun j => .int (g j))).slots.size : Int); rw [arrV_size]; omega)
    (fun vm₁ _ i hi => by
      have e : (vp_cell c0 (n0, .inl f)).slots.getD (sp.toNatClampNeg + i) .null = .int (f (sp.toNatClampNeg + i)) := by
        show (arrV c0 n0 (fun j => .int (f j))).slots.getD _ _ = _
        rw [Array.getD_eq_getD_getElem?, arrV_read _ _ (by omega)]
        rfl
      refine ⟨?_, ?_⟩
      · rw [e]
        rfl
      · rw [e]
        exact trivial)
    (g := F0 m pc ls (.int n :: .int dp :: .ref a :: .int sp :: .ref a0 :: rest)) rfl (by rw [hml]) (rest := rest) rfl (by rw [hb]; exact hdg) hframes (by show 2 * 0 + _ + _ ≤ _; omega)
  have e1 : copied (vp_cell c0 (n0, .inl f)) (vp_cell c0 (n1, .inl g)) sp dp n = vp_cell c0 (n1, .inl (va_cpy f g sp.toNatClampNeg dp.toNatClampNeg n.toNatClampNeg)) := va_copied (fun z => .int z) c0 c0 f g h4
  rw [e1] at X' step
  have hl : a < H.size := (Array.getElem?_eq_some_iff.mp hc1).1
  have hheap : ((T.setVm vm').setCell a (vp_cell c0 (n1, .inl (va_cpy f g sp.toNatClampNeg dp.toNatClampNeg n.toNatClampNeg)))).heap = H.setIfInBounds a (vp_cell c0 (n1, .inl (va_cpy f g sp.toNatClampNeg dp.toNatClampNeg n.toNatClampNeg))) := by rw [← hT]; rfl
  have oq : ∀ q : Nat, q ≠ a → (H.setIfInBounds a (vp_cell c0 (n1, .inl (va_cpy f g sp.toNatClampNeg dp.toNatClampNeg n.toNatClampNeg))))[q]? = H[q]? := fun q hq => by simp [Array.getElem?_setIfInBounds, Ne.symm hq]
  obtain ⟨t, a1, b1⟩ := kk _ _ (fun q hq => by
      obtain ⟨z, -, hz⟩ := List.mem_map.mp hq
      rw [← hz]) (show (H.setIfInBounds a _)[a]? = some _ by simp [Array.getElem?_setIfInBounds, hl]) (by simp) oq _ hheap X'
  exact ⟨t, step t a1, b1⟩
end CECP
def o_copy (t t' : Nat) : ce_Op := fun i nn ls st S k => match st with
  | .inl n :: .inl dp :: .inr (.inl q') :: .inl sp :: .inr (.inl q) :: r => if q.1 = t ∧ q'.1 = t' ∧ ¬ sp < 0 ∧ ¬ dp < 0 ∧ ¬ n < 0 ∧ sp.toNatClampNeg + n.toNatClampNeg ≤ ce_len S t q.2 ∧ dp.toNatClampNeg + n.toNatClampNeg ≤ ce_len S t' q'.2 ∧ r.length ≤ 4 then k (i + 1) nn ls r (ce_sF S t' q'.2 (va_cpy (ce_A S t q.2) (ce_A S t' q'.2) sp.toNatClampNeg dp.toNatClampNeg n.toNatClampNeg)) else none
  | _ => none
theorem ta_copy {t t' : Nat} : ce_Tail (o_copy t t') := by
  intro i nn ls st S k res h
  unfold o_copy at h ⊢
  split at h
  · split at h
    · rename_i hc
      simp only [if_pos hc]
      exact Or.inr ⟨_, _, _, _, _, h, fun k' q => q⟩
    · cases h
  · cases h
theorem ce_sF_A {S : ce_S} {t j : Nat} {f : Nat → Int32} : ce_A (ce_sF S t j f) t j = f := by
  show (if t = t then (if j = j then f else _) else _) = f
  rw [if_pos rfl, if_pos rfl]
theorem ce_sF_ne {S : ce_S} {t j t' j' : Nat} {f : Nat → Int32} (h : ¬ (t' = t ∧ j' = j)) : ce_A (ce_sF S t j f) t' j' = ce_A S t' j' := by
  show (if t' = t then (if j' = j then f else S.2.2.1 t' j') else S.2.2.1 t' j') = S.2.2.1 t' j'
  by_cases h1 : t' = t
  · rw [if_pos h1, if_neg (fun q => h ⟨h1, q⟩)]
  · rw [if_neg h1]
section CECO
variable {l : Launch} {cc : ByteArray} {own : String} {nL : Nat} {rt : Option FieldType} {d MC MS : Nat} {pcs : List Nat} {i pc : Nat}
theorem ok_copy {t t' ix p1 p2 p3 p4 : Nat} (hp : pcs.getD i 0 = pc) (hp' : pcs.getD (i + 1) 0 = pc + 3) (hd : decode cc pc = .ok (.invokestatic ix, 3)) (hD : 2 ≤ d) (hso : ce_so t = 1) (hso' : ce_so t' = 1) (g1 : lw_tbl[p1]? = some (Cond.methodLink own ix arraycopyName)) (g2 : lw_tbl[p2]? = some (Cond.native arraycopyName)) (g3 : lw_tbl[p3]? = some (Cond.static arraycopyName)) (g4 : lw_tbl[p4]? = some (Cond.initialized "java/lang/System")) : ce_Ok l cc own nL rt d MC MS pcs i (o_copy t t') := by
  intro nn ls st S k res h hk p e s m args below meth c D ca b0 ad0 S0 ad H locs rls hC h61 hX hR hT h1 h2
  obtain ⟨hx, hb, hml, hown, ⟨w0, hts⟩, hr, hlk, hG⟩ := id hC
  unfold o_copy at h
  split at h
  · rename_i n dp q' sp q r
    by_cases hq : q.1 = t ∧ q'.1 = t' ∧ ¬ sp < 0 ∧ ¬ dp < 0 ∧ ¬ n < 0 ∧ sp.toNatClampNeg + n.toNatClampNeg ≤ ce_len S t q.2 ∧ dp.toNatClampNeg + n.toNatClampNeg ≤ ce_len S t' q'.2 ∧ r.length ≤ 4
    · rw [if_pos hq] at h
      obtain ⟨e1, e2, k1, k2, k3, k4, k5, k6⟩ := hq
      rw [hp]
      have hv : q.2 < ce_C S t := by have := ce_okT_hd (ce_okT_tl (ce_okT_tl (ce_okT_tl (ce_okT_tl hT)))); rw [← e1]; exact this
      have hv' : q'.2 < ce_C S t' := by have := ce_okT_hd (ce_okT_tl (ce_okT_tl hT)); rw [← e2]; exact this
      obtain ⟨⟨-, ho, -⟩, -, -⟩ := hR.1.1 t q.2 hv (by rw [hso]; decide)
      obtain ⟨⟨-, ho', -⟩, hb0, -⟩ := hR.1.1 t' q'.2 hv' (by rw [hso']; decide)
      have hq2 : ce_val ad (.inr (.inl q)) = .ref (ad t q.2) := by rw [← e1]; rfl
      have hq2' : ce_val ad (.inr (.inl q')) = .ref (ad t' q'.2) := by rw [← e2]; rfl
      rw [List.map_cons, List.map_cons, List.map_cons, List.map_cons, List.map_cons, hq2, hq2']
      have h8 := ce_cat8 (ad := ad) k6
      have h80 : nativeFrameWords "java/lang/System" "arraycopy" 5 ≤ 80 := by decide +kernel
      have hfr : 1 ≤ (ce_rm d MC MS).frames := by show 1 ≤ d; omega
      have hlo : ((r.map (ce_val ad)).map fun v => v.category).sum + (nativeFrameWords "java/lang/System" "arraycopy" 5 + 11) ≤ (ce_rm d MC MS).locals := by
        show _ ≤ 60 * d
        omega
      refine ce_copy hx hb (hml.trans hR.2.2.1.1.symm) hown (ce_wIn hts g1 rfl) (ce_wIn hts g2 (by decide +kernel)) (ce_wIn hts g3 rfl) (ce_wIn hts g4 rfl) (hG.1.2 0 _ rfl).1 (ho hso) (ho' hso') k1 k2 k3 k4 k5 hfr hlo hd (fun H1 L hL c1 c2 c3 => ?_)
      have hSS : va_S (fun q => b0 q) s.heap H1 (locs ++ L) := by
        refine ⟨by rw [c2]; exact hR.2.1.1, fun z g1 g2 => ?_, fun z hz => ?_⟩
        · rw [c3 z (fun e => g2 (by rw [e]; exact hb0))]
          exact hR.2.1.2.1 z g1 g2
        · rcases List.mem_append.mp hz with g | g
          · exact hR.2.1.2.2 z g
          · show b0 z.base
            rw [hL z g]; exact hb0
      have w := hk _ _ _ _ _ h p e s m args below meth c D ca b0 ad0 S0 ad H1 (locs ++ L) rls hC h61 hX ⟨hR.1.putA hv' hso' (by rw [ce_sF_A]; exact c1) c2 c3 rfl rfl rfl (fun t1 i1 hne e => by rw [ce_sF_ne hne]), hSS, hR.2.2.1, hR.2.2.2.1, ce_okL_kept (fun _ => rfl) hR.2.2.2.2.1, ce_ag_kept (fun _ => rfl) hR.2.2.2.2.2⟩ (ce_okT_kept (fun _ => rfl) (ce_okT_tl (ce_okT_tl (ce_okT_tl (ce_okT_tl (ce_okT_tl hT)))))) h1 h2
      rw [hp'] at w
      exact w
    · rw [if_neg hq] at h; cases h
  · cases h
end CECO
