/-! the law, from its entry; then the claim, by the given skeleton -/
theorem cEq_kg {S S' : ce_S} (h : kg (fun t _ => 20 ≤ t) S S') (hC : ∀ t, t < 20 → ce_C S' t = ce_C S t) : cEq S S' := ⟨fun t ht => ⟨funext fun k => funext fun i => h.I (by omega) (by omega) k, funext fun k => funext fun i => h.R (by omega) (by omega) k, funext fun i => h.A (by omega) (by omega), funext fun i => h.L (by omega) (by omega), hC t ht⟩, h.2 (by decide)⟩
set_option maxRecDepth 20000 in
theorem whole_start {p : Program} {e : Env} {s : State} {m : MethodId} {below : List Frame} {meth : Method} {c : Code} (l : Launch) (hflags : l.flags = flags0) {b L : Nat} {xs : Nat → Int32} (hL : L ≤ 3072) (C0 : lw_At p s m meth c b L xs) : W p l e room_1 s m #[Value.ref b] below meth c s.heap [] 0 0 (lw_Z below #[Value.ref b] s) (entryFrame m ([Value.ref b] : List Value).toArray 4) := by
  obtain ⟨hx, hb, hr, hml, hown, hts0, hX, hbl, hlocks, hgv⟩ := id C0
  have hts := lw_ts C0
  obtain ⟨D, ca, hG⟩ := lw_G C0
  obtain ⟨ad0, hXX⟩ := lw_X C0
  have hl := lv_entry ([.ref b]) (n := 4) (Nat.le_of_ble_eq_true rfl)
  rw [lg_entry_eq]
  generalize (lg_sl ([.ref b]) ++ List.replicate (4 - (lg_sl ([.ref b])).length) Slot.unset).toArray = ls at hl ⊢
  have hl : lv_has ls 4 [(0, .ref b)] := hl
  have hK1 : KN (lgd [1, 0, 0, 0, 0, 0, 0, 0, 0, 0, 0, 0, 0, 0, 0, 0, 0, 0, 0, 0, 0, 0, 0, 0, 0, 0, 0, 0, 0, 0, 0, 0, 0, 0, 0, 0, 0, 0, 0, 0, 0, 0]) [(0, 0, 0), (0, 1, 0), (0, 2, 0), (0, 3, 0), (0, 4, 0), (0, 5, 0), (0, 8, 0), (0, 9, 0), (0, 10, 0), (0, 11, 0), (0, 12, 0)] (kS_new Sz 0) := Sz_KN.new (t := 0) (j := 0) (ks := [0, 1, 2, 3, 4, 5, 8, 9, 10, 11, 12]) rfl kref_0 (lgd_set (by decide) (by decide) rfl) (fun _ q => q)
  refine lw_new (t := 0) (ci := 11) (C := RX11) (T := TX11) (N := 14) (ix := 7) hx hb hown hts hG (Sz_H (ad := ad0)) Sz_ok va_S.rf (by decide +kernel) rfl rfl cw_X11 tyX11 tyX11_ok (by decide) wd_76 wd_77 wd_57 rfl (by omega) (by omega) (fun ad1 H1 ag1 hH1 hk1 hS1 => ?_)
  rw [show ce_C Sz 0 = 0 from rfl]
  refine lv_dup hx hb (by decide +kernel) rfl ?_
  obtain ⟨S2, f1, f2, f3, f4⟩ := c_init hK1
  refine lw_init (t := 0) (j := 0) (F := F_X11_init) (y := yX11_init) (ix := 9) hx hb hml hown hts hG (hXX.agree (fun j hj => ⟨(ag1 61 j hj).1, (ag1 62 j hj).1⟩)) ⟨by rw [hK1.1]; decide, by rw [hK1.1]; decide⟩ hH1 hk1 hS1 (ct_X11_init l) f1 (by rw [hK1.1]; decide) rfl wd_78 wd_79 wd_57 (by decide +kernel) (by decide) hl.1 lw_cat (by omega) (by omega) (by omega) (by omega) (fun ad2 H2 locs2 ag2 hk2 hH2 hS2 => ?_)
  refine lv_astore_n (lv' := [(1, .ref (ad1 0 0)), (0, .ref b)]) hx hb (by decide +kernel : decode code 7 = .ok (.astore_n 1, 1)) rfl hl (by decide) rfl (fun ls hl => ?_)
  have z20 : ce_C S2 20 = 0 := (f3.1 20).trans rfl
  refine lw_new (t := 20) (ci := 12) (C := RX12) (T := TX12) (N := 45) (ix := 10) hx hb hown hts hG hH2 hk2 hS2 (by decide +kernel : decode code 8 = .ok (.new 10, 3)) rfl rfl cw_X12 tyX12 tyX12_ok (by decide) wd_808 wd_809 wd_75 rfl (by omega) (by omega) (fun ad3 H3 ag3 hH3 hk3 hS3 => ?_)
  rw [z20]
  refine lv_dup hx hb (by decide +kernel : decode code 11 = .ok (.dup, 1)) rfl ?_
  have hK3 : KN (lgd [1, 1, 1, 1, 1, 1, 1, 1, 1, 1, 6, 19, 3, 1, 1, 4, 4, 1, 0, 0, 1, 0, 0, 0, 0, 0, 0, 0, 0, 0, 0, 0, 0, 0, 0, 0, 0, 0, 0, 0, 0, 0]) [(20, 0, 0), (20, 1, 0), (20, 2, 0), (20, 3, 0), (20, 4, 0), (20, 5, 0), (20, 6, 0), (20, 12, 0), (20, 13, 0), (20, 14, 0), (20, 15, 0), (20, 16, 0), (20, 17, 0), (20, 27, 0), (20, 41, 0), (20, 42, 0), (20, 43, 0), (20, 44, 0)] (kS_new S2 20) := f3.new (t := 20) (j := 0) (ks := [0, 1, 2, 3, 4, 5, 6, 12, 13, 14, 15, 16, 17, 27, 41, 42, 43, 44]) rfl kref_20 (lgd_set (by decide) (by decide) rfl) (fun _ q => q)
  have hI3 : ∀ k, ce_I (kS_new S2 20) 20 k 0 = 0 := fun k => by
    show (if 20 = 20 ∧ 0 = ce_C S2 20 then (0 : Int32) else _) = 0
    rw [if_pos ⟨rfl, z20.symm⟩]
  have hg3 : kg (fun t _ => 20 ≤ t) S2 (kS_new S2 20) := kg.rf.new (show 20 ≤ 20 by decide)
  have hB3 : okB (kS_new S2 20) := okB_kg (okB_of (kokS_to (kfu_full f3.kfu) hk2)) hg3 (fun _ _ h => h) (fun t ht => by rw [kS_C_new, if_neg (by omega)]) (fun t => kC_le (kS_C_new S2 20) t)
  obtain ⟨S4, g1, g2, g3, g4⟩ := m_init hK3 hI3 hB3
  have agA : ce_ag Sz ad0 (kS_new S2 20) ad3 := (ag1.trans ag2).trans ag3
  refine lw_init (t := 20) (j := 0) (F := F_X12_init) (y := yX12_init) (ix := 12) hx hb hml hown hts hG (hXX.agree (fun j hj => ⟨(agA 61 j hj).1, (agA 62 j hj).1⟩)) ⟨by rw [hK3.1]; decide, by rw [hK3.1]; decide⟩ hH3 hk3 hS3 (ct_X12_init l) g1 (by rw [hK3.1]; decide) rfl wd_810 wd_811 wd_75 (by decide +kernel : decode code 12 = .ok (.invokespecial 12, 3)) (by decide) hl.1 lw_cat (by omega) (by omega) (by omega) (by omega) (fun ad4 H4 locs4 ag4 hk4 hH4 hS4 => ?_)
  refine lv_astore_n (lv' := [(2, .ref (ad3 20 0)), (1, .ref (ad1 0 0)), (0, .ref b)]) hx hb (by decide +kernel : decode code 15 = .ok (.astore_n 2, 1)) rfl hl (by decide) rfl (fun ls hl => ?_)
  refine lv_iconst (v := 0) hx hb (by decide +kernel : decode code 16 = .ok (.iconst 0, 1)) (by decide) ?_
  refine lv_istore_n (lv' := [(3, .int 0), (2, .ref (ad3 20 0)), (1, .ref (ad1 0 0)), (0, .ref b)]) hx hb (by decide +kernel : decode code 17 = .ok (.istore_n 3, 1)) rfl hl (by decide) rfl (fun ls hl => ?_)
  refine W.widen (k := 80 + 3 * 0) (n := 5213 + 324 * 0) (by omega) (by omega) ?_
  have agB : ce_ag Sz ad0 S4 ad4 := agA.trans ag4
  have agC : ce_ag (kS_new Sz 0) ad1 S4 ad4 := (ag2.trans ag3).trans ag4
  have hfu : kfu S4 := g3.kfu
  have hLW : LW D ca s (ad1 0 0) (ad3 20 0) ad4 S4 H4 locs4 w0 w0 := by
    refine ⟨HK_to (kfu_full hfu) hH4, hS4, kokS_to (kfu_full hfu) hk4, hfu, fun t ht => ?_, ?_, CR_cEq f2 (cEq_kg (hg3.tr g4) (fun t ht => ?_)), g2, ⟨?_, ?_⟩, hXX.agree (fun j hj => ⟨(agB 61 j hj).1, (agB 62 j hj).1⟩), (agC 0 0 (by rw [hK1.1]; decide)).1, (ag4 20 0 (by rw [hK3.1]; decide)).1⟩
    · rw [g3.1]
      exact (show ∀ t, t < 10 → cM t = 1 by decide) t ht
    · rw [g3.1]; decide
    · rw [g3.1, f3.1]
      exact (show ∀ t, t < 20 → cM t = lgd [1, 1, 1, 1, 1, 1, 1, 1, 1, 1, 6, 19, 3, 1, 1, 4, 4, 1, 0, 0, 0, 0, 0, 0, 0, 0, 0, 0, 0, 0, 0, 0, 0, 0, 0, 0, 0, 0, 0, 0, 0, 0] t by decide) t ht
    · rw [g3.1]; decide
    · rw [g3.1]; decide
  exact law_loop C0 hG hL 512 0 0 ad4 S4 H4 locs4 w0 ls (by omega) (by omega) rfl (lv_sub hl [0, 3, 2, 1] rfl) hLW
set_option maxHeartbeats 4000000 in
theorem lw_walk (l : Launch) (hflags : l.flags = flags0) (b : Addr) (xs : List Int32) : MetFree l x (headSpec (Jvm.Cond.code x code maxLocals ret :: tables_1) room_1) (lw_P b xs) (fun _ _ _ _ _ => True) lw_Q := by
  refine MetFree.of_bodyS (code := code) (maxLocals := maxLocals) (ret := ret) (by decide) ?_ ?_
  · intro args s m h hn
    obtain ⟨meth, c, h1, h2, h3, h4, h5, h6, -, -⟩ := Cond.code_spec hn (atoms_spec (ws := Jvm.Cond.code x code maxLocals ret :: tables_1) h _ List.mem_cons_self)
    exact ⟨meth, c, h1, h2, h3, h4, h5, h6⟩
  · intro p e s m args below meth c s₁ B hml0 hP _
    obtain ⟨rfl, hx, hbd, hgv⟩ := hP
    obtain ⟨scr, harrAt, hlist, hof, hsmall⟩ := hx
    obtain ⟨hcb, hkn, -, -⟩ := State.arrayAt?_spec harrAt
    have hown : s.vm.findClass R_law = some m.cls := findClass_of_methodNamed B.named
    have hts0 : ∀ c ∈ (Jvm.Cond.code x code maxLocals ret :: tables_1), c.before #[Value.ref b] s = true := atoms_spec (ws := Jvm.Cond.code x code maxLocals ret :: tables_1) B.pre
    have hts : ∀ w ∈ lw_tbl, w.before #[Value.ref b] s = true := k2_hts_sels lw_privs (fun w hw => hts0 w (List.mem_cons_of_mem _ hw)) lw_privs_ok
    have hml : c.maxLocals = 4 := B.maxLocals_eq (hts0 _ List.mem_cons_self)
    have X₀ : Stand p l e room_1 s m #[Value.ref b] below meth c s₁ [] 0 0 := Stand.of_body B
    have hh0 : s₁.heap = s.heap := by rw [B.state]; rfl
    have hsz : scr.slots.size = xs.length := by rw [← Array.length_toList, hlist, List.length_map]
    have hval : ∀ j : Nat, j < xs.length → scr.slots[j]? = some (.int (xs.getD j 0)) := fun j hj => by
      rw [← Array.getElem?_toList, hlist]
      simp [hj]
    have hbl : b < s.heap.size := (Array.getElem?_eq_some_iff.mp hcb).1
    have hX : va_X b xs.length (fun j => xs.getD j 0) s s.heap := ⟨scr, hcb, hof, hkn, hsz, hval⟩
    have K : W p l e room_1 s m #[Value.ref b] below meth c s₁.heap [] 0 0 (lw_Z below #[Value.ref b] s) (entryFrame m ([Value.ref b] : List Value).toArray 4) := by
      rw [hh0]
      exact whole_start l hflags hbd ⟨B.exec, B.bytes, B.returns, hml, hown, hts, hX, hbl, B.notSynchronized, hgv⟩
    obtain ⟨t, a1, o, b1, b2, b3⟩ := K s₁ rfl X₀
    exact ⟨t, o, a1, b1, b2, b3⟩
theorem lw_pre_spec {args : Array Value} {s : State} (h : (Jvm.Cond.and given_1 narrow_1).before args s = true) (hr : rest_1_c.before args s = true) : ∃ (b : Addr) (xs : List Int32), lw_P b xs args s := by
  have hs := flat_of_before _ h
  have hq := flat_of_before _ hr
  have hc : (Cond.count 1).before args s = true := hs _ (by decide +kernel)
  have harr : (Cond.arrayOf (.arg 0) .int).before args s = true := hs _ (by decide +kernel)
  have hle : (Cond.le (.length (.arg 0)) (.int 3072)).before args s = true := hs _ (by decide +kernel)
  have hlen : (Cond.isInt (.length (.arg 0))).before args s = true := hq _ (by decide +kernel)
  have hall : (Cond.all (.arg 0) (.isInt (.elem (.arg 0) (.index 0)))).before args s = true := hq _ (by decide +kernel)
  obtain ⟨b, xs, hb, hx⟩ := State.ints_of_pre rfl harr hlen hall
  have hsm : xs.length < 2 ^ 31 := hx.choose_spec.2.2.2
  have hev : (Term.length (.arg 0)).eval args s none [] s = some (.int xs.length.toInt32) := hx.length_eval hb
  have hv := Cond.le_ints hev (show (Term.int 3072).eval args s none [] s = some (.int 3072) from rfl)
  have hd : xs.length.toInt32 ≤ 3072 := by
    simpa [Cond.before, Cond.holds, hv] using hle
  have hN : xs.length ≤ 3072 := (Int32.ofNat_le_ofNat hsm (by decide)).mp (show Int32.ofNat xs.length ≤ Int32.ofNat 3072 from hd)
  exact ⟨b, xs, Cond.one_arg hc (show args[0]? = some (.ref b) from hb), hx, hN, h⟩
theorem lw_comes (l : Launch) (hflags : l.flags = flags0) : Comes l x (Jvm.Cond.code x code maxLocals ret :: tables_1) room_1 (fun tb e args s => Calls_1 tb e args s ∧ rest_1 tb e args s ∧ Pre_1 tb e args s)
    (fun _ _ args s o t => lw_Q args s o t) := by
  intro p e ha hc hk s m args below hf hfit hheap happ hpre
  obtain ⟨b, xs, hP⟩ := lw_pre_spec hpre.2.2 hpre.2.1
  obtain ⟨k, o, h1, h2, h3, hQ⟩ := lw_walk l hflags b xs p e ha hc hk s m args below hf ((Spec.applies_iff_loose hf).mp happ).1 hP trivial
  exact ⟨k, o, h1, h2, h3, hQ⟩
theorem lw_frame {s t : State} {o : Outcome} {args : Array Value} (h : Framed s o t [] 600000 7302250) :
    Framed s o t (fieldLocs frame_1_writes args s ++ arrayLocs frame_1_arrays args s ++ staticLocs frame_1_statics s) 600000 7302250 := h
theorem lw_limb (L : Cond) (hL : ∀ (args : Array Value) (s t : State), L.after args s (.returned (some (.int 1))) t = true) :
    ArmFor flags0 classFile x code maxLocals ret World_1 tables_1 room_1 Calls_1 rest_1 Pre_1
      (fun tb e a s o t => postC L tb e a s o t ∧ Framed s o t (fieldLocs frame_1_writes a s ++ arrayLocs frame_1_arrays a s ++ staticLocs frame_1_statics s) 600000 7302250) := by
  intro l hflags _ _ p e ha hc hk s m args below hf hfit hheap happ hpre
  obtain ⟨k, o, h1, h2, h3, rfl, hF⟩ := lw_comes l hflags p e ha hc hk s m args below hf hfit hheap happ hpre
  exact ⟨k, _, h1, h2, h3, hL args s _, lw_frame hF⟩
theorem i_vc : Claimed_1_1 ∧ Claimed_1_2 := ⟨lw_limb limb_1_1 (fun args s t => by simp [limb_1_1, Cond.after, Cond.holds, Cond.value]), lw_limb limb_1_2 (fun args s t => Cond.after_iff.mpr (by
  first | (rw [show limb_1_2 = Cond.eq .result (.int 1) from rfl, Cond.eq_ints (x := 1) (y := 1) rfl rfl]; simp; done) | (simp [limb_1_2, Cond.value, Term.eval]; done)))⟩
