/-! super.m(..), where the named one may have it from its own -/
theorem ce_sub {vm : Vm} {a b : ClassId} {k : Class} (h : vm.classes[a]? = some k) (hs : k.super = some b) : vm.isSubclass a b = true := by
  have hlt : a < vm.classes.size := (Array.getElem?_eq_some_iff.mp h).1
  unfold Vm.isSubclass
  obtain ⟨n, hn⟩ : ∃ n, vm.classes.size = n + 1 := ⟨vm.classes.size - 1, (Nat.succ_pred_eq_of_pos (Nat.lt_of_le_of_lt (Nat.zero_le _) hlt)).symm⟩
  rw [hn]
  simp [Vm.isSubclassAux, h, hs]
section CESU
variable {p : Program} {l : Launch} {e : Env} {R : Room} {s : State} {m : MethodId} {args : Array Value} {below : List Frame} {meth : Method} {c : Code} {H : Heap} {locs : List Loc} {cells slots : Nat}
theorem ce_runSU {x y : MethodName} {bytes cc : ByteArray} {maxL nL mc ms n index : Nat} {ret : Option FieldType} {ws : List Cond} {rm : Room} {Pc : Array Value → State → Prop} {Qc : Array Value → State → Outcome → State → Prop} {free : Addr → Prop} {Ts : List Cond} {own C : String} {cC : ClassId} {b : Addr} {As rest : List Value} {g : JFrame}
    (hat : ClassAt s C cC) (S : CallFix p m c cc nL s args Ts own) (hM : Met l y ws rm Pc Qc mc ms free)
    (hback : rm.cells = mc ∧ rm.slots = ms ∧ rm.frames + 1 ≤ R.frames ∧ 8 + (maxL + 11) + rm.locals ≤ R.locals ∧ (∀ w ∈ ws, ∀ (a' : Array Value) (U : State), s.WarmedH U.vm → w.before a' U = true) ∧ Cond.code y bytes maxL ret ∈ ws)
    (hlink : (Cond.methodLink own index x).before args s = true) (hsame : (Cond.sameMethod x.cls y.cls x.name x.desc).before args s = true) (hyx : y = ⟨y.cls, x.name, x.desc⟩) (hsup : (Cond.superclass own x.cls).before args s = true) (hsub : x.cls = y.cls ∨ (Cond.superclass x.cls y.cls).before args s = true)
    (hinst : (Cond.instanceMethod y).before args s = true) (hini : (Cond.initialized y.cls).before args s = true) (hcode : (Cond.code y bytes maxL ret).before args s = true) (hno : x.name ≠ "<init>") (hlen : ∀ sig, parseMethodDescriptor y.desc = some sig → n = sig.parameters.length) (hp : PreV s H C b Pc As)
    (hg : g.method = m) (hn : As.length = n) (hsize : g.locals.size = nL) (hstack : g.stack = As.reverse ++ .ref b :: rest) (hW : 2 * g.monitorRoom + (rest.map fun v => v.category).sum ≤ 8) (hdg : decode cc g.pc = .ok (.invokespecial index, 3)) (hf : cells + mc ≤ R.cells ∧ slots + ms ≤ R.slots) :
    va_Run p l e R s m args below meth c H locs cells slots mc ms g rest (Qc (Value.ref b :: As).toArray) (free) := by
  obtain ⟨hrc, hrs, hfr, hlo, hws, hcw⟩ := hback
  have hK : Back l R p e below s args y 3 8 (PreOf R mc ms Pc) (PostOf Qc mc ms free) := back_of (bytes := bytes) (maxL := maxL) (ret := ret) hM hp.1 hrc hrs hfr hlo hws hcw (fun a' U hW => word_at hW (Or.inl (by first | rfl | simp [Cond.onTables, Cond.keeps, Cond.steady])) hini)
  obtain ⟨hx, hb, hml, ho, -⟩ := S
  obtain ⟨-, ⟨cellB, hcB, hoB, hclB⟩, hPc⟩ := hp
  obtain ⟨hfc, kB, hkB, -⟩ := hat
  cases hfc.symm.trans hclB
  intro T hT X
  obtain ⟨mk, methM, hnamed, hmethM, hstM, habM⟩ := Cond.instanceMethod_spec hinst
  obtain ⟨methM', cM, hmethM', -, -, -, -, -, -, hsigM⟩ := Cond.code_spec hnamed hcode
  cases hmethM.symm.trans hmethM'
  obtain ⟨ps, dk, kp, hps, hdk, hkp, hsuper, -, -, hnid⟩ := Cond.superclass_spec ho hsup
  have hn0 : s.methodNamed? ⟨y.cls, x.name, x.desc⟩ = some mk := by rw [← hyx]; exact hnamed
  have hsubc : s.vm.isSubclass ps mk.cls = true := by
    rcases hsub with e | e
    · have hpm : ps = mk.cls := Option.some.inj (hps.symm.trans (by rw [e]; exact findClass_of_methodNamed hnamed))
      rw [hpm]; simp [Vm.isSubclass, Vm.isSubclassAux]
    · obtain ⟨ps2, dk2, kp2, hps2, hdk2, hkp2, hsuper2, -, -, -⟩ := Cond.superclass_spec hps e
      have hpm : ps2 = mk.cls := Option.some.inj (hps2.symm.trans (findClass_of_methodNamed hnamed))
      rw [← hpm]
      exact ce_sub hdk2 hsuper2
  obtain ⟨vm₁, X₁, hstep₁⟩ := X.invokespecialUp hx ho hlink hsame hn0 hmethM hstM habM hno hdk hnid hps hsuper hsubc (a := b) (cell := cellB) (by rw [hT]; exact hcB)
    (fun z h => by rw [h] at hoB; cases hoB) hkB (g := g) hg (argsL := As) (rest := rest) (hn.trans (hlen _ hsigM)) hstack (by rw [hb]; exact hdg)
  obtain ⟨v, ⟨U', l2, c2, s2⟩, X', ⟨g', mk', t, L, e1, e2, hq, h1, hL, h2, h3⟩, hsteps⟩ := hK m meth c ⟨T.setVm vm₁, locs, cells, slots⟩ { g with stack := rest } (.invokespecial index) mk (Value.ref b :: As).toArray X₁ hg (hsize.trans hml.symm) (by rw [hb]; exact hdg) hW (X₁.named hnamed) ⟨hf.1, hf.2, hPc (T.setVm vm₁) hT X₁.warmed⟩
  dsimp only [Pt.U, Pt.locs, Pt.cells, Pt.slots] at X' e1 e2 h1 h2 h3 hsteps
  subst h1; subst h2; subst h3
  exact ⟨v, (T.setVm vm₁).calling g' mk' (Value.ref b :: As).toArray, t, U', L, hT, X', hL, e1, e2, hq, fun target h => hstep₁ _ (by rw [doInvoke_state]; exact hsteps.trans h)⟩
end CESU
section CESV
variable {l : Launch} {cc : ByteArray} {own : String} {nL : Nat} {rt : Option FieldType} {d MC MS : Nat} {pcs : List Nat} {i pc : Nat}
theorem ok_super {op : ce_Op} {x y : MethodName} {n d' ix p1 p2 p3 p4 p5 : Nat} {F : List ce_V → ce_S → ce_Rs} (hop : ce_isC op (n + 1) 0 0 MC MS F) (hp : pcs.getD i 0 = pc) (hp' : pcs.getD (i + 1) 0 = pc + 3) (hd : decode cc pc = .ok (.invokespecial ix, 3)) (hD : d' < d) (hc : ce_callee l y n d' 0 0 F) (hrec : ∀ a S res, F a S = some res → ∃ j as, a = .inr (.inl (10, j)) :: as) (hyx : y = ⟨y.cls, x.name, x.desc⟩) (hno : x.name ≠ "<init>")
    (g1 : lw_tbl[p1]? = some (Cond.methodLink own ix x)) (g2 : lw_tbl[p2]? = some (Cond.sameMethod x.cls y.cls x.name x.desc)) (g3 : lw_tbl[p3]? = some (Cond.superclass own x.cls)) (g4 : lw_tbl[p4]? = some (Cond.instanceMethod y)) (g5 : lw_tbl[p5]? = some (Cond.initialized y.cls)) (g6 : x.cls = y.cls ∨ ∃ p6 : Nat, lw_tbl[p6]? = some (Cond.superclass x.cls y.cls)) : ce_Ok l cc own nL rt d MC MS pcs i op := by
  intro nn ls st S k res h hk p e s m args below meth c D ca b0 ad0 S0 ad H locs rls hC h61 hX hR hT h1 h2
  obtain ⟨hx, hb, hml, hown, ⟨w0, hts⟩, hr, hlk, hG⟩ := id hC
  obtain ⟨a1, a2, a3, a4, r, S', hF, hk2⟩ := hop i nn ls st S k res h
  obtain ⟨cc', nL', rt', hctr, hcode, hnl, hm1, hm2, hlen⟩ := hc
  obtain ⟨j, as, hje⟩ := hrec _ _ _ hF
  have hTa : ce_okT S (st.take (n + 1)).reverse := fun v hv => hT v (List.mem_of_mem_take (List.mem_reverse.mp hv))
  have hTr : ce_okT S (st.drop (n + 1)) := fun v hv => hT v (List.mem_of_mem_drop hv)
  rw [hp]
  rw [hje] at hF hTa
  have hM := hctr D ca b0 ad S _ _ hF hR.2.2.2.1 hTa (ce_h61 hR.2.2.2.2.2 h61)
  have hst := ce_stk (ad := ad) hje
  obtain ⟨T, hT2⟩ := ce_kn_ci j
  have hgi := ce_gIn (w0 := w0) (ex := []) hcode (by intro w hw; cases hw)
  exact ce_after hp' hk hC h61 hX hR hTr a1 a2 hk2 (ce_runSU (x := x) (As := as.map (ce_val ad)) (b := ad 10 j) (hG.1.1 _ _ hT2).2 ⟨hx, hb, hml, hown, hts⟩ hM ⟨rfl, rfl, hD, by show 8 + (nL' + 11) + 60 * d' ≤ 60 * d; omega, pay_in hts hgi, List.mem_cons_self⟩ (ce_wIn hts g1 rfl) (ce_wIn hts g2 rfl) hyx (ce_wIn hts g3 rfl) (g6.imp id (fun z => by obtain ⟨p6, g6⟩ := z; exact ce_wIn (P := fun w => w.before args s = true) hts g6 rfl)) (ce_wIn hts g4 rfl) (ce_wIn hts g5 rfl) (hts _ (List.mem_cons_of_mem _ hcode)) hno (fun sig h => by rw [h] at hlen; exact (Option.some.inj hlen).symm) ⟨ce_blind, ce_recv hG hR.1 (ce_okT_hd hTa) rfl hT2, fun U hU hW => ⟨rfl, ce_pre hG h61 hX hR U hU hW⟩⟩ rfl (by rw [List.length_map]; exact ce_alen hje a4) hR.2.2.1.1 hst (lv_room (ce_cat8 a3)) hd ⟨a1, a2⟩)
end CESV
