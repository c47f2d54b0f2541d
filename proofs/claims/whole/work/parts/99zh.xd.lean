/-! the component's constructor: the letters, the reading, the text -/
def p0 : List Int32 := ce_sB.getD 12 []
theorem p0_len : p0.length = 83 := by decide +kernel
theorem f_add {S : ce_S} {e : Nat} {x : Int32} (he : e < 160) (h : ce_I S 7 0 0 = nI e) : F_X9_add [.inr (.inl (7, 0)), .inl x] S = some (ce_sI (ce_sA S 8 0 e x) 7 0 0 (nI (e + 1))) := by
  have h7 : nI e < 160 := by rw [show (160 : Int32) = nI 160 from rfl, nJ_lt (by omega) (by omega)]; exact he
  have h8 : ¬ (160 : Int32) ≤ nI e := i_lt_not h7
  have hin : ¬ (nI e < 0 ∨ 160 ≤ e) := nJ_in he (by decide)
  have ecl : (nI e).toNatClampNeg = e := nI_clamp (by omega)
  refine fV_by tl_X9_add (gd_r rfl rfl) (fun kk => sg_X9_add_0 x S kk) ?_
  simp only [h, if_neg h8, ecl, if_neg hin, q_add_eq, nJ_succ]
theorem okT_s {c : Nat → Nat} {l : List (Nat × Nat × Nat)} {S : ce_S} {as : List ce_V} (hK : KN c l S) (h : c 61 = 13) (ha : ∀ v ∈ as, ∃ x, v = .inl x) : ce_okT (ksub S kP6) (.inr (.inl (61, 12)) :: as) := by
  intro v hv
  rcases List.mem_cons.mp hv with e | hv
  · subst e
    show 12 < (if kP6 61 = true then ce_C S 61 else 0)
    rw [if_pos (show kP6 61 = true from rfl), hK.1, h]
    decide
  · obtain ⟨x, e⟩ := ha v hv
    subst e; exact trivial
def cF : Nat → Nat := lgd [1, 1, 1, 1, 1, 1, 1, 1, 1, 1, 6, 19, 0, 0, 0, 4, 4, 0, 0, 0, 0, 0, 0, 0, 0, 0, 0, 0, 0, 0, 0, 0, 0, 0, 0, 0, 0, 0, 0, 0, 0, 0]
def uF : List (Nat × Nat × Nat) := [(0, 2, 0), (0, 10, 0), (0, 12, 0)]
theorem uF_60 : ∀ q ∈ uF, q.1 < 60 := by decide
theorem uF_pt : ∀ q ∈ uF, kPt q.1 = false := by decide
set_option maxRecDepth 20000 in
theorem x11_F {Q : Option ce_V → ce_S → Prop} {S0 : ce_S} (g : ∀ S1, KW (fun t _ => t = 7 ∨ t = 8) S0 cF uF S1 → TL p0 S1 → Jg tb_X11_init 159 (42, 689) [some (.inr (.inl (0, 0))), some (.inl (nI 83))] [] S1 Q) : ∀ m e (S : ce_S), m + e = 83 → KW (fun t _ => t = 7 ∨ t = 8) S0 cF uF S → ce_I S 7 0 0 = nI e → (∀ a, a < e → ce_A S 8 0 a = p0.getD a 0) → Jg tb_X11_init 147 (42, 689) [some (.inr (.inl (0, 0))), some (.inl (nI e))] [] S Q := by
  intro m
  induction m with
  | zero =>
    intro e S hm hK h7 hA
    have he : e = 83 := by omega
    subst he
    refine jg_sg tl_X11_init 3 (i' := 149) (fun kk => rfl) ?_
    refine jg_kp (i' := 150) (P := kP6) (n := 1) (F := ce_wI (ce_str F_J0_length_8abf5)) (a := [.inr (.inl (61, 12))]) (rest := [.inl (nI 83)]) (st' := [.inl (nI 83), .inl (nI 83)]) (r := some (.inl (nI 83))) (S1 := ksub S kP6) (S2 := S) rfl rfl rfl rfl (by unfold ce_wI; rw [f_slen 12 (by decide)]; rfl) ⟨Nat.le_of_ble_eq_true rfl, Nat.le_of_ble_eq_true rfl⟩ (kpre6 hK.1 uF_60 (okT_s hK.1 rfl (fun v hv => by cases hv))) rfl rfl ?_
    refine jg_cmpge_t (t := 159) rfl (Int32.le_refl _) ?_
    exact g S hK ⟨by rw [p0_len]; exact h7, by rw [p0_len]; decide, fun a ha => hA a (by rw [p0_len] at ha; exact ha)⟩
  | succ m ih =>
    intro e S hm hK h7 hA
    have he : e < 83 := by omega
    have he2 : e < ce_sN.getD 12 0 := he
    refine jg_sg tl_X11_init 3 (i' := 149) (fun kk => rfl) ?_
    refine jg_kp (i' := 150) (P := kP6) (n := 1) (F := ce_wI (ce_str F_J0_length_8abf5)) (a := [.inr (.inl (61, 12))]) (rest := [.inl (nI e)]) (st' := [.inl (nI 83), .inl (nI e)]) (r := some (.inl (nI 83))) (S1 := ksub S kP6) (S2 := S) rfl rfl rfl rfl (by unfold ce_wI; rw [f_slen 12 (by decide)]; rfl) ⟨Nat.le_of_ble_eq_true rfl, Nat.le_of_ble_eq_true rfl⟩ (kpre6 hK.1 uF_60 (okT_s hK.1 rfl (fun v hv => by cases hv))) rfl rfl ?_
    refine jg_cmpge_f (i' := 151) rfl rfl (by rw [nJ_le (by omega) (by omega)]; omega) ?_
    refine jg_sg tl_X11_init 2 (i' := 152) (fun kk => rfl) ?_
    refine jg_getS (i' := 153) (t := 0) (f := 4) (t' := 7) (g0 := fun _ => 0) (j := 0) (r := 0) hK rfl rfl (by decide) (Nat.le_of_ble_eq_true rfl) rfl ?_
    refine jg_sg tl_X11_init 3 (i' := 155) (fun kk => rfl) ?_
    obtain ⟨ch, hch⟩ : ∃ ch, ch = (ce_sB.getD 12 []).getD e 0 := ⟨_, rfl⟩
    refine jg_kp (i' := 156) (P := kP6) (n := 2) (F := ce_wI (ce_str F_J0_charAt_5068e)) (a := [.inr (.inl (61, 12)), .inl (nI e)]) (rest := [.inr (.inl (7, 0))]) (st' := [.inl ch, .inr (.inl (7, 0))]) (r := some (.inl ch)) (S1 := ksub S kP6) (S2 := S) rfl rfl rfl rfl (by unfold ce_wI; rw [f_sch 12 (by decide) e he2, ← hch]; rfl) ⟨Nat.le_of_ble_eq_true rfl, Nat.le_of_ble_eq_true rfl⟩ (kpre6 hK.1 uF_60 (okT_s hK.1 rfl (fun v hv => by
      rcases List.mem_cons.mp hv with z | hv
      · exact ⟨_, z⟩
      · cases hv))) rfl rfl ?_
    refine jg_kp (i' := 157) (P := kPt) (n := 2) (F := ce_wV F_X9_add) (a := [.inr (.inl (7, 0)), .inl ch]) (rest := []) (st' := []) (r := none) (S1 := ce_sI (ce_sA (ksub S kPt) 8 0 e ch) 7 0 0 (nI (e + 1))) (S2 := ce_sI (ce_sA S 8 0 e ch) 7 0 0 (nI (e + 1))) rfl rfl rfl rfl (by unfold ce_wV; rw [f_add (S := ksub S kPt) (by omega) h7]; rfl) ⟨Nat.le_of_ble_eq_true rfl, Nat.le_of_ble_eq_true rfl⟩ (kpreT hK.1 uF_pt rfl rfl rfl (fun v hv => by
      rcases List.mem_cons.mp hv with z | hv
      · exact ⟨_, z⟩
      · cases hv) (fun t k i q => by rw [r_I_sI, if_neg q]; rfl) rfl (fun t q _ => by
        funext a b
        rw [r_A_sI, r_A_sA, if_neg q]; rfl) rfl) rfl rfl ?_
    refine jg_iinc (i' := 158) (jj := 1) (x := nI e) (d := 1) (x' := nI (e + 1)) (ls' := [some (.inr (.inl (0, 0))), some (.inl (nI (e + 1)))]) rfl rfl rfl (nJ_succ e) rfl ?_
    refine jg_sg tl_X11_init 2 (i' := 147) (fun kk => rfl) ?_
    refine ih (e + 1) _ (by omega) ((hK.sA (Or.inr rfl)).sI (Or.inl rfl)) ?_ (fun a ha => ?_)
    · rw [r_I_sI, if_pos rfl, if_pos rfl, if_pos rfl]
    · rw [r_A_sI, r_A_sA, if_pos rfl, if_pos rfl]
      by_cases z : a = e
      · rw [if_pos z, z, hch]; rfl
      · rw [if_neg z]; exact hA a (by omega)
def tx0 : sp_T := ([-1, -2, 2, -15, -13, -3, 9, -11, 10, -15, -14], [2, -1, -15, -2, 20, -15, -13], [0])
theorem tx0_eq : (p_text (x_toks p0)).2 = some tx0 := by decide +kernel
set_option maxRecDepth 20000 in
theorem x11_G {Q : Option ce_V → ce_S → Prop} {S : ce_S} (hK : KN cF uF S) (hL : TL p0 S) (g : ∀ S1, KW (fun t _ => t = 7 ∨ t = 9) S cF uF S1 → ce_I S1 7 0 0 = 0 → ce_I S1 7 8 0 = nI 11 → ce_I S1 7 9 0 = nI 18 → ce_I S1 7 7 0 = nI 19 → (∀ e, e < 19 → ce_A S1 9 0 e = (tx0.1 ++ tx0.2.1 ++ tx0.2.2).getD e 0) → Jg tb_X11_init 163 (42, 689) [some (.inr (.inl (0, 0))), some (.inl (nI 83))] [] S1 Q) : Jg tb_X11_init 159 (42, 689) [some (.inr (.inl (0, 0))), some (.inl (nI 83))] [] S Q := by
  have hK1 : KW (fun t _ => t = 7 ∨ t = 9) S cF uF S := KW.rf hK
  refine jg_sg tl_X11_init 2 (i' := 160) (fun kk => rfl) ?_
  refine jg_getS (i' := 161) (t := 0) (f := 4) (t' := 7) (g0 := fun _ => 0) (j := 0) (r := 0) hK1 rfl rfl (by decide) (Nat.le_of_ble_eq_true rfl) rfl ?_
  obtain ⟨x, S1, r1, r2, r3, r4⟩ := t_read (p := p0) (S := ksub S kPt) hL
  obtain ⟨X, hX⟩ : ∃ X, X = kjoin S S1 := ⟨_, rfl⟩
  have xI : ∀ t k j, t ≠ 7 → ce_I X t k j = ce_I S t k j := fun t k j q => by rw [hX]; exact r2.1 t k j q
  have xR : ∀ t k j, ce_R X t k j = ce_R S t k j := fun t k j => by rw [hX]; show ce_R S1 t k j = _; rw [r2.2.1]; rfl
  have xA : ∀ t, t ≠ 9 → ce_A X t = ce_A S t := fun t q => by rw [hX]; exact r2.2.2.1 t q
  have xL : ∀ t j, ce_L X t j = ce_L S t j := fun t j => by rw [hX]; show S1.2.2.2.1 t j = _; rw [r2.2.2.2]; rfl
  have xQ : ce_Q X = ce_Q S := by rw [hX]; show S1.2.2.2.2.2 = _; rw [r2.2.2.2]; rfl
  have xC : ∀ t, ce_C X t = ce_C S t := fun t => by rw [hX]; rfl
  refine jg_kp (i' := 162) (P := kPt) (n := 1) (F := ce_wI F_X9_read) (a := [.inr (.inl (7, 0))]) (rest := []) (st' := [.inl x]) (r := some (.inl x)) (S1 := S1) (S2 := X) rfl rfl rfl rfl (by unfold ce_wI; rw [r1]; rfl) ⟨Nat.zero_le _, Nat.le_refl _⟩ (kpreT hK uF_pt rfl rfl rfl (fun v hv => by cases hv) (fun t k i q => r2.1 t k i q) (by rw [r2.2.1]; rfl) (fun t q q2 => r2.2.2.1 t q2) r2.2.2.2) rfl hX.symm ?_
  refine jg_sg tl_X11_init 2 (i' := 163) (fun kk => rfl) ?_
  have ht := tx0_eq
  rcases hp : p_text (x_toks p0) with ⟨T, o⟩
  rw [hp] at ht r4
  have ht : o = some tx0 := ht
  subst ht
  obtain ⟨-, r5, r6, r7, -, r8⟩ := r4
  refine g X ⟨hK.same xC (fun t k j => xR _ k j), fun t j _ hw => ⟨fun k => xI t k j (fun z => hw (Or.inl z)), fun k => xR t k j, fun e => by rw [xA t (fun z => hw (Or.inr z))], xL t j⟩, fun _ => xQ⟩ ?_ ?_ ?_ ?_ (fun e he => ?_)
  · rw [hX]; exact r3
  · rw [hX]; exact r5
  · rw [hX]; exact r6
  · rw [hX]; exact r7
  · rw [hX]; exact r8 e he
def cH : Nat → Nat := lgd [1, 1, 1, 1, 1, 1, 1, 1, 1, 1, 6, 19, 0, 1, 1, 4, 4, 1, 0, 0, 0, 0, 0, 0, 0, 0, 0, 0, 0, 0, 0, 0, 0, 0, 0, 0, 0, 0, 0, 0, 0, 0]
theorem cH_eq : ∀ t, kcv (kcv (kcv cF 13 1) 14 1) 17 1 t = cH t := by
  intro t
  have e1 : kcv cF 13 1 = _ := funext (lgd_set (cl' := [1, 1, 1, 1, 1, 1, 1, 1, 1, 1, 6, 19, 0, 1, 0, 4, 4, 0, 0, 0, 0, 0, 0, 0, 0, 0, 0, 0, 0, 0, 0, 0, 0, 0, 0, 0, 0, 0, 0, 0, 0, 0]) (by decide) (by decide) rfl)
  rw [e1]
  have e2 : kcv (lgd [1, 1, 1, 1, 1, 1, 1, 1, 1, 1, 6, 19, 0, 1, 0, 4, 4, 0, 0, 0, 0, 0, 0, 0, 0, 0, 0, 0, 0, 0, 0, 0, 0, 0, 0, 0, 0, 0, 0, 0, 0, 0]) 14 1 = _ := funext (lgd_set (cl' := [1, 1, 1, 1, 1, 1, 1, 1, 1, 1, 6, 19, 0, 1, 1, 4, 4, 0, 0, 0, 0, 0, 0, 0, 0, 0, 0, 0, 0, 0, 0, 0, 0, 0, 0, 0, 0, 0, 0, 0, 0, 0]) (by decide) (by decide) rfl)
  rw [e2]
  exact lgd_set (by decide) (by decide) rfl t
set_option maxRecDepth 20000 in
theorem x11_H {Q : Option ce_V → ce_S → Prop} {S : ce_S} (hK : KN cF uF S) (h8 : ce_I S 7 8 0 = nI 11) (h9 : ce_I S 7 9 0 = nI 18) (h7 : ce_I S 7 7 0 = nI 19) (hA : ∀ e, e < 19 → ce_A S 9 0 e = (tx0.1 ++ tx0.2.1 ++ tx0.2.2).getD e 0) (g : ∀ S1, KN cH uF S1 → kg (wX 0) S S1 → (∀ k, k ≠ 7 → ce_I S1 0 k 0 = ce_I S 0 k 0) → ce_I S1 0 7 0 = 1 → ce_Q S1 0 = some 0 → txok S1 0 → txt S1 0 = tx0 → Jg tb_X11_init 173 (45, 1013) [some (.inr (.inl (0, 0))), some (.inl 83)] [] S1 Q) : Jg tb_X11_init 163 (42, 689) [some (.inr (.inl (0, 0))), some (.inl (nI 83))] [] S Q := by
  have hK1 : KW (wX 0) S cF uF S := KW.rf hK
  refine jg_sg tl_X11_init 2 (i' := 164) (fun kk => rfl) ?_
  refine jg_getS (i' := 165) (t := 0) (f := 3) (t' := 5) (g0 := fun _ => 0) (j := 0) (r := 0) hK1 rfl rfl (by decide) (Nat.le_of_ble_eq_true rfl) rfl ?_
  refine jg_sg tl_X11_init 3 (i' := 167) (fun kk => rfl) ?_
  refine jg_getS (i' := 168) (t := 0) (f := 4) (t' := 7) (g0 := fun _ => 0) (j := 0) (r := 0) hK1 rfl rfl (by decide) (Nat.le_of_ble_eq_true rfl) rfl ?_
  obtain ⟨S2, m1, m2, m3, m4, m5, m6, m7⟩ := x9_made (S := S) (c := cF) (l0 := uF) (j := 0) (n := 19) hK uF_60 (fun k z => by unfold uF at z; simp at z) (by decide) (by decide) rfl rfl rfl (by decide) h7
  refine jg_cr (i' := 169) (n := 1) (t := 13) (mc := 3) (ms := 324) (MC := 48) (MS := 1028) (nn' := (45, 1013)) (v := 0) (F := F_X9_made) (a := [.inr (.inl (7, 0))]) (rest := [.inl 0, .inr (.inl (5, 0))]) rfl rfl rfl rfl rfl m1 ⟨Nat.le_of_ble_eq_true rfl, Nat.le_of_ble_eq_true rfl, Nat.le_of_ble_eq_true rfl, Nat.le_of_ble_eq_true rfl⟩ ?_
  have hm2 : KW (wX 0) S cH uF S2 := ⟨m2.1.imp cH_eq (fun _ q => q), m2.2.le (fun _ _ => Or.inl)⟩
  refine jg_aastQ (i' := 170) (e := 0) (v := 0) (x := 0) hm2 rfl rfl (by decide) (by decide) rfl (by decide) (by decide) (Or.inr (Or.inl rfl)) (fun hm3 => ?_)
  refine jg_sg tl_X11_init 3 (i' := 172) (fun kk => rfl) ?_
  refine jg_putI (i' := 173) (t := 0) (f := 7) (j := 0) (x := 1) hm3 rfl rfl (Or.inr (Or.inr rfl)) (fun hm4 => ?_)
  obtain ⟨S4, hS4⟩ : ∃ S4, S4 = ce_sI (ce_sQ S2 0 0) 0 7 0 1 := ⟨_, rfl⟩
  rw [← hS4] at hm4 ⊢
  have i1 : ce_I S4 13 1 0 = nI 11 := by
    rw [hS4, r_I_sI, if_neg (by decide)]; exact m3.trans h8
  have i2 : ce_I S4 13 2 0 = nI 18 := by
    rw [hS4, r_I_sI, if_neg (by decide)]; exact m4.trans h9
  have l1 : ce_L S4 14 0 = 19 := by rw [hS4]; exact m5
  have l2 : ce_L S4 17 0 = 19 := by rw [hS4]; exact m6
  have hA4 : ∀ e, e < 19 → ce_A S4 14 0 e = (tx0.1 ++ tx0.2.1 ++ tx0.2.2).getD e 0 := fun e he => by
    rw [hS4]; exact (m7 e he).trans (hA e he)
  refine g S4 hm4.1 hm4.2 (fun k hk => ?_) ?_ ?_ ⟨11, 18, by decide, by rw [l1]; decide, by rw [l1]; decide, i1, i2, by rw [l1, l2]⟩ ?_
  · rw [hS4, r_I_sI, if_pos rfl, if_neg hk]
    exact (m2.2.1 0 0 (by decide) (fun z => by rcases z.1 with e | e | e <;> cases e)).1 k
  · rw [hS4, r_I_sI, if_pos rfl, if_pos rfl, if_pos rfl]
  · rw [hS4, r_Q_sI, r_Q_sQ, if_pos rfl]
  · unfold txt
    rw [i1, i2, l1, nI_clamp (by decide), nI_clamp (by decide)]
    refine Prod.ext ?_ (Prod.ext ?_ ?_)
    · exact cds_is tx0.1 0 (fun e he => by
        have he : e < 11 := he
        rw [hA4 _ (by omega), List.append_assoc, Nat.zero_add, getD_l he])
    · exact cds_is tx0.2.1 _ (fun e he => by
        have he' : e < 7 := he
        rw [hA4 _ (by omega), List.append_assoc]
        exact (getD_r (x := tx0.1)).trans (getD_l he))
    · exact cds_is tx0.2.2 _ (fun e he => by
        have he' : e < 1 := he
        rw [hA4 _ (by omega)]
        exact getD_r (x := tx0.1 ++ tx0.2.1) (y := tx0.2.2) (e := e))
