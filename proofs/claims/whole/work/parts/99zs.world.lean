/-! the world at the law's entry -/
abbrev lw_fl : List Cond := flatC (Cond.and given_1 narrow_1)
def tmS (i : Nat) : Term := .string (ce_tR.getD i ("", 0, "")).1 (ce_tR.getD i ("", 0, "")).2.1
theorem st_ex : ∀ i, i < 13 → Cond.exactly (tmS i) "java/lang/String" ∈ lw_fl := by decide +kernel
theorem st_co : ∀ i, i < 13 → Cond.eq (.field (tmS i) "java/lang/String" "coder" "B") (.int 0) ∈ lw_fl := by decide +kernel
theorem st_ar : ∀ i, i < 13 → Cond.arrayOf (.field (tmS i) "java/lang/String" "value" "[B") .byte ∈ lw_fl := by decide +kernel
theorem st_le : ∀ i, i < 13 → Cond.eq (.length (.field (tmS i) "java/lang/String" "value" "[B")) (.int (Int32.ofNat (ce_sN.getD i 0))) ∈ lw_fl := by decide +kernel
theorem st_el : ∀ i, i < 13 → ∀ j, j < ce_sN.getD i 0 → Cond.eq (.elem (.field (tmS i) "java/lang/String" "value" "[B") (.int (Int32.ofNat j))) (.int ((ce_sB.getD i []).getD j 0)) ∈ lw_fl := by decide +kernel
theorem st_ne : ∀ i j : Nat, i < 13 → j < 13 → i ≠ j → Cond.not (Cond.eq (tmS i) (tmS j)) ∈ lw_fl ∨ Cond.not (Cond.eq (tmS j) (tmS i)) ∈ lw_fl := by
  have key : ∀ i j : Nat, i < j → j < 13 → Cond.not (Cond.eq (tmS i) (tmS j)) ∈ lw_fl ∨ Cond.not (Cond.eq (tmS j) (tmS i)) ∈ lw_fl := by
    intro i j hij hj
    match j, i, hj, hij with
    | 0, i + 0, _, h => exact absurd h (by omega)
    | 1, 0, _, _ => exact Or.inl (List.mem_of_getElem? (i := 260) (by decide +kernel))
    | 1, i + 1, _, h => exact absurd h (by omega)
    | 2, 0, _, _ => exact Or.inl (List.mem_of_getElem? (i := 270) (by decide +kernel))
    | 2, 1, _, _ => exact Or.inl (List.mem_of_getElem? (i := 271) (by decide +kernel))
    | 2, i + 2, _, h => exact absurd h (by omega)
    | 3, 0, _, _ => exact Or.inl (List.mem_of_getElem? (i := 279) (by decide +kernel))
    | 3, 1, _, _ => exact Or.inl (List.mem_of_getElem? (i := 280) (by decide +kernel))
    | 3, 2, _, _ => exact Or.inl (List.mem_of_getElem? (i := 281) (by decide +kernel))
    | 3, i + 3, _, h => exact absurd h (by omega)
    | 4, 0, _, _ => exact Or.inl (List.mem_of_getElem? (i := 290) (by decide +kernel))
    | 4, 1, _, _ => exact Or.inl (List.mem_of_getElem? (i := 291) (by decide +kernel))
    | 4, 2, _, _ => exact Or.inl (List.mem_of_getElem? (i := 292) (by decide +kernel))
    | 4, 3, _, _ => exact Or.inl (List.mem_of_getElem? (i := 293) (by decide +kernel))
    | 4, i + 4, _, h => exact absurd h (by omega)
    | 5, 0, _, _ => exact Or.inl (List.mem_of_getElem? (i := 302) (by decide +kernel))
    | 5, 1, _, _ => exact Or.inl (List.mem_of_getElem? (i := 303) (by decide +kernel))
    | 5, 2, _, _ => exact Or.inl (List.mem_of_getElem? (i := 304) (by decide +kernel))
    | 5, 3, _, _ => exact Or.inl (List.mem_of_getElem? (i := 305) (by decide +kernel))
    | 5, 4, _, _ => exact Or.inl (List.mem_of_getElem? (i := 306) (by decide +kernel))
    | 5, i + 5, _, h => exact absurd h (by omega)
    | 6, 0, _, _ => exact Or.inl (List.mem_of_getElem? (i := 316) (by decide +kernel))
    | 6, 1, _, _ => exact Or.inl (List.mem_of_getElem? (i := 317) (by decide +kernel))
    | 6, 2, _, _ => exact Or.inl (List.mem_of_getElem? (i := 318) (by decide +kernel))
    | 6, 3, _, _ => exact Or.inl (List.mem_of_getElem? (i := 319) (by decide +kernel))
    | 6, 4, _, _ => exact Or.inl (List.mem_of_getElem? (i := 320) (by decide +kernel))
    | 6, 5, _, _ => exact Or.inl (List.mem_of_getElem? (i := 321) (by decide +kernel))
    | 6, i + 6, _, h => exact absurd h (by omega)
    | 7, 0, _, _ => exact Or.inl (List.mem_of_getElem? (i := 332) (by decide +kernel))
    | 7, 1, _, _ => exact Or.inl (List.mem_of_getElem? (i := 333) (by decide +kernel))
    | 7, 2, _, _ => exact Or.inl (List.mem_of_getElem? (i := 334) (by decide +kernel))
    | 7, 3, _, _ => exact Or.inl (List.mem_of_getElem? (i := 335) (by decide +kernel))
    | 7, 4, _, _ => exact Or.inl (List.mem_of_getElem? (i := 336) (by decide +kernel))
    | 7, 5, _, _ => exact Or.inl (List.mem_of_getElem? (i := 337) (by decide +kernel))
    | 7, 6, _, _ => exact Or.inl (List.mem_of_getElem? (i := 338) (by decide +kernel))
    | 7, i + 7, _, h => exact absurd h (by omega)
    | 8, 0, _, _ => exact Or.inl (List.mem_of_getElem? (i := 348) (by decide +kernel))
    | 8, 1, _, _ => exact Or.inl (List.mem_of_getElem? (i := 349) (by decide +kernel))
    | 8, 2, _, _ => exact Or.inl (List.mem_of_getElem? (i := 350) (by decide +kernel))
    | 8, 3, _, _ => exact Or.inl (List.mem_of_getElem? (i := 351) (by decide +kernel))
    | 8, 4, _, _ => exact Or.inl (List.mem_of_getElem? (i := 352) (by decide +kernel))
    | 8, 5, _, _ => exact Or.inl (List.mem_of_getElem? (i := 353) (by decide +kernel))
    | 8, 6, _, _ => exact Or.inl (List.mem_of_getElem? (i := 354) (by decide +kernel))
    | 8, 7, _, _ => exact Or.inl (List.mem_of_getElem? (i := 355) (by decide +kernel))
    | 8, i + 8, _, h => exact absurd h (by omega)
    | 9, 0, _, _ => exact Or.inl (List.mem_of_getElem? (i := 364) (by decide +kernel))
    | 9, 1, _, _ => exact Or.inl (List.mem_of_getElem? (i := 365) (by decide +kernel))
    | 9, 2, _, _ => exact Or.inl (List.mem_of_getElem? (i := 366) (by decide +kernel))
    | 9, 3, _, _ => exact Or.inl (List.mem_of_getElem? (i := 367) (by decide +kernel))
    | 9, 4, _, _ => exact Or.inl (List.mem_of_getElem? (i := 368) (by decide +kernel))
    | 9, 5, _, _ => exact Or.inl (List.mem_of_getElem? (i := 369) (by decide +kernel))
    | 9, 6, _, _ => exact Or.inl (List.mem_of_getElem? (i := 370) (by decide +kernel))
    | 9, 7, _, _ => exact Or.inl (List.mem_of_getElem? (i := 371) (by decide +kernel))
    | 9, 8, _, _ => exact Or.inl (List.mem_of_getElem? (i := 372) (by decide +kernel))
    | 9, i + 9, _, h => exact absurd h (by omega)
    | 10, 0, _, _ => exact Or.inl (List.mem_of_getElem? (i := 382) (by decide +kernel))
    | 10, 1, _, _ => exact Or.inl (List.mem_of_getElem? (i := 383) (by decide +kernel))
    | 10, 2, _, _ => exact Or.inl (List.mem_of_getElem? (i := 384) (by decide +kernel))
    | 10, 3, _, _ => exact Or.inl (List.mem_of_getElem? (i := 385) (by decide +kernel))
    | 10, 4, _, _ => exact Or.inl (List.mem_of_getElem? (i := 386) (by decide +kernel))
    | 10, 5, _, _ => exact Or.inl (List.mem_of_getElem? (i := 387) (by decide +kernel))
    | 10, 6, _, _ => exact Or.inl (List.mem_of_getElem? (i := 388) (by decide +kernel))
    | 10, 7, _, _ => exact Or.inl (List.mem_of_getElem? (i := 389) (by decide +kernel))
    | 10, 8, _, _ => exact Or.inl (List.mem_of_getElem? (i := 390) (by decide +kernel))
    | 10, 9, _, _ => exact Or.inl (List.mem_of_getElem? (i := 391) (by decide +kernel))
    | 10, i + 10, _, h => exact absurd h (by omega)
    | 11, 0, _, _ => exact Or.inl (List.mem_of_getElem? (i := 401) (by decide +kernel))
    | 11, 1, _, _ => exact Or.inl (List.mem_of_getElem? (i := 402) (by decide +kernel))
    | 11, 2, _, _ => exact Or.inl (List.mem_of_getElem? (i := 403) (by decide +kernel))
    | 11, 3, _, _ => exact Or.inl (List.mem_of_getElem? (i := 404) (by decide +kernel))
    | 11, 4, _, _ => exact Or.inl (List.mem_of_getElem? (i := 405) (by decide +kernel))
    | 11, 5, _, _ => exact Or.inl (List.mem_of_getElem? (i := 406) (by decide +kernel))
    | 11, 6, _, _ => exact Or.inl (List.mem_of_getElem? (i := 407) (by decide +kernel))
    | 11, 7, _, _ => exact Or.inl (List.mem_of_getElem? (i := 408) (by decide +kernel))
    | 11, 8, _, _ => exact Or.inl (List.mem_of_getElem? (i := 409) (by decide +kernel))
    | 11, 9, _, _ => exact Or.inl (List.mem_of_getElem? (i := 410) (by decide +kernel))
    | 11, 10, _, _ => exact Or.inl (List.mem_of_getElem? (i := 411) (by decide +kernel))
    | 11, i + 11, _, h => exact absurd h (by omega)
    | 12, 0, _, _ => exact Or.inr (List.mem_of_getElem? (i := 249) (by decide +kernel))
    | 12, 1, _, _ => exact Or.inr (List.mem_of_getElem? (i := 259) (by decide +kernel))
    | 12, 2, _, _ => exact Or.inr (List.mem_of_getElem? (i := 269) (by decide +kernel))
    | 12, 3, _, _ => exact Or.inr (List.mem_of_getElem? (i := 278) (by decide +kernel))
    | 12, 4, _, _ => exact Or.inr (List.mem_of_getElem? (i := 289) (by decide +kernel))
    | 12, 5, _, _ => exact Or.inr (List.mem_of_getElem? (i := 301) (by decide +kernel))
    | 12, 6, _, _ => exact Or.inr (List.mem_of_getElem? (i := 315) (by decide +kernel))
    | 12, 7, _, _ => exact Or.inr (List.mem_of_getElem? (i := 331) (by decide +kernel))
    | 12, 8, _, _ => exact Or.inr (List.mem_of_getElem? (i := 347) (by decide +kernel))
    | 12, 9, _, _ => exact Or.inr (List.mem_of_getElem? (i := 363) (by decide +kernel))
    | 12, 10, _, _ => exact Or.inr (List.mem_of_getElem? (i := 381) (by decide +kernel))
    | 12, 11, _, _ => exact Or.inr (List.mem_of_getElem? (i := 400) (by decide +kernel))
    | 12, i + 12, _, h => exact absurd h (by omega)
    | j + 13, _, h, _ => exact absurd h (by omega)
  intro i j hi hj hne
  rcases Nat.lt_or_gt_of_ne hne with h | h
  · exact key i j h hj
  · exact (key j i h hi).symm
theorem st_n : ∀ i, i < 13 → ce_sN.getD i 0 < 2 ^ 31 := by decide
theorem lw_X {p : Program} {s : State} {m : MethodId} {meth : Method} {c : Code} {b L : Nat} {xs : Nat → Int32} (C0 : lw_At p s m meth c b L xs) : ∃ ad : Nat → Nat → Nat, ce_X ad (lb s) s := by
  obtain ⟨hx, hb, hr, hml, hown, hts0, hX, hbl, hlocks, hgv⟩ := id C0
  have hs := flat_of_before _ hgv
  have hA : ∀ a : Nat, a < s.heap.size → ¬ lb s a := fun a h => Nat.not_le.mpr h
  obtain ⟨adK, adV, h1, h2⟩ := vk_Sof (args := #[Value.ref b]) (s := s) (N := 13) (tm := tmS) (len := ce_sN) (byt := ce_sB) (A := lb s) st_n (fun i hi => hs _ (st_ex i hi)) (fun i hi => hs _ (st_co i hi)) (fun i hi => hs _ (st_ar i hi)) (fun i hi => hs _ (st_le i hi)) (fun i hi j hj => hs _ (st_el i hi j hj)) (fun i j hi hj hne => (st_ne i j hi hj hne).imp (hs _) (hs _)) hA
  refine ⟨fun t i => if t = 61 then adK i else adV i, h1, fun j q hj => ?_, ?_, ?_, fun q h => h⟩
  · match j, hj with
    | 0, hj => cases hj; exact vk_R.of (hts0 _ (List.mem_of_getElem? wd_305)) (h2 0 (by decide))
    | 1, hj => cases hj; exact vk_R.of (hts0 _ (List.mem_of_getElem? wd_312)) (h2 1 (by decide))
    | 2, hj => cases hj; exact vk_R.of (hts0 _ (List.mem_of_getElem? wd_313)) (h2 2 (by decide))
    | 3, hj => cases hj; exact vk_R.of (hts0 _ (List.mem_of_getElem? wd_314)) (h2 3 (by decide))
    | 4, hj => cases hj; exact vk_R.of (hts0 _ (List.mem_of_getElem? wd_315)) (h2 4 (by decide))
    | 5, hj => cases hj; exact vk_R.of (hts0 _ (List.mem_of_getElem? wd_316)) (h2 5 (by decide))
    | 6, hj => cases hj; exact vk_R.of (hts0 _ (List.mem_of_getElem? wd_317)) (h2 6 (by decide))
    | 7, hj => cases hj; exact vk_R.of (hts0 _ (List.mem_of_getElem? wd_318)) (h2 7 (by decide))
    | 8, hj => cases hj; exact vk_R.of (hts0 _ (List.mem_of_getElem? wd_319)) (h2 8 (by decide))
    | 9, hj => cases hj; exact vk_R.of (hts0 _ (List.mem_of_getElem? wd_320)) (h2 9 (by decide))
    | 10, hj => cases hj; exact vk_R.of (hts0 _ (List.mem_of_getElem? wd_321)) (h2 10 (by decide))
    | 11, hj => cases hj; exact vk_R.of (hts0 _ (List.mem_of_getElem? wd_322)) (h2 11 (by decide))
    | 12, hj => cases hj; exact vk_R.of (hts0 _ (List.mem_of_getElem? wd_234)) (h2 12 (by decide))
    | _ + 13, hj => cases hj
  · exact va_Zof (hts0 _ (List.mem_of_getElem? wd_244)) (hts0 _ (List.mem_of_getElem? wd_67)) (va_eqt (hs _ (by decide +kernel))) hA
  · exact va_Zqof (hts0 _ (List.mem_of_getElem? wd_260)) (hts0 _ (List.mem_of_getElem? wd_69)) (hs _ (by decide +kernel)) hA
theorem lw_arO {p : Program} {s : State} {m : MethodId} {meth : Method} {c : Code} {b L : Nat} {xs : Nat → Int32} (C0 : lw_At p s m meth c b L xs) {C : String} (h : Cond.arrayOver (.object C) ∈ lw_tbl) : ∃ cA, ArrOfT s cA (.object C) ∧ va_RA s cA (.object C) := by
  obtain ⟨comp, cA, k, h1, h2, h3, h4, h5⟩ := Cond.arrayOver_spec (C0.2.2.2.2.2.1 _ h)
  exact ⟨cA, fun n z => ⟨(fun q hq => by cases hq), k, h3, comp, h4⟩, k, comp, h3, h4, h1, h5⟩
theorem lw_G {p : Program} {s : State} {m : MethodId} {meth : Method} {c : Code} {b L : Nat} {xs : Nat → Int32} (C0 : lw_At p s m meth c b L xs) : ∃ (D : va_G) (ca : Nat → ClassId), ce_GK D ca s := by
  obtain ⟨hx, hb, hr, hml, hown, hts0, hX, hbl, hlocks, hgv⟩ := id C0
  have hs := flat_of_before _ hgv
  have hts : ∀ w ∈ ce_tw, w.before #[Value.ref b] s = true := fun w hw => hts0 w (List.mem_filter.mp hw).1
  obtain ⟨c0, i0, k0⟩ := u_known (C := RX0) (T := TX0) (N := 0) hts (fun w hw => by cases hw) (hts0 _ (List.mem_of_getElem? wd_162))
  obtain ⟨c1, i1, k1⟩ := u_known (C := RX1) (T := TX1) (N := 0) hts (fun w hw => by cases hw) (hts0 _ (List.mem_of_getElem? wd_169))
  obtain ⟨c2, i2, k2⟩ := u_known (C := RX2) (T := TX2) (N := 0) hts (fun w hw => by cases hw) (hts0 _ (List.mem_of_getElem? wd_141))
  obtain ⟨c3, i3, k3⟩ := u_known (C := RX3) (T := TX3) (N := 0) hts (fun w hw => by cases hw) (hts0 _ (List.mem_of_getElem? wd_134))
  obtain ⟨c4, i4, k4⟩ := u_known (C := RX4) (T := TX4) (N := 5) hts cw_X4 (hts0 _ (List.mem_of_getElem? wd_413))
  obtain ⟨c5, i5, k5⟩ := u_known (C := RX5) (T := TX5) (N := 8) hts cw_X5 (hts0 _ (List.mem_of_getElem? wd_175))
  obtain ⟨c6, i6, k6⟩ := u_known (C := RX6) (T := TX6) (N := 3) hts cw_X6 (hts0 _ (List.mem_of_getElem? wd_216))
  obtain ⟨c7, i7, k7⟩ := u_known (C := RX7) (T := TX7) (N := 0) hts (fun w hw => by cases hw) (hts0 _ (List.mem_of_getElem? wd_155))
  obtain ⟨c8, i8, k8⟩ := u_known (C := RX8) (T := TX8) (N := 0) hts (fun w hw => by cases hw) (hts0 _ (List.mem_of_getElem? wd_148))
  obtain ⟨c9, i9, k9⟩ := u_known (C := RX9) (T := TX9) (N := 11) hts cw_X9 (hts0 _ (List.mem_of_getElem? wd_91))
  obtain ⟨c10, i10, k10⟩ := u_known (C := RX10) (T := TX10) (N := 4) hts cw_X10 (hts0 _ (List.mem_of_getElem? wd_378))
  obtain ⟨c11, i11, k11⟩ := u_known (C := RX11) (T := TX11) (N := 14) hts cw_X11 (hts0 _ (List.mem_of_getElem? wd_77))
  obtain ⟨c12, i12, k12⟩ := u_known (C := RX12) (T := TX12) (N := 45) hts cw_X12 (hts0 _ (List.mem_of_getElem? wd_809))
  obtain ⟨a0, kA0, comp0, q1, q2, q3⟩ := Cond.arrayClass_spec (hts0 _ (List.mem_of_getElem? wd_131))
  obtain ⟨a1, r1, t1⟩ := lw_arO C0 (C := RX3) (List.mem_of_getElem? wd_85)
  obtain ⟨a2, r2, t2⟩ := lw_arO C0 (C := RX5) (List.mem_of_getElem? wd_87)
  obtain ⟨a3, r3, t3⟩ := lw_arO C0 (C := RX10) (List.mem_of_getElem? wd_89)
  obtain ⟨a4, r4, t4⟩ := lw_arO C0 (C := RX6) (List.mem_of_getElem? wd_133)
  obtain ⟨comp5, a5, kA5, p1, p2, p3, p4, p5⟩ := arrayOverA_spec (hts0 _ (List.mem_of_getElem? wd_815))
  refine ⟨(fun k => if k = 0 then c0 else (if k = 1 then c1 else (if k = 2 then c2 else (if k = 3 then c3 else (if k = 4 then c4 else (if k = 5 then c5 else (if k = 6 then c6 else (if k = 7 then c7 else (if k = 8 then c8 else (if k = 9 then c9 else (if k = 10 then c10 else (if k = 11 then c11 else (c12)))))))))))), fun k => if k = 0 then i0 else (if k = 1 then i1 else (if k = 2 then i2 else (if k = 3 then i3 else (if k = 4 then i4 else (if k = 5 then i5 else (if k = 6 then i6 else (if k = 7 then i7 else (if k = 8 then i8 else (if k = 9 then i9 else (if k = 10 then i10 else (if k = 11 then i11 else (i12))))))))))))), fun k => if k = 0 then a0 else (if k = 1 then a1 else (if k = 2 then a2 else (if k = 3 then a3 else (if k = 4 then a4 else (a5))))), ⟨⟨fun k q hq => ?_, fun k q hq => ?_⟩, ⟨?_, ?_, ?_⟩, fun q hq => ?_, ?_⟩, fun C hC => ?_, ?_, fun C hC => ?_, fun q hq => ?_⟩
  · match k, hq with
    | 0, hq => cases hq; exact k0
    | 1, hq => cases hq; exact k1
    | 2, hq => cases hq; exact k2
    | 3, hq => cases hq; exact k3
    | 4, hq => cases hq; exact k4
    | 5, hq => cases hq; exact k5
    | 6, hq => cases hq; exact k6
    | 7, hq => cases hq; exact k7
    | 8, hq => cases hq; exact k8
    | 9, hq => cases hq; exact k9
    | 10, hq => cases hq; exact k10
    | 11, hq => cases hq; exact k11
    | 12, hq => cases hq; exact k12
    | _ + 13, hq => cases hq
  · match k, hq with
    | 0, hq => cases hq; exact ⟨fun n z => ⟨(fun q hq => by cases hq), kA0, q2, comp0, q3⟩, q1⟩
    | 1, hq => cases hq; exact ⟨r1, t1⟩
    | 2, hq => cases hq; exact ⟨r2, t2⟩
    | 3, hq => cases hq; exact ⟨r3, t3⟩
    | 4, hq => cases hq; exact ⟨r4, t4⟩
    | 5, hq => cases hq; exact ⟨fun n z => ⟨(fun q hq => by cases hq), kA5, p3, comp5, p4⟩, p5⟩
    | _ + 6, hq => cases hq
  · exact va_Nw.of rfl (hts0 _ (List.mem_of_getElem? wd_383))
  · exact va_Nw.of rfl (hts0 _ (List.mem_of_getElem? wd_517))
  · exact va_Nw.of rfl (hts0 _ (List.mem_of_getElem? wd_778))
  · simp only [ce_castW, List.mem_cons, List.not_mem_nil, or_false] at hq
    rcases hq with rfl | rfl | rfl
    · exact va_Nw.of rfl (hts0 _ (List.mem_of_getElem? wd_1234))
    · exact va_Nw.of rfl (hts0 _ (List.mem_of_getElem? wd_1235))
    · exact va_Nw.of rfl (hts0 _ (List.mem_of_getElem? wd_1236))
  · intro a ha b hb
    simp only [List.mem_cons, List.not_mem_nil, or_false] at ha hb
    rcases ha with rfl | rfl | rfl | rfl | rfl | rfl
    · rcases hb with rfl | rfl | rfl | rfl | rfl
      · exact Or.inr (Or.inl (by decide))
      · exact Or.inr (Or.inr (va_Nc.of (hs _ (by decide +kernel))))
      · exact Or.inr (Or.inr (va_Nc.of (hs _ (by decide +kernel))))
      · exact Or.inl rfl
      · exact Or.inr (Or.inr (va_Nc.of (hs _ (by decide +kernel))))
    · rcases hb with rfl | rfl | rfl | rfl | rfl
      · exact Or.inr (Or.inl (by decide))
      · exact Or.inr (Or.inr (va_Nc.of (hs _ (by decide +kernel))))
      · exact Or.inr (Or.inr (va_Nc.of (hs _ (by decide +kernel))))
      · exact Or.inr (Or.inr (va_Nc.of (hs _ (by decide +kernel))))
      · exact Or.inl rfl
    · rcases hb with rfl | rfl | rfl | rfl | rfl
      · exact Or.inl rfl
      · exact Or.inr (Or.inr (va_Nc.of (hs _ (by decide +kernel))))
      · exact Or.inr (Or.inr (va_Nc.of (hs _ (by decide +kernel))))
      · exact Or.inr (Or.inr (va_Nc.of (hs _ (by decide +kernel))))
      · exact Or.inr (Or.inr (va_Nc.of (hs _ (by decide +kernel))))
    · rcases hb with rfl | rfl | rfl | rfl | rfl
      · exact Or.inr (Or.inr (va_Nc.of (hs _ (by decide +kernel))))
      · exact Or.inr (Or.inr (va_Nc.of (hs _ (by decide +kernel))))
      · exact Or.inr (Or.inr (va_Nc.of (hs _ (by decide +kernel))))
      · exact Or.inr (Or.inr (va_Nc.of (hs _ (by decide +kernel))))
      · exact Or.inr (Or.inr (va_Nc.of (hs _ (by decide +kernel))))
    · rcases hb with rfl | rfl | rfl | rfl | rfl
      · exact Or.inr (Or.inr (va_Nc.of (hs _ (by decide +kernel))))
      · exact Or.inr (Or.inl (by decide))
      · exact Or.inl rfl
      · exact Or.inr (Or.inr (va_Nc.of (hs _ (by decide +kernel))))
      · exact Or.inr (Or.inr (va_Nc.of (hs _ (by decide +kernel))))
    · rcases hb with rfl | rfl | rfl | rfl | rfl
      · exact Or.inr (Or.inr (va_Nc.of (hs _ (by decide +kernel))))
      · exact Or.inl rfl
      · exact Or.inr (Or.inr (va_Nc.of (hs _ (by decide +kernel))))
      · exact Or.inr (Or.inr (va_Nc.of (hs _ (by decide +kernel))))
      · exact Or.inr (Or.inr (va_Nc.of (hs _ (by decide +kernel))))
  · simp only [List.mem_cons, List.not_mem_nil, or_false] at hC
    rcases hC with rfl | rfl | rfl | rfl
    · exact va_AO.of (hts0 _ (List.mem_of_getElem? wd_85))
    · exact va_AO.of (hts0 _ (List.mem_of_getElem? wd_87))
    · exact va_AO.of (hts0 _ (List.mem_of_getElem? wd_89))
    · exact va_AO.of (hts0 _ (List.mem_of_getElem? wd_133))
  · exact hts0 _ (List.mem_of_getElem? wd_815)
  · simp only [List.mem_cons, List.not_mem_nil, or_false] at hC
    rcases hC with rfl | rfl | rfl | rfl | rfl
    · exact va_Nw.of rfl (hts0 _ (List.mem_of_getElem? wd_1240))
    · exact va_Nw.of rfl (hts0 _ (List.mem_of_getElem? wd_1241))
    · exact va_Nw.of rfl (hts0 _ (List.mem_of_getElem? wd_1237))
    · exact va_Nw.of rfl (hts0 _ (List.mem_of_getElem? wd_1239))
    · exact va_Nw.of rfl (hts0 _ (List.mem_of_getElem? wd_1238))
  · simp only [k_nest, List.mem_cons, List.not_mem_nil, or_false] at hq
    rcases hq with rfl | rfl | rfl | rfl | rfl | rfl | rfl | rfl | rfl | rfl | rfl | rfl | rfl
    · exact va_Nw.of rfl (hts0 _ (List.mem_of_getElem? wd_92))
    · exact va_Nw.of rfl (hts0 _ (List.mem_of_getElem? wd_135))
    · exact va_Nw.of rfl (hts0 _ (List.mem_of_getElem? wd_142))
    · exact va_Nw.of rfl (hts0 _ (List.mem_of_getElem? wd_149))
    · exact va_Nw.of rfl (hts0 _ (List.mem_of_getElem? wd_156))
    · exact va_Nw.of rfl (hts0 _ (List.mem_of_getElem? wd_163))
    · exact va_Nw.of rfl (hts0 _ (List.mem_of_getElem? wd_170))
    · exact va_Nw.of rfl (hts0 _ (List.mem_of_getElem? wd_217))
    · exact va_Nw.of rfl (hts0 _ (List.mem_of_getElem? wd_145))
    · exact va_Nw.of rfl (hts0 _ (List.mem_of_getElem? wd_152))
    · exact va_Nw.of rfl (hts0 _ (List.mem_of_getElem? wd_159))
    · exact va_Nw.of rfl (hts0 _ (List.mem_of_getElem? wd_166))
    · exact va_Nw.of rfl (hts0 _ (List.mem_of_getElem? wd_173))
