/-! the law: its loop -/
theorem and31 (a : Int32) : ∃ k, k < 32 ∧ a &&& 31 = nI k := by
  refine ⟨(a &&& 31).toBitVec.toNat, ?_, ?_⟩
  · show (a.toBitVec &&& (31 : Int32).toBitVec).toNat < 32
    rw [BitVec.toNat_and]
    exact Nat.lt_of_le_of_lt Nat.and_le_right (by decide)
  · refine Int32.toBitVec_inj.mp ?_
    show (a &&& 31).toBitVec = BitVec.ofNat 32 (a &&& 31).toBitVec.toNat
    rw [BitVec.ofNat_toNat, BitVec.setWidth_eq]
theorem sub6 {L : Nat} (h : L ≤ 3072) : (nI L - 6).toInt = (L : Int) - 6 := by
  rw [Int32.toInt_sub, i_nI (by omega), show (6 : Int32).toInt = 6 from rfl]
  refine Int.bmod_eq_of_le_mul_two ?_ ?_ <;> omega
theorem d_sw : decode code 33 = .ok (.tableswitch 1132 0 27 #[127, 160, 203, 226, 259, 282, 295, 318, 351, 374, 427, 460, 513, 546, 589, 632, 675, 728, 761, 794, 848, 861, 874, 897, 940, 983, 1046, 1099], 127) := by decide +kernel
set_option maxRecDepth 20000 in
theorem law_loop {p : Program} {e : Env} {s : State} {m : MethodId} {below : List Frame} {meth : Method} {c : Code} {l : Launch} {b L : Nat} {xs : Nat → Int32} {D : va_G} {ca : Nat → ClassId} {qx qm : Nat} (C0 : lw_At p s m meth c b L xs) (hG : ce_GK D ca s) (hLL : L ≤ 3072) : ∀ (n i : Nat) (x3 : Int32) (ad : Nat → Nat → Nat) (S : ce_S) (H : Heap) (locs : List Loc) (w : sp_W) (ls : Array Slot), L ≤ 6 * (i + n) + 5 → 6 * i ≤ L → x3 = nI (6 * i) → lv_has ls 4 [(3, .int x3), (0, .ref b), (1, .ref qx), (2, .ref qm)] → LW D ca s qx qm ad S H locs w w → W p l e room_1 s m #[Value.ref b] below meth c H locs (80 + 3 * i) (5213 + 324 * i) (lw_Z below #[Value.ref b] s) (F0 m 18 ls []) := by
  obtain ⟨hx, hb, hr, hml, hown, hts0, hX, hbl, hlocks, hgv⟩ := id C0
  intro n
  induction n with
  | zero =>
    intro i x3 ad S H locs w ls hf hi h3 hl hL
    refine lv_iload_n hx hb (by decide +kernel : decode code 18 = .ok (.iload_n 3, 1)) rfl (lv_at hl 0 rfl) ?_
    refine lv_aload_n hx hb (by decide +kernel : decode code 19 = .ok (.aload_n 0, 1)) rfl (lv_at hl 1 rfl) ?_
    refine va_slen hx hb hX hbl (Nat.not_le.mpr hbl) hL.2.1 (by decide +kernel) ?_
    refine lv_bipush (v := 6) hx hb (by decide +kernel : decode code 21 = .ok (.bipush 6, 2)) (by decide) ?_
    refine lv_isub hx hb (by decide +kernel) ?_
    refine lv_icmp_gt (off := 1147) (tgt := 1171) hx hb (by decide +kernel) (by decide) (fun _ => ?_) (fun z => ?_)
    · refine lv_iconst (v := 1) hx hb (by decide +kernel : decode code 1171 = .ok (.iconst 1, 1)) (by decide) ?_
      refine va_forget (fun q hq => hL.2.1.2.2 q hq) ?_
      refine W.widen (k := 600000) (n := 7302250) (by omega) (by omega) ?_
      exact lw_ret hx hb hr hlocks (by decide +kernel)
    · exact absurd (show nI L - 6 < x3 by rw [i_lt, sub6 hLL, h3, i_nI (by omega)]; omega) z
  | succ n ih =>
    intro i x3 ad S H locs w ls hf hi h3 hl hL
    refine lv_iload_n hx hb (by decide +kernel : decode code 18 = .ok (.iload_n 3, 1)) rfl (lv_at hl 0 rfl) ?_
    refine lv_aload_n hx hb (by decide +kernel : decode code 19 = .ok (.aload_n 0, 1)) rfl (lv_at hl 1 rfl) ?_
    refine va_slen hx hb hX hbl (Nat.not_le.mpr hbl) hL.2.1 (by decide +kernel) ?_
    refine lv_bipush (v := 6) hx hb (by decide +kernel : decode code 21 = .ok (.bipush 6, 2)) (by decide) ?_
    refine lv_isub hx hb (by decide +kernel) ?_
    refine lv_icmp_gt (off := 1147) (tgt := 1171) hx hb (by decide +kernel) (by decide) (fun _ => ?_) (fun z => ?_)
    · refine lv_iconst (v := 1) hx hb (by decide +kernel : decode code 1171 = .ok (.iconst 1, 1)) (by decide) ?_
      refine va_forget (fun q hq => hL.2.1.2.2 q hq) ?_
      refine W.widen (k := 600000) (n := 7302250) (by omega) (by omega) ?_
      exact lw_ret hx hb hr hlocks (by decide +kernel)
    have hin : 6 * i + 6 ≤ L := by
      refine Nat.not_lt.mp (fun q => z ?_)
      show nI L - 6 < x3
      rw [i_lt, sub6 hLL, h3, i_nI (by omega)]; omega
    have next : ∀ (w' : sp_W) (ad' : Nat → Nat → Nat) (S' : ce_S) (H' : Heap) (locs' : List Loc), LW D ca s qx qm ad' S' H' locs' w' w' → W p l e room_1 s m #[Value.ref b] below meth c H' locs' (80 + 3 * i + 3) (5213 + 324 * i + 324) (lw_Z below #[Value.ref b] s) (F0 m 1165 ls []) := by
      intro w' ad' S' H' locs' hL'
      refine lv_iinc (v := nI (6 * (i + 1))) (lv' := [(3, .int (nI (6 * (i + 1)))), (0, .ref b), (1, .ref qx), (2, .ref qm)]) hx hb (by decide +kernel : decode code 1165 = .ok (.iinc 3 6, 3)) hl (k := 0) rfl (by rw [h3]; exact nJ_add (6 * i) 6) (by decide) rfl (fun ls hl => ?_)
      refine lv_goto (tgt := 18) hx hb (by decide +kernel : decode code 1168 = .ok (.goto (-1150), 3)) (by decide) ?_
      rw [show 80 + 3 * i + 3 = 80 + 3 * (i + 1) by omega, show 5213 + 324 * i + 324 = 5213 + 324 * (i + 1) by omega]
      exact ih (i + 1) _ ad' S' H' locs' w' ls (by omega) (by omega) rfl hl hL'
    refine lv_aload_n hx hb (by decide +kernel : decode code 27 = .ok (.aload_n 0, 1)) rfl (lv_at hl 1 rfl) ?_
    refine lv_iload_n hx hb (by decide +kernel : decode code 28 = .ok (.iload_n 3, 1)) rfl (lv_at hl 0 rfl) ?_
    rw [h3]
    refine va_sld hx hb hX hbl (Nat.not_le.mpr hbl) hL.2.1 (nI_in (show 6 * i < L by omega) (by omega)) (by decide +kernel) ?_
    refine lv_bipush (v := 31) hx hb (by decide +kernel : decode code 30 = .ok (.bipush 31, 2)) (by decide) ?_
    refine lv_iand hx hb (by decide +kernel) ?_
    obtain ⟨k, hk, ek⟩ := and31 (xs (nI (6 * i)).toNatClampNeg)
    rw [ek]
    clear ek
    match k, hk with
    | 0, _ =>
      refine lv_tableIn (off := 127) (tgt := 160) hx hb d_sw (by decide) (by decide) (by decide) (by decide) ?_
      exact lwk_seller C0 hG hl h3 hin hLL (by omega) (by omega) hL next
    | 1, _ =>
      refine lv_tableIn (off := 160) (tgt := 193) hx hb d_sw (by decide) (by decide) (by decide) (by decide) ?_
      exact lwk_set C0 hG hl h3 hin hLL (by omega) (by omega) hL next
    | 2, _ =>
      refine lv_tableIn (off := 203) (tgt := 236) hx hb d_sw (by decide) (by decide) (by decide) (by decide) ?_
      exact lwk_anew C0 hG hl h3 hin hLL (by omega) (by omega) hL next
    | 3, _ =>
      refine lv_tableIn (off := 226) (tgt := 259) hx hb d_sw (by decide) (by decide) (by decide) (by decide) ?_
      exact lwk_told C0 hG hl h3 hin hLL (by omega) (by omega) hL next
    | 4, _ =>
      refine lv_tableIn (off := 259) (tgt := 292) hx hb d_sw (by decide) (by decide) (by decide) (by decide) ?_
      exact lwk_feed C0 hG hl h3 hin hLL (by omega) (by omega) hL next
    | 5, _ =>
      refine lv_tableIn (off := 282) (tgt := 315) hx hb d_sw (by decide) (by decide) (by decide) (by decide) ?_
      exact lwk_text C0 hG hl h3 hin hLL (by omega) (by omega) hL next
    | 6, _ =>
      refine lv_tableIn (off := 295) (tgt := 328) hx hb d_sw (by decide) (by decide) (by decide) (by decide) ?_
      exact lwk_force C0 hG hl h3 hin hLL (by omega) (by omega) hL next
    | 7, _ =>
      refine lv_tableIn (off := 318) (tgt := 351) hx hb d_sw (by decide) (by decide) (by decide) (by decide) ?_
      exact lwk_word C0 hG hl h3 hin hLL (by omega) (by omega) hL next
    | 8, _ =>
      refine lv_tableIn (off := 351) (tgt := 384) hx hb d_sw (by decide) (by decide) (by decide) (by decide) ?_
      exact lwk_agree C0 hG hl h3 hin hLL (by omega) (by omega) hL next
    | 9, _ =>
      refine lv_tableIn (off := 374) (tgt := 407) hx hb d_sw (by decide) (by decide) (by decide) (by decide) ?_
      exact lwk_rule C0 hG hl h3 hin hLL (by omega) (by omega) hL next
    | 10, _ =>
      refine lv_tableIn (off := 427) (tgt := 460) hx hb d_sw (by decide) (by decide) (by decide) (by decide) ?_
      exact lwk_bestRule C0 hG hl h3 hin hLL (by omega) (by omega) hL next
    | 11, _ =>
      refine lv_tableIn (off := 460) (tgt := 493) hx hb d_sw (by decide) (by decide) (by decide) (by decide) ?_
      exact lwk_bestAt C0 hG hl h3 hin hLL (by omega) (by omega) hL next
    | 12, _ =>
      refine lv_tableIn (off := 513) (tgt := 546) hx hb d_sw (by decide) (by decide) (by decide) (by decide) ?_
      exact lwk_whom C0 hG hl h3 hin hLL (by omega) (by omega) hL next
    | 13, _ =>
      refine lv_tableIn (off := 546) (tgt := 579) hx hb d_sw (by decide) (by decide) (by decide) (by decide) ?_
      exact lwk_allInTurn C0 hG hl h3 hin hLL (by omega) (by omega) hL next
    | 14, _ =>
      refine lv_tableIn (off := 589) (tgt := 622) hx hb d_sw (by decide) (by decide) (by decide) (by decide) ?_
      exact lwk_hisCost C0 hG hl h3 hin hLL (by omega) (by omega) hL next
    | 15, _ =>
      refine lv_tableIn (off := 632) (tgt := 665) hx hb d_sw (by decide) (by decide) (by decide) (by decide) ?_
      exact lwk_slipped C0 hG hl h3 hin hLL (by omega) (by omega) hL next
    | 16, _ =>
      refine lv_tableIn (off := 675) (tgt := 708) hx hb d_sw (by decide) (by decide) (by decide) (by decide) ?_
      exact lwk_market C0 hG hl h3 hin hLL (by omega) (by omega) hL next
    | 17, _ =>
      refine lv_tableIn (off := 728) (tgt := 761) hx hb d_sw (by decide) (by decide) (by decide) (by decide) ?_
      exact lwk_judge C0 hG hl h3 hin hLL (by omega) (by omega) hL next
    | 18, _ =>
      refine lv_tableIn (off := 761) (tgt := 794) hx hb d_sw (by decide) (by decide) (by decide) (by decide) ?_
      exact lwk_drawn C0 hG hl h3 hin hLL (by omega) (by omega) hL next
    | 19, _ =>
      refine lv_tableIn (off := 794) (tgt := 827) hx hb d_sw (by decide) (by decide) (by decide) (by decide) ?_
      exact lwk_odds C0 hG hl h3 hin hLL (by omega) (by omega) hL next
    | 20, _ =>
      refine lv_tableIn (off := 848) (tgt := 881) hx hb d_sw (by decide) (by decide) (by decide) (by decide) ?_
      exact lwk_image C0 hG hl h3 hin hLL (by omega) (by omega) hL next
    | 21, _ =>
      refine lv_tableIn (off := 861) (tgt := 894) hx hb d_sw (by decide) (by decide) (by decide) (by decide) ?_
      exact lwk_back C0 hG hl h3 hin hLL (by omega) (by omega) hL next
    | 22, _ =>
      refine lv_tableIn (off := 874) (tgt := 907) hx hb d_sw (by decide) (by decide) (by decide) (by decide) ?_
      exact lwk_count C0 hG hl h3 hin hLL (by omega) (by omega) hL next
    | 23, _ =>
      refine lv_tableIn (off := 897) (tgt := 930) hx hb d_sw (by decide) (by decide) (by decide) (by decide) ?_
      exact lwk_sheet C0 hG hl h3 hin hLL (by omega) (by omega) hL next
    | 24, _ =>
      refine lv_tableIn (off := 940) (tgt := 973) hx hb d_sw (by decide) (by decide) (by decide) (by decide) ?_
      exact lwk_cell C0 hG hl h3 hin hLL (by omega) (by omega) hL next
    | 25, _ =>
      refine lv_tableIn (off := 983) (tgt := 1016) hx hb d_sw (by decide) (by decide) (by decide) (by decide) ?_
      exact lwk_copy C0 hG hl h3 hin hLL (by omega) (by omega) hL next
    | 26, _ =>
      refine lv_tableIn (off := 1046) (tgt := 1079) hx hb d_sw (by decide) (by decide) (by decide) (by decide) ?_
      exact lwk_sellers C0 hG hl h3 hin hLL (by omega) (by omega) hL next
    | 27, _ =>
      refine lv_tableIn (off := 1099) (tgt := 1132) hx hb d_sw (by decide) (by decide) (by decide) (by decide) ?_
      exact lwk_taken C0 hG hl h3 hin hLL (by omega) (by omega) hL next
    | 28, _ =>
      refine lv_tableOut (tgt := 1165) hx hb d_sw (Or.inr (by decide)) (by decide) ?_
      exact W.widen (k := 80 + 3 * i + 3) (n := 5213 + 324 * i + 324) (by omega) (by omega) (next w ad S H locs hL)
    | 29, _ =>
      refine lv_tableOut (tgt := 1165) hx hb d_sw (Or.inr (by decide)) (by decide) ?_
      exact W.widen (k := 80 + 3 * i + 3) (n := 5213 + 324 * i + 324) (by omega) (by omega) (next w ad S H locs hL)
    | 30, _ =>
      refine lv_tableOut (tgt := 1165) hx hb d_sw (Or.inr (by decide)) (by decide) ?_
      exact W.widen (k := 80 + 3 * i + 3) (n := 5213 + 324 * i + 324) (by omega) (by omega) (next w ad S H locs hL)
    | 31, _ =>
      refine lv_tableOut (tgt := 1165) hx hb d_sw (Or.inr (by decide)) (by decide) ?_
      exact W.widen (k := 80 + 3 * i + 3) (n := 5213 + 324 * i + 324) (by omega) (by omega) (next w ad S H locs hL)
    | k + 32, hk => exact absurd hk (by omega)
