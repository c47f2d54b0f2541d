/-! the law: its cases -/
set_option maxRecDepth 20000 in
theorem lwk_seller {p : Program} {e : Env} {s : State} {m : MethodId} {below : List Frame} {meth : Method} {c : Code} {l : Launch} {b L : Nat} {xs : Nat → Int32} {D : va_G} {ca : Nat → ClassId} {qx qm : Nat} {ad : Nat → Nat → Nat} {S : ce_S} {H : Heap} {locs : List Loc} {w : sp_W} {cells slots i : Nat} {x3 : Int32} {ls : Array Slot} (C0 : lw_At p s m meth c b L xs) (hG : ce_GK D ca s) (hl : lv_has ls 4 [(3, .int x3), (0, .ref b), (1, .ref qx), (2, .ref qm)]) (h3 : x3 = nI (6 * i)) (hin : 6 * i + 6 ≤ L) (hLL : L ≤ 3072) (hce : cells + 3 ≤ 600000) (hsl : slots + 324 ≤ 7302250) (hL : LW D ca s qx qm ad S H locs w w)
    (kk : ∀ (w' : sp_W) (ad' : Nat → Nat → Nat) (S' : ce_S) (H' : Heap) (locs' : List Loc), LW D ca s qx qm ad' S' H' locs' w' w' → W p l e room_1 s m #[Value.ref b] below meth c H' locs' (cells + 3) (slots + 324) (lw_Z below #[Value.ref b] s) (F0 m 1165 ls [])) : W p l e room_1 s m #[Value.ref b] below meth c H locs cells slots (lw_Z below #[Value.ref b] s) (F0 m 160 ls []) := by
  obtain ⟨hx, hb, hr, hml, hown, hts0, hX, hbl, hlocks, hgv⟩ := id C0
  have hts := lw_ts C0
  obtain ⟨a1, ea1⟩ : ∃ y, y = xs (6 * i + 1) := ⟨_, rfl⟩
  obtain ⟨a2, ea2⟩ : ∃ y, y = xs (6 * i + 2) := ⟨_, rfl⟩
  refine lv_aload_n hx hb (by decide +kernel : decode code 160 = .ok (.aload_n 1, 1)) rfl (lv_at hl 2 rfl) ?_
  refine lw_arg (pc' := 166) C0 hl h3 (k := 1) (kz := 1) hL.2.1 ⟨by omega, hLL⟩ (by decide) (by decide +kernel) (by decide +kernel) (by decide +kernel) (by decide +kernel) (by decide +kernel) rfl ?_
  rw [← ea1]
  refine lw_arg (pc' := 171) C0 hl h3 (k := 2) (kz := 2) hL.2.1 ⟨by omega, hLL⟩ (by decide) (by decide +kernel) (by decide +kernel) (by decide +kernel) (by decide +kernel) (by decide +kernel) rfl ?_
  rw [← ea2]
  obtain ⟨S1, f1, f2, f3⟩ := c_seller hL.2.2.2.2.2.2.1 a1 a2
  refine lw_call (pc := 171) (t := 0) (T := TX11) (N := 14) (as := [.inl a1, .inl a2]) (v := .inl (s_comes w a1 a2).1) (rest := []) hx hb hml hown hts hG.1 hL (ct_X11_seller l) (by unfold ce_wI; rw [f1]; rfl) (okT_cons (okT_cons okT_nil)) rfl rfl (by rw [hL.2.2.2.2.1 0 (by decide)]; exact Nat.one_pos) rfl wd_486 wd_487 wd_488 wd_57 (by decide +kernel) (by decide) hl.1 (by decide) (by omega) (by omega) f2 (MR_mE2 hL.2.2.2.2.2.2.2.1 (mE2_of f3)) (by rw [hL.2.2.2.2.2.2.2.2.2.2.1]; rfl) (fun ad1 H1 locs1 hL1 => ?_)
  refine lv_aload_n hx hb (by decide +kernel : decode code 174 = .ok (.aload_n 2, 1)) rfl (lv_at hl 3 rfl) ?_
  refine lw_arg (pc' := 180) C0 hl h3 (k := 1) (kz := 1) hL1.2.1 ⟨by omega, hLL⟩ (by decide) (by decide +kernel) (by decide +kernel) (by decide +kernel) (by decide +kernel) (by decide +kernel) rfl ?_
  rw [← ea1]
  refine lw_arg (pc' := 185) C0 hl h3 (k := 2) (kz := 2) hL1.2.1 ⟨by omega, hLL⟩ (by decide) (by decide +kernel) (by decide +kernel) (by decide +kernel) (by decide +kernel) (by decide +kernel) rfl ?_
  rw [← ea2]
  obtain ⟨S2, g1, g2, g3⟩ := m_seller hL1.2.2.2.2.2.2.2.1 a1 a2
  refine lw_call (pc := 185) (t := 20) (T := TX12) (N := 45) (as := [.inl a1, .inl a2]) (v := .inl (s_comes w a1 a2).1) (rest := [.int (s_comes w a1 a2).1]) hx hb hml hown hts hG.1 hL1 (ct_X12_seller l) (by unfold ce_wI; rw [g1]; rfl) (okT_cons (okT_cons okT_nil)) rfl rfl hL1.2.2.2.2.2.1 rfl wd_1028 wd_1029 wd_1030 wd_75 (by decide +kernel) (by decide) hl.1 lw_cat (by omega) (by omega) (CR_cEq hL1.2.2.2.2.2.2.1 g3) g2 (by rw [hL1.2.2.2.2.2.2.2.2.2.2.2]; rfl) (fun ad2 H2 locs2 hL2 => ?_)
  refine lv_icmp_eq (off := 977) (tgt := 1165) hx hb (by decide +kernel) (by decide) (fun _ => ?_) (fun z => absurd rfl z)
  refine W.widen (k := cells + 3) (n := slots + 324) (by omega) (by omega) ?_
  exact kk _ _ _ _ _ hL2
set_option maxRecDepth 20000 in
theorem lwk_set {p : Program} {e : Env} {s : State} {m : MethodId} {below : List Frame} {meth : Method} {c : Code} {l : Launch} {b L : Nat} {xs : Nat → Int32} {D : va_G} {ca : Nat → ClassId} {qx qm : Nat} {ad : Nat → Nat → Nat} {S : ce_S} {H : Heap} {locs : List Loc} {w : sp_W} {cells slots i : Nat} {x3 : Int32} {ls : Array Slot} (C0 : lw_At p s m meth c b L xs) (hG : ce_GK D ca s) (hl : lv_has ls 4 [(3, .int x3), (0, .ref b), (1, .ref qx), (2, .ref qm)]) (h3 : x3 = nI (6 * i)) (hin : 6 * i + 6 ≤ L) (hLL : L ≤ 3072) (hce : cells + 3 ≤ 600000) (hsl : slots + 324 ≤ 7302250) (hL : LW D ca s qx qm ad S H locs w w)
    (kk : ∀ (w' : sp_W) (ad' : Nat → Nat → Nat) (S' : ce_S) (H' : Heap) (locs' : List Loc), LW D ca s qx qm ad' S' H' locs' w' w' → W p l e room_1 s m #[Value.ref b] below meth c H' locs' (cells + 3) (slots + 324) (lw_Z below #[Value.ref b] s) (F0 m 1165 ls [])) : W p l e room_1 s m #[Value.ref b] below meth c H locs cells slots (lw_Z below #[Value.ref b] s) (F0 m 193 ls []) := by
  obtain ⟨hx, hb, hr, hml, hown, hts0, hX, hbl, hlocks, hgv⟩ := id C0
  have hts := lw_ts C0
  obtain ⟨a1, ea1⟩ : ∃ y, y = xs (6 * i + 1) := ⟨_, rfl⟩
  obtain ⟨a2, ea2⟩ : ∃ y, y = xs (6 * i + 2) := ⟨_, rfl⟩
  obtain ⟨a3, ea3⟩ : ∃ y, y = xs (6 * i + 3) := ⟨_, rfl⟩
  refine lv_aload_n hx hb (by decide +kernel : decode code 193 = .ok (.aload_n 1, 1)) rfl (lv_at hl 2 rfl) ?_
  refine lw_arg (pc' := 199) C0 hl h3 (k := 1) (kz := 1) hL.2.1 ⟨by omega, hLL⟩ (by decide) (by decide +kernel) (by decide +kernel) (by decide +kernel) (by decide +kernel) (by decide +kernel) rfl ?_
  rw [← ea1]
  refine lw_arg (pc' := 204) C0 hl h3 (k := 2) (kz := 2) hL.2.1 ⟨by omega, hLL⟩ (by decide) (by decide +kernel) (by decide +kernel) (by decide +kernel) (by decide +kernel) (by decide +kernel) rfl ?_
  rw [← ea2]
  refine lw_arg (pc' := 209) C0 hl h3 (k := 3) (kz := 3) hL.2.1 ⟨by omega, hLL⟩ (by decide) (by decide +kernel) (by decide +kernel) (by decide +kernel) (by decide +kernel) (by decide +kernel) rfl ?_
  rw [← ea3]
  obtain ⟨S1, f1, f2, f3⟩ := c_set hL.2.2.2.2.2.2.1 a1 a2 a3
  refine lw_call (pc := 209) (t := 0) (T := TX11) (N := 14) (as := [.inl a1, .inl a2, .inl a3]) (v := .inl (s_set w a1 a2 a3).1) (rest := []) hx hb hml hown hts hG.1 hL (ct_X11_set l) (by unfold ce_wI; rw [f1]; rfl) (okT_cons (okT_cons (okT_cons okT_nil))) rfl rfl (by rw [hL.2.2.2.2.1 0 (by decide)]; exact Nat.one_pos) rfl wd_518 wd_519 wd_520 wd_57 (by decide +kernel) (by decide) hl.1 (by decide) (by omega) (by omega) f2 (MR_mE2 hL.2.2.2.2.2.2.2.1 (mE2_of f3)) (by rw [hL.2.2.2.2.2.2.2.2.2.2.1]; rfl) (fun ad1 H1 locs1 hL1 => ?_)
  refine lv_aload_n hx hb (by decide +kernel : decode code 212 = .ok (.aload_n 2, 1)) rfl (lv_at hl 3 rfl) ?_
  refine lw_arg (pc' := 218) C0 hl h3 (k := 1) (kz := 1) hL1.2.1 ⟨by omega, hLL⟩ (by decide) (by decide +kernel) (by decide +kernel) (by decide +kernel) (by decide +kernel) (by decide +kernel) rfl ?_
  rw [← ea1]
  refine lw_arg (pc' := 223) C0 hl h3 (k := 2) (kz := 2) hL1.2.1 ⟨by omega, hLL⟩ (by decide) (by decide +kernel) (by decide +kernel) (by decide +kernel) (by decide +kernel) (by decide +kernel) rfl ?_
  rw [← ea2]
  refine lw_arg (pc' := 228) C0 hl h3 (k := 3) (kz := 3) hL1.2.1 ⟨by omega, hLL⟩ (by decide) (by decide +kernel) (by decide +kernel) (by decide +kernel) (by decide +kernel) (by decide +kernel) rfl ?_
  rw [← ea3]
  obtain ⟨S2, g1, g2, g3⟩ := m_set hL1.2.2.2.2.2.2.2.1 a1 a2 a3
  refine lw_call (pc := 228) (t := 20) (T := TX12) (N := 45) (as := [.inl a1, .inl a2, .inl a3]) (v := .inl (s_set w a1 a2 a3).1) (rest := [.int (s_set w a1 a2 a3).1]) hx hb hml hown hts hG.1 hL1 (ct_X12_set l) (by unfold ce_wI; rw [g1]; rfl) (okT_cons (okT_cons (okT_cons okT_nil))) rfl rfl hL1.2.2.2.2.2.1 rfl wd_1058 wd_1059 wd_1060 wd_75 (by decide +kernel) (by decide) hl.1 lw_cat (by omega) (by omega) (CR_cEq hL1.2.2.2.2.2.2.1 g3) g2 (by rw [hL1.2.2.2.2.2.2.2.2.2.2.2]; rfl) (fun ad2 H2 locs2 hL2 => ?_)
  refine lv_icmp_eq (off := 934) (tgt := 1165) hx hb (by decide +kernel) (by decide) (fun _ => ?_) (fun z => absurd rfl z)
  refine W.widen (k := cells + 3) (n := slots + 324) (by omega) (by omega) ?_
  exact kk _ _ _ _ _ hL2
set_option maxRecDepth 20000 in
theorem lwk_anew {p : Program} {e : Env} {s : State} {m : MethodId} {below : List Frame} {meth : Method} {c : Code} {l : Launch} {b L : Nat} {xs : Nat → Int32} {D : va_G} {ca : Nat → ClassId} {qx qm : Nat} {ad : Nat → Nat → Nat} {S : ce_S} {H : Heap} {locs : List Loc} {w : sp_W} {cells slots i : Nat} {x3 : Int32} {ls : Array Slot} (C0 : lw_At p s m meth c b L xs) (hG : ce_GK D ca s) (hl : lv_has ls 4 [(3, .int x3), (0, .ref b), (1, .ref qx), (2, .ref qm)]) (h3 : x3 = nI (6 * i)) (hin : 6 * i + 6 ≤ L) (hLL : L ≤ 3072) (hce : cells + 3 ≤ 600000) (hsl : slots + 324 ≤ 7302250) (hL : LW D ca s qx qm ad S H locs w w)
    (kk : ∀ (w' : sp_W) (ad' : Nat → Nat → Nat) (S' : ce_S) (H' : Heap) (locs' : List Loc), LW D ca s qx qm ad' S' H' locs' w' w' → W p l e room_1 s m #[Value.ref b] below meth c H' locs' (cells + 3) (slots + 324) (lw_Z below #[Value.ref b] s) (F0 m 1165 ls [])) : W p l e room_1 s m #[Value.ref b] below meth c H locs cells slots (lw_Z below #[Value.ref b] s) (F0 m 236 ls []) := by
  obtain ⟨hx, hb, hr, hml, hown, hts0, hX, hbl, hlocks, hgv⟩ := id C0
  have hts := lw_ts C0
  obtain ⟨a1, ea1⟩ : ∃ y, y = xs (6 * i + 1) := ⟨_, rfl⟩
  refine lv_aload_n hx hb (by decide +kernel : decode code 236 = .ok (.aload_n 1, 1)) rfl (lv_at hl 2 rfl) ?_
  refine lw_arg (pc' := 242) C0 hl h3 (k := 1) (kz := 1) hL.2.1 ⟨by omega, hLL⟩ (by decide) (by decide +kernel) (by decide +kernel) (by decide +kernel) (by decide +kernel) (by decide +kernel) rfl ?_
  rw [← ea1]
  obtain ⟨S1, f1, f2, f3⟩ := c_anew hL.2.2.2.2.2.2.1 a1
  refine lw_call (pc := 242) (t := 0) (T := TX11) (N := 14) (as := [.inl a1]) (v := .inl (s_anew w a1).1) (rest := []) hx hb hml hown hts hG.1 hL (ct_X11_anew l) (by unfold ce_wI; rw [f1]; rfl) (okT_cons okT_nil) rfl rfl (by rw [hL.2.2.2.2.1 0 (by decide)]; exact Nat.one_pos) rfl wd_533 wd_534 wd_535 wd_57 (by decide +kernel) (by decide) hl.1 (by decide) (by omega) (by omega) f2 (MR_mE2 hL.2.2.2.2.2.2.2.1 (mE2_of f3)) (by rw [hL.2.2.2.2.2.2.2.2.2.2.1]; rfl) (fun ad1 H1 locs1 hL1 => ?_)
  refine lv_aload_n hx hb (by decide +kernel : decode code 245 = .ok (.aload_n 2, 1)) rfl (lv_at hl 3 rfl) ?_
  refine lw_arg (pc' := 251) C0 hl h3 (k := 1) (kz := 1) hL1.2.1 ⟨by omega, hLL⟩ (by decide) (by decide +kernel) (by decide +kernel) (by decide +kernel) (by decide +kernel) (by decide +kernel) rfl ?_
  rw [← ea1]
  obtain ⟨S2, g1, g2, g3⟩ := m_anew hL1.2.2.2.2.2.2.2.1 a1
  refine lw_call (pc := 251) (t := 20) (T := TX12) (N := 45) (as := [.inl a1]) (v := .inl (s_anew w a1).1) (rest := [.int (s_anew w a1).1]) hx hb hml hown hts hG.1 hL1 (ct_X12_anew l) (by unfold ce_wI; rw [g1]; rfl) (okT_cons okT_nil) rfl rfl hL1.2.2.2.2.2.1 rfl wd_1066 wd_1067 wd_1068 wd_75 (by decide +kernel) (by decide) hl.1 lw_cat (by omega) (by omega) (CR_cEq hL1.2.2.2.2.2.2.1 g3) g2 (by rw [hL1.2.2.2.2.2.2.2.2.2.2.2]; rfl) (fun ad2 H2 locs2 hL2 => ?_)
  refine lv_icmp_eq (off := 911) (tgt := 1165) hx hb (by decide +kernel) (by decide) (fun _ => ?_) (fun z => absurd rfl z)
  refine W.widen (k := cells + 3) (n := slots + 324) (by omega) (by omega) ?_
  exact kk _ _ _ _ _ hL2
set_option maxRecDepth 20000 in
theorem lwk_told {p : Program} {e : Env} {s : State} {m : MethodId} {below : List Frame} {meth : Method} {c : Code} {l : Launch} {b L : Nat} {xs : Nat → Int32} {D : va_G} {ca : Nat → ClassId} {qx qm : Nat} {ad : Nat → Nat → Nat} {S : ce_S} {H : Heap} {locs : List Loc} {w : sp_W} {cells slots i : Nat} {x3 : Int32} {ls : Array Slot} (C0 : lw_At p s m meth c b L xs) (hG : ce_GK D ca s) (hl : lv_has ls 4 [(3, .int x3), (0, .ref b), (1, .ref qx), (2, .ref qm)]) (h3 : x3 = nI (6 * i)) (hin : 6 * i + 6 ≤ L) (hLL : L ≤ 3072) (hce : cells + 3 ≤ 600000) (hsl : slots + 324 ≤ 7302250) (hL : LW D ca s qx qm ad S H locs w w)
    (kk : ∀ (w' : sp_W) (ad' : Nat → Nat → Nat) (S' : ce_S) (H' : Heap) (locs' : List Loc), LW D ca s qx qm ad' S' H' locs' w' w' → W p l e room_1 s m #[Value.ref b] below meth c H' locs' (cells + 3) (slots + 324) (lw_Z below #[Value.ref b] s) (F0 m 1165 ls [])) : W p l e room_1 s m #[Value.ref b] below meth c H locs cells slots (lw_Z below #[Value.ref b] s) (F0 m 259 ls []) := by
  obtain ⟨hx, hb, hr, hml, hown, hts0, hX, hbl, hlocks, hgv⟩ := id C0
  have hts := lw_ts C0
  obtain ⟨a1, ea1⟩ : ∃ y, y = xs (6 * i + 1) := ⟨_, rfl⟩
  obtain ⟨a2, ea2⟩ : ∃ y, y = xs (6 * i + 2) := ⟨_, rfl⟩
  refine lv_aload_n hx hb (by decide +kernel : decode code 259 = .ok (.aload_n 1, 1)) rfl (lv_at hl 2 rfl) ?_
  refine lw_arg (pc' := 265) C0 hl h3 (k := 1) (kz := 1) hL.2.1 ⟨by omega, hLL⟩ (by decide) (by decide +kernel) (by decide +kernel) (by decide +kernel) (by decide +kernel) (by decide +kernel) rfl ?_
  rw [← ea1]
  refine lw_arg (pc' := 270) C0 hl h3 (k := 2) (kz := 2) hL.2.1 ⟨by omega, hLL⟩ (by decide) (by decide +kernel) (by decide +kernel) (by decide +kernel) (by decide +kernel) (by decide +kernel) rfl ?_
  rw [← ea2]
  obtain ⟨S1, f1, f2⟩ := c_told hL.2.2.2.2.2.2.1 a1 a2
  refine lw_call (pc := 270) (t := 0) (T := TX11) (N := 14) (as := [.inl a1, .inl a2]) (v := .inl (s_told w a1 a2)) (rest := []) hx hb hml hown hts hG.1 hL (ct_X11_told l) (by unfold ce_wI; rw [f1]; rfl) (okT_cons (okT_cons okT_nil)) rfl rfl (by rw [hL.2.2.2.2.1 0 (by decide)]; exact Nat.one_pos) rfl wd_537 wd_538 wd_539 wd_57 (by decide +kernel) (by decide) hl.1 (by decide) (by omega) (by omega) (CR_qt hL.2.2.2.2.2.2.1 f2) (MR_mE2 hL.2.2.2.2.2.2.2.1 (mE2_of (mEq_qt f2))) (by rw [hL.2.2.2.2.2.2.2.2.2.2.1]; rfl) (fun ad1 H1 locs1 hL1 => ?_)
  refine lv_aload_n hx hb (by decide +kernel : decode code 273 = .ok (.aload_n 2, 1)) rfl (lv_at hl 3 rfl) ?_
  refine lw_arg (pc' := 279) C0 hl h3 (k := 1) (kz := 1) hL1.2.1 ⟨by omega, hLL⟩ (by decide) (by decide +kernel) (by decide +kernel) (by decide +kernel) (by decide +kernel) (by decide +kernel) rfl ?_
  rw [← ea1]
  refine lw_arg (pc' := 284) C0 hl h3 (k := 2) (kz := 2) hL1.2.1 ⟨by omega, hLL⟩ (by decide) (by decide +kernel) (by decide +kernel) (by decide +kernel) (by decide +kernel) (by decide +kernel) rfl ?_
  rw [← ea2]
  obtain ⟨S2, g1, g2, g3⟩ := m_told hL1.2.2.2.2.2.2.2.1 a1 a2
  refine lw_call (pc := 284) (t := 20) (T := TX12) (N := 45) (as := [.inl a1, .inl a2]) (v := .inl (s_told w a1 a2)) (rest := [.int (s_told w a1 a2)]) hx hb hml hown hts hG.1 hL1 (ct_X12_told l) (by unfold ce_wI; rw [g1]; rfl) (okT_cons (okT_cons okT_nil)) rfl rfl hL1.2.2.2.2.2.1 rfl wd_1070 wd_1071 wd_1072 wd_75 (by decide +kernel) (by decide) hl.1 lw_cat (by omega) (by omega) (CR_cEq hL1.2.2.2.2.2.2.1 g3) g2 (by rw [hL1.2.2.2.2.2.2.2.2.2.2.2]; rfl) (fun ad2 H2 locs2 hL2 => ?_)
  refine lv_icmp_eq (off := 878) (tgt := 1165) hx hb (by decide +kernel) (by decide) (fun _ => ?_) (fun z => absurd rfl z)
  refine W.widen (k := cells + 3) (n := slots + 324) (by omega) (by omega) ?_
  exact kk _ _ _ _ _ hL2
set_option maxRecDepth 20000 in
theorem lwk_feed {p : Program} {e : Env} {s : State} {m : MethodId} {below : List Frame} {meth : Method} {c : Code} {l : Launch} {b L : Nat} {xs : Nat → Int32} {D : va_G} {ca : Nat → ClassId} {qx qm : Nat} {ad : Nat → Nat → Nat} {S : ce_S} {H : Heap} {locs : List Loc} {w : sp_W} {cells slots i : Nat} {x3 : Int32} {ls : Array Slot} (C0 : lw_At p s m meth c b L xs) (hG : ce_GK D ca s) (hl : lv_has ls 4 [(3, .int x3), (0, .ref b), (1, .ref qx), (2, .ref qm)]) (h3 : x3 = nI (6 * i)) (hin : 6 * i + 6 ≤ L) (hLL : L ≤ 3072) (hce : cells + 3 ≤ 600000) (hsl : slots + 324 ≤ 7302250) (hL : LW D ca s qx qm ad S H locs w w)
    (kk : ∀ (w' : sp_W) (ad' : Nat → Nat → Nat) (S' : ce_S) (H' : Heap) (locs' : List Loc), LW D ca s qx qm ad' S' H' locs' w' w' → W p l e room_1 s m #[Value.ref b] below meth c H' locs' (cells + 3) (slots + 324) (lw_Z below #[Value.ref b] s) (F0 m 1165 ls [])) : W p l e room_1 s m #[Value.ref b] below meth c H locs cells slots (lw_Z below #[Value.ref b] s) (F0 m 292 ls []) := by
  obtain ⟨hx, hb, hr, hml, hown, hts0, hX, hbl, hlocks, hgv⟩ := id C0
  have hts := lw_ts C0
  obtain ⟨a1, ea1⟩ : ∃ y, y = xs (6 * i + 1) := ⟨_, rfl⟩
  refine lv_aload_n hx hb (by decide +kernel : decode code 292 = .ok (.aload_n 1, 1)) rfl (lv_at hl 2 rfl) ?_
  refine lw_arg (pc' := 298) C0 hl h3 (k := 1) (kz := 1) hL.2.1 ⟨by omega, hLL⟩ (by decide) (by decide +kernel) (by decide +kernel) (by decide +kernel) (by decide +kernel) (by decide +kernel) rfl ?_
  rw [← ea1]
  obtain ⟨S1, f1, f2, f3⟩ := c_feed hL.2.2.2.2.2.2.1 a1
  refine lw_call (pc := 298) (t := 0) (T := TX11) (N := 14) (as := [.inl a1]) (v := .inl (s_feed w a1).1) (rest := []) hx hb hml hown hts hG.1 hL (ct_X11_feed l) (by unfold ce_wI; rw [f1]; rfl) (okT_cons okT_nil) rfl rfl (by rw [hL.2.2.2.2.1 0 (by decide)]; exact Nat.one_pos) rfl wd_564 wd_565 wd_566 wd_57 (by decide +kernel) (by decide) hl.1 (by decide) (by omega) (by omega) f2 (MR_mE2 hL.2.2.2.2.2.2.2.1 (mE2_of f3)) (by rw [hL.2.2.2.2.2.2.2.2.2.2.1]; rfl) (fun ad1 H1 locs1 hL1 => ?_)
  refine lv_aload_n hx hb (by decide +kernel : decode code 301 = .ok (.aload_n 2, 1)) rfl (lv_at hl 3 rfl) ?_
  refine lw_arg (pc' := 307) C0 hl h3 (k := 1) (kz := 1) hL1.2.1 ⟨by omega, hLL⟩ (by decide) (by decide +kernel) (by decide +kernel) (by decide +kernel) (by decide +kernel) (by decide +kernel) rfl ?_
  rw [← ea1]
  obtain ⟨S2, g1, g2, g3⟩ := m_feed hL1.2.2.2.2.2.2.2.1 a1
  refine lw_call (pc := 307) (t := 20) (T := TX12) (N := 45) (as := [.inl a1]) (v := .inl (s_feed w a1).1) (rest := [.int (s_feed w a1).1]) hx hb hml hown hts hG.1 hL1 (ct_X12_feed l) (by unfold ce_wI; rw [g1]; rfl) (okT_cons okT_nil) rfl rfl hL1.2.2.2.2.2.1 rfl wd_960 wd_961 wd_962 wd_75 (by decide +kernel) (by decide) hl.1 lw_cat (by omega) (by omega) (CR_cEq hL1.2.2.2.2.2.2.1 g3) g2 (by rw [hL1.2.2.2.2.2.2.2.2.2.2.2]; rfl) (fun ad2 H2 locs2 hL2 => ?_)
  refine lv_icmp_eq (off := 855) (tgt := 1165) hx hb (by decide +kernel) (by decide) (fun _ => ?_) (fun z => absurd rfl z)
  refine W.widen (k := cells + 3) (n := slots + 324) (by omega) (by omega) ?_
  exact kk _ _ _ _ _ hL2
set_option maxRecDepth 20000 in
theorem lwk_text {p : Program} {e : Env} {s : State} {m : MethodId} {below : List Frame} {meth : Method} {c : Code} {l : Launch} {b L : Nat} {xs : Nat → Int32} {D : va_G} {ca : Nat → ClassId} {qx qm : Nat} {ad : Nat → Nat → Nat} {S : ce_S} {H : Heap} {locs : List Loc} {w : sp_W} {cells slots i : Nat} {x3 : Int32} {ls : Array Slot} (C0 : lw_At p s m meth c b L xs) (hG : ce_GK D ca s) (hl : lv_has ls 4 [(3, .int x3), (0, .ref b), (1, .ref qx), (2, .ref qm)]) (h3 : x3 = nI (6 * i)) (hin : 6 * i + 6 ≤ L) (hLL : L ≤ 3072) (hce : cells + 3 ≤ 600000) (hsl : slots + 324 ≤ 7302250) (hL : LW D ca s qx qm ad S H locs w w)
    (kk : ∀ (w' : sp_W) (ad' : Nat → Nat → Nat) (S' : ce_S) (H' : Heap) (locs' : List Loc), LW D ca s qx qm ad' S' H' locs' w' w' → W p l e room_1 s m #[Value.ref b] below meth c H' locs' (cells + 3) (slots + 324) (lw_Z below #[Value.ref b] s) (F0 m 1165 ls [])) : W p l e room_1 s m #[Value.ref b] below meth c H locs cells slots (lw_Z below #[Value.ref b] s) (F0 m 315 ls []) := by
  obtain ⟨hx, hb, hr, hml, hown, hts0, hX, hbl, hlocks, hgv⟩ := id C0
  have hts := lw_ts C0
  refine lv_aload_n hx hb (by decide +kernel : decode code 315 = .ok (.aload_n 1, 1)) rfl (lv_at hl 2 rfl) ?_
  obtain ⟨S1, f1, f2, f3, f4, -⟩ := c_text hL.2.2.2.2.2.2.1 hL.2.2.2.1 (hL.2.2.2.2.1 0 (by decide)) (hL.2.2.2.2.1 5 (by decide)) (hL.2.2.2.2.1 7 (by decide)) (hL.2.2.2.2.1 8 (by decide)) (hL.2.2.2.2.1 9 (by decide))
  refine lw_callK (pc := 316) (t := 0) (T := TX11) (N := 14) (as := []) (v := .inl (s_text w).1) (rest := []) hx hb hml hown hts hG hL (ct_X11_text l) (by unfold ce_wI; rw [f1]; rfl) okT_nil rfl rfl (by rw [hL.2.2.2.2.1 0 (by decide)]; exact Nat.one_pos) rfl wd_568 wd_569 wd_570 wd_57 (by decide +kernel) (by decide) hl.1 (by decide) hce hsl (Nat.le_of_ble_eq_true rfl) (Nat.le_of_ble_eq_true rfl) f2 (MR_mE2 hL.2.2.2.2.2.2.2.1 f3) f4 (by rw [hL.2.2.2.2.2.2.2.2.2.2.1]; rfl) (fun ad1 H1 locs1 hL1 => ?_)
  refine lv_aload_n hx hb (by decide +kernel : decode code 319 = .ok (.aload_n 2, 1)) rfl (lv_at hl 3 rfl) ?_
  obtain ⟨S2, g1, g2, g3⟩ := m_text hL1.2.2.2.2.2.2.2.1
  refine lw_call (pc := 320) (t := 20) (T := TX12) (N := 45) (as := []) (v := .inl (s_text w).1) (rest := [.int (s_text w).1]) hx hb hml hown hts hG.1 hL1 (ct_X12_text l) (by unfold ce_wI; rw [g1]; rfl) okT_nil rfl rfl hL1.2.2.2.2.2.1 rfl wd_967 wd_968 wd_969 wd_75 (by decide +kernel) (by decide) hl.1 lw_cat (by omega) (by omega) (CR_cEq hL1.2.2.2.2.2.2.1 g3) g2 (by rw [hL1.2.2.2.2.2.2.2.2.2.2.2]; rfl) (fun ad2 H2 locs2 hL2 => ?_)
  refine lv_icmp_eq (off := 842) (tgt := 1165) hx hb (by decide +kernel) (by decide) (fun _ => ?_) (fun z => absurd rfl z)
  exact kk _ _ _ _ _ hL2
set_option maxRecDepth 20000 in
theorem lwk_force {p : Program} {e : Env} {s : State} {m : MethodId} {below : List Frame} {meth : Method} {c : Code} {l : Launch} {b L : Nat} {xs : Nat → Int32} {D : va_G} {ca : Nat → ClassId} {qx qm : Nat} {ad : Nat → Nat → Nat} {S : ce_S} {H : Heap} {locs : List Loc} {w : sp_W} {cells slots i : Nat} {x3 : Int32} {ls : Array Slot} (C0 : lw_At p s m meth c b L xs) (hG : ce_GK D ca s) (hl : lv_has ls 4 [(3, .int x3), (0, .ref b), (1, .ref qx), (2, .ref qm)]) (h3 : x3 = nI (6 * i)) (hin : 6 * i + 6 ≤ L) (hLL : L ≤ 3072) (hce : cells + 3 ≤ 600000) (hsl : slots + 324 ≤ 7302250) (hL : LW D ca s qx qm ad S H locs w w)
    (kk : ∀ (w' : sp_W) (ad' : Nat → Nat → Nat) (S' : ce_S) (H' : Heap) (locs' : List Loc), LW D ca s qx qm ad' S' H' locs' w' w' → W p l e room_1 s m #[Value.ref b] below meth c H' locs' (cells + 3) (slots + 324) (lw_Z below #[Value.ref b] s) (F0 m 1165 ls [])) : W p l e room_1 s m #[Value.ref b] below meth c H locs cells slots (lw_Z below #[Value.ref b] s) (F0 m 328 ls []) := by
  obtain ⟨hx, hb, hr, hml, hown, hts0, hX, hbl, hlocks, hgv⟩ := id C0
  have hts := lw_ts C0
  obtain ⟨a1, ea1⟩ : ∃ y, y = xs (6 * i + 1) := ⟨_, rfl⟩
  refine lv_aload_n hx hb (by decide +kernel : decode code 328 = .ok (.aload_n 1, 1)) rfl (lv_at hl 2 rfl) ?_
  refine lw_arg (pc' := 334) C0 hl h3 (k := 1) (kz := 1) hL.2.1 ⟨by omega, hLL⟩ (by decide) (by decide +kernel) (by decide +kernel) (by decide +kernel) (by decide +kernel) (by decide +kernel) rfl ?_
  rw [← ea1]
  obtain ⟨S1, f1, f2, f3⟩ := c_force hL.2.2.2.2.2.2.1 a1
  refine lw_call (pc := 334) (t := 0) (T := TX11) (N := 14) (as := [.inl a1]) (v := .inl (s_force w a1).1) (rest := []) hx hb hml hown hts hG.1 hL (ct_X11_force l) (by unfold ce_wI; rw [f1]; rfl) (okT_cons okT_nil) rfl rfl (by rw [hL.2.2.2.2.1 0 (by decide)]; exact Nat.one_pos) rfl wd_572 wd_573 wd_574 wd_57 (by decide +kernel) (by decide) hl.1 (by decide) (by omega) (by omega) f2 (MR_mE2 hL.2.2.2.2.2.2.2.1 (mE2_of f3)) (by rw [hL.2.2.2.2.2.2.2.2.2.2.1]; rfl) (fun ad1 H1 locs1 hL1 => ?_)
  refine lv_aload_n hx hb (by decide +kernel : decode code 337 = .ok (.aload_n 2, 1)) rfl (lv_at hl 3 rfl) ?_
  refine lw_arg (pc' := 343) C0 hl h3 (k := 1) (kz := 1) hL1.2.1 ⟨by omega, hLL⟩ (by decide) (by decide +kernel) (by decide +kernel) (by decide +kernel) (by decide +kernel) (by decide +kernel) rfl ?_
  rw [← ea1]
  obtain ⟨S2, g1, g2, g3⟩ := m_force hL1.2.2.2.2.2.2.2.1 a1
  refine lw_call (pc := 343) (t := 20) (T := TX12) (N := 45) (as := [.inl a1]) (v := .inl (s_force w a1).1) (rest := [.int (s_force w a1).1]) hx hb hml hown hts hG.1 hL1 (ct_X12_force l) (by unfold ce_wI; rw [g1]; rfl) (okT_cons okT_nil) rfl rfl hL1.2.2.2.2.2.1 rfl wd_1024 wd_1025 wd_1026 wd_75 (by decide +kernel) (by decide) hl.1 lw_cat (by omega) (by omega) (CR_cEq hL1.2.2.2.2.2.2.1 g3) g2 (by rw [hL1.2.2.2.2.2.2.2.2.2.2.2]; rfl) (fun ad2 H2 locs2 hL2 => ?_)
  refine lv_icmp_eq (off := 819) (tgt := 1165) hx hb (by decide +kernel) (by decide) (fun _ => ?_) (fun z => absurd rfl z)
  refine W.widen (k := cells + 3) (n := slots + 324) (by omega) (by omega) ?_
  exact kk _ _ _ _ _ hL2
set_option maxRecDepth 20000 in
theorem lwk_word {p : Program} {e : Env} {s : State} {m : MethodId} {below : List Frame} {meth : Method} {c : Code} {l : Launch} {b L : Nat} {xs : Nat → Int32} {D : va_G} {ca : Nat → ClassId} {qx qm : Nat} {ad : Nat → Nat → Nat} {S : ce_S} {H : Heap} {locs : List Loc} {w : sp_W} {cells slots i : Nat} {x3 : Int32} {ls : Array Slot} (C0 : lw_At p s m meth c b L xs) (hG : ce_GK D ca s) (hl : lv_has ls 4 [(3, .int x3), (0, .ref b), (1, .ref qx), (2, .ref qm)]) (h3 : x3 = nI (6 * i)) (hin : 6 * i + 6 ≤ L) (hLL : L ≤ 3072) (hce : cells + 3 ≤ 600000) (hsl : slots + 324 ≤ 7302250) (hL : LW D ca s qx qm ad S H locs w w)
    (kk : ∀ (w' : sp_W) (ad' : Nat → Nat → Nat) (S' : ce_S) (H' : Heap) (locs' : List Loc), LW D ca s qx qm ad' S' H' locs' w' w' → W p l e room_1 s m #[Value.ref b] below meth c H' locs' (cells + 3) (slots + 324) (lw_Z below #[Value.ref b] s) (F0 m 1165 ls [])) : W p l e room_1 s m #[Value.ref b] below meth c H locs cells slots (lw_Z below #[Value.ref b] s) (F0 m 351 ls []) := by
  obtain ⟨hx, hb, hr, hml, hown, hts0, hX, hbl, hlocks, hgv⟩ := id C0
  have hts := lw_ts C0
  obtain ⟨a1, ea1⟩ : ∃ y, y = xs (6 * i + 1) := ⟨_, rfl⟩
  obtain ⟨a2, ea2⟩ : ∃ y, y = xs (6 * i + 2) := ⟨_, rfl⟩
  refine lv_aload_n hx hb (by decide +kernel : decode code 351 = .ok (.aload_n 1, 1)) rfl (lv_at hl 2 rfl) ?_
  refine lw_arg (pc' := 357) C0 hl h3 (k := 1) (kz := 1) hL.2.1 ⟨by omega, hLL⟩ (by decide) (by decide +kernel) (by decide +kernel) (by decide +kernel) (by decide +kernel) (by decide +kernel) rfl ?_
  rw [← ea1]
  refine lw_arg (pc' := 362) C0 hl h3 (k := 2) (kz := 2) hL.2.1 ⟨by omega, hLL⟩ (by decide) (by decide +kernel) (by decide +kernel) (by decide +kernel) (by decide +kernel) (by decide +kernel) rfl ?_
  rw [← ea2]
  obtain ⟨S1, f1, f2, f3⟩ := c_word hL.2.2.2.2.2.2.1 a1 a2
  refine lw_call (pc := 362) (t := 0) (T := TX11) (N := 14) (as := [.inl a1, .inl a2]) (v := .inl (s_word w a1 a2).1) (rest := []) hx hb hml hown hts hG.1 hL (ct_X11_word l) (by unfold ce_wI; rw [f1]; rfl) (okT_cons (okT_cons okT_nil)) rfl rfl (by rw [hL.2.2.2.2.1 0 (by decide)]; exact Nat.one_pos) rfl wd_576 wd_577 wd_578 wd_57 (by decide +kernel) (by decide) hl.1 (by decide) (by omega) (by omega) f2 (MR_mE2 hL.2.2.2.2.2.2.2.1 (mE2_of f3)) (by rw [hL.2.2.2.2.2.2.2.2.2.2.1]; rfl) (fun ad1 H1 locs1 hL1 => ?_)
  refine lv_aload_n hx hb (by decide +kernel : decode code 365 = .ok (.aload_n 2, 1)) rfl (lv_at hl 3 rfl) ?_
  refine lw_arg (pc' := 371) C0 hl h3 (k := 1) (kz := 1) hL1.2.1 ⟨by omega, hLL⟩ (by decide) (by decide +kernel) (by decide +kernel) (by decide +kernel) (by decide +kernel) (by decide +kernel) rfl ?_
  rw [← ea1]
  refine lw_arg (pc' := 376) C0 hl h3 (k := 2) (kz := 2) hL1.2.1 ⟨by omega, hLL⟩ (by decide) (by decide +kernel) (by decide +kernel) (by decide +kernel) (by decide +kernel) (by decide +kernel) rfl ?_
  rw [← ea2]
  obtain ⟨S2, g1, g2, g3⟩ := m_word hL1.2.2.2.2.2.2.2.1 a1 a2
  refine lw_call (pc := 376) (t := 20) (T := TX12) (N := 45) (as := [.inl a1, .inl a2]) (v := .inl (s_word w a1 a2).1) (rest := [.int (s_word w a1 a2).1]) hx hb hml hown hts hG.1 hL1 (ct_X12_word l) (by unfold ce_wI; rw [g1]; rfl) (okT_cons (okT_cons okT_nil)) rfl rfl hL1.2.2.2.2.2.1 rfl wd_1085 wd_1086 wd_1087 wd_75 (by decide +kernel) (by decide) hl.1 lw_cat (by omega) (by omega) (CR_cEq hL1.2.2.2.2.2.2.1 g3) g2 (by rw [hL1.2.2.2.2.2.2.2.2.2.2.2]; rfl) (fun ad2 H2 locs2 hL2 => ?_)
  refine lv_icmp_eq (off := 786) (tgt := 1165) hx hb (by decide +kernel) (by decide) (fun _ => ?_) (fun z => absurd rfl z)
  refine W.widen (k := cells + 3) (n := slots + 324) (by omega) (by omega) ?_
  exact kk _ _ _ _ _ hL2
set_option maxRecDepth 20000 in
theorem lwk_agree {p : Program} {e : Env} {s : State} {m : MethodId} {below : List Frame} {meth : Method} {c : Code} {l : Launch} {b L : Nat} {xs : Nat → Int32} {D : va_G} {ca : Nat → ClassId} {qx qm : Nat} {ad : Nat → Nat → Nat} {S : ce_S} {H : Heap} {locs : List Loc} {w : sp_W} {cells slots i : Nat} {x3 : Int32} {ls : Array Slot} (C0 : lw_At p s m meth c b L xs) (hG : ce_GK D ca s) (hl : lv_has ls 4 [(3, .int x3), (0, .ref b), (1, .ref qx), (2, .ref qm)]) (h3 : x3 = nI (6 * i)) (hin : 6 * i + 6 ≤ L) (hLL : L ≤ 3072) (hce : cells + 3 ≤ 600000) (hsl : slots + 324 ≤ 7302250) (hL : LW D ca s qx qm ad S H locs w w)
    (kk : ∀ (w' : sp_W) (ad' : Nat → Nat → Nat) (S' : ce_S) (H' : Heap) (locs' : List Loc), LW D ca s qx qm ad' S' H' locs' w' w' → W p l e room_1 s m #[Value.ref b] below meth c H' locs' (cells + 3) (slots + 324) (lw_Z below #[Value.ref b] s) (F0 m 1165 ls [])) : W p l e room_1 s m #[Value.ref b] below meth c H locs cells slots (lw_Z below #[Value.ref b] s) (F0 m 384 ls []) := by
  obtain ⟨hx, hb, hr, hml, hown, hts0, hX, hbl, hlocks, hgv⟩ := id C0
  have hts := lw_ts C0
  obtain ⟨a1, ea1⟩ : ∃ y, y = xs (6 * i + 1) := ⟨_, rfl⟩
  refine lv_aload_n hx hb (by decide +kernel : decode code 384 = .ok (.aload_n 1, 1)) rfl (lv_at hl 2 rfl) ?_
  refine lw_arg (pc' := 390) C0 hl h3 (k := 1) (kz := 1) hL.2.1 ⟨by omega, hLL⟩ (by decide) (by decide +kernel) (by decide +kernel) (by decide +kernel) (by decide +kernel) (by decide +kernel) rfl ?_
  rw [← ea1]
  obtain ⟨S1, f1, f2, f3⟩ := c_agree hL.2.2.2.2.2.2.1 a1
  refine lw_call (pc := 390) (t := 0) (T := TX11) (N := 14) (as := [.inl a1]) (v := .inl (s_agree w a1).1) (rest := []) hx hb hml hown hts hG.1 hL (ct_X11_agree l) (by unfold ce_wI; rw [f1]; rfl) (okT_cons okT_nil) rfl rfl (by rw [hL.2.2.2.2.1 0 (by decide)]; exact Nat.one_pos) rfl wd_643 wd_644 wd_645 wd_57 (by decide +kernel) (by decide) hl.1 (by decide) (by omega) (by omega) f2 (MR_mE2 hL.2.2.2.2.2.2.2.1 (mE2_of f3)) (by rw [hL.2.2.2.2.2.2.2.2.2.2.1]; rfl) (fun ad1 H1 locs1 hL1 => ?_)
  refine lv_aload_n hx hb (by decide +kernel : decode code 393 = .ok (.aload_n 2, 1)) rfl (lv_at hl 3 rfl) ?_
  refine lw_arg (pc' := 399) C0 hl h3 (k := 1) (kz := 1) hL1.2.1 ⟨by omega, hLL⟩ (by decide) (by decide +kernel) (by decide +kernel) (by decide +kernel) (by decide +kernel) (by decide +kernel) rfl ?_
  rw [← ea1]
  obtain ⟨S2, g1, g2, g3⟩ := m_agree hL1.2.2.2.2.2.2.2.1 a1
  refine lw_call (pc := 399) (t := 20) (T := TX12) (N := 45) (as := [.inl a1]) (v := .inl (s_agree w a1).1) (rest := [.int (s_agree w a1).1]) hx hb hml hown hts hG.1 hL1 (ct_X12_agree l) (by unfold ce_wI; rw [g1]; rfl) (okT_cons okT_nil) rfl rfl hL1.2.2.2.2.2.1 rfl wd_1104 wd_1105 wd_1106 wd_75 (by decide +kernel) (by decide) hl.1 lw_cat (by omega) (by omega) (CR_cEq hL1.2.2.2.2.2.2.1 g3) g2 (by rw [hL1.2.2.2.2.2.2.2.2.2.2.2]; rfl) (fun ad2 H2 locs2 hL2 => ?_)
  refine lv_icmp_eq (off := 763) (tgt := 1165) hx hb (by decide +kernel) (by decide) (fun _ => ?_) (fun z => absurd rfl z)
  refine W.widen (k := cells + 3) (n := slots + 324) (by omega) (by omega) ?_
  exact kk _ _ _ _ _ hL2
set_option maxRecDepth 20000 in
theorem lwk_rule {p : Program} {e : Env} {s : State} {m : MethodId} {below : List Frame} {meth : Method} {c : Code} {l : Launch} {b L : Nat} {xs : Nat → Int32} {D : va_G} {ca : Nat → ClassId} {qx qm : Nat} {ad : Nat → Nat → Nat} {S : ce_S} {H : Heap} {locs : List Loc} {w : sp_W} {cells slots i : Nat} {x3 : Int32} {ls : Array Slot} (C0 : lw_At p s m meth c b L xs) (hG : ce_GK D ca s) (hl : lv_has ls 4 [(3, .int x3), (0, .ref b), (1, .ref qx), (2, .ref qm)]) (h3 : x3 = nI (6 * i)) (hin : 6 * i + 6 ≤ L) (hLL : L ≤ 3072) (hce : cells + 3 ≤ 600000) (hsl : slots + 324 ≤ 7302250) (hL : LW D ca s qx qm ad S H locs w w)
    (kk : ∀ (w' : sp_W) (ad' : Nat → Nat → Nat) (S' : ce_S) (H' : Heap) (locs' : List Loc), LW D ca s qx qm ad' S' H' locs' w' w' → W p l e room_1 s m #[Value.ref b] below meth c H' locs' (cells + 3) (slots + 324) (lw_Z below #[Value.ref b] s) (F0 m 1165 ls [])) : W p l e room_1 s m #[Value.ref b] below meth c H locs cells slots (lw_Z below #[Value.ref b] s) (F0 m 407 ls []) := by
  obtain ⟨hx, hb, hr, hml, hown, hts0, hX, hbl, hlocks, hgv⟩ := id C0
  have hts := lw_ts C0
  obtain ⟨a1, ea1⟩ : ∃ y, y = xs (6 * i + 1) := ⟨_, rfl⟩
  obtain ⟨a2, ea2⟩ : ∃ y, y = xs (6 * i + 2) := ⟨_, rfl⟩
  obtain ⟨a3, ea3⟩ : ∃ y, y = xs (6 * i + 3) := ⟨_, rfl⟩
  obtain ⟨a4, ea4⟩ : ∃ y, y = xs (6 * i + 4) := ⟨_, rfl⟩
  refine lv_aload_n hx hb (by decide +kernel : decode code 407 = .ok (.aload_n 1, 1)) rfl (lv_at hl 2 rfl) ?_
  refine lw_arg (pc' := 413) C0 hl h3 (k := 1) (kz := 1) hL.2.1 ⟨by omega, hLL⟩ (by decide) (by decide +kernel) (by decide +kernel) (by decide +kernel) (by decide +kernel) (by decide +kernel) rfl ?_
  rw [← ea1]
  refine lw_arg (pc' := 418) C0 hl h3 (k := 2) (kz := 2) hL.2.1 ⟨by omega, hLL⟩ (by decide) (by decide +kernel) (by decide +kernel) (by decide +kernel) (by decide +kernel) (by decide +kernel) rfl ?_
  rw [← ea2]
  refine lw_arg (pc' := 423) C0 hl h3 (k := 3) (kz := 3) hL.2.1 ⟨by omega, hLL⟩ (by decide) (by decide +kernel) (by decide +kernel) (by decide +kernel) (by decide +kernel) (by decide +kernel) rfl ?_
  rw [← ea3]
  refine lw_arg (pc' := 428) C0 hl h3 (k := 4) (kz := 4) hL.2.1 ⟨by omega, hLL⟩ (by decide) (by decide +kernel) (by decide +kernel) (by decide +kernel) (by decide +kernel) (by decide +kernel) rfl ?_
  rw [← ea4]
  obtain ⟨S1, f1, f2⟩ := c_rule hL.2.2.2.2.2.2.1 a1 a2 a3 a4
  refine lw_call (pc := 428) (t := 0) (T := TX11) (N := 14) (as := [.inl a1, .inl a2, .inl a3, .inl a4]) (v := .inl (s_rule w a1 a2 a3 a4)) (rest := []) hx hb hml hown hts hG.1 hL (ct_X11_rule l) (by unfold ce_wI; rw [f1]; rfl) (okT_cons (okT_cons (okT_cons (okT_cons okT_nil)))) rfl rfl (by rw [hL.2.2.2.2.1 0 (by decide)]; exact Nat.one_pos) rfl wd_648 wd_649 wd_650 wd_57 (by decide +kernel) (by decide) hl.1 (by decide) (by omega) (by omega) (CR_qt hL.2.2.2.2.2.2.1 f2) (MR_mE2 hL.2.2.2.2.2.2.2.1 (mE2_of (mEq_qt f2))) (by rw [hL.2.2.2.2.2.2.2.2.2.2.1]; rfl) (fun ad1 H1 locs1 hL1 => ?_)
  refine lv_aload_n hx hb (by decide +kernel : decode code 431 = .ok (.aload_n 2, 1)) rfl (lv_at hl 3 rfl) ?_
  refine lw_arg (pc' := 437) C0 hl h3 (k := 1) (kz := 1) hL1.2.1 ⟨by omega, hLL⟩ (by decide) (by decide +kernel) (by decide +kernel) (by decide +kernel) (by decide +kernel) (by decide +kernel) rfl ?_
  rw [← ea1]
  refine lw_arg (pc' := 442) C0 hl h3 (k := 2) (kz := 2) hL1.2.1 ⟨by omega, hLL⟩ (by decide) (by decide +kernel) (by decide +kernel) (by decide +kernel) (by decide +kernel) (by decide +kernel) rfl ?_
  rw [← ea2]
  refine lw_arg (pc' := 447) C0 hl h3 (k := 3) (kz := 3) hL1.2.1 ⟨by omega, hLL⟩ (by decide) (by decide +kernel) (by decide +kernel) (by decide +kernel) (by decide +kernel) (by decide +kernel) rfl ?_
  rw [← ea3]
  refine lw_arg (pc' := 452) C0 hl h3 (k := 4) (kz := 4) hL1.2.1 ⟨by omega, hLL⟩ (by decide) (by decide +kernel) (by decide +kernel) (by decide +kernel) (by decide +kernel) (by decide +kernel) rfl ?_
  rw [← ea4]
  obtain ⟨S2, g1, g2, g3⟩ := m_rule hL1.2.2.2.2.2.2.2.1 a1 a2 a3 a4
  refine lw_call (pc := 452) (t := 20) (T := TX12) (N := 45) (as := [.inl a1, .inl a2, .inl a3, .inl a4]) (v := .inl (s_rule w a1 a2 a3 a4)) (rest := [.int (s_rule w a1 a2 a3 a4)]) hx hb hml hown hts hG.1 hL1 (ct_X12_rule l) (by unfold ce_wI; rw [g1]; rfl) (okT_cons (okT_cons (okT_cons (okT_cons okT_nil)))) rfl rfl hL1.2.2.2.2.2.1 rfl wd_1132 wd_1133 wd_1134 wd_75 (by decide +kernel) (by decide) hl.1 lw_cat (by omega) (by omega) (CR_cEq hL1.2.2.2.2.2.2.1 g3) g2 (by rw [hL1.2.2.2.2.2.2.2.2.2.2.2]; rfl) (fun ad2 H2 locs2 hL2 => ?_)
  refine lv_icmp_eq (off := 710) (tgt := 1165) hx hb (by decide +kernel) (by decide) (fun _ => ?_) (fun z => absurd rfl z)
  refine W.widen (k := cells + 3) (n := slots + 324) (by omega) (by omega) ?_
  exact kk _ _ _ _ _ hL2
set_option maxRecDepth 20000 in
theorem lwk_bestRule {p : Program} {e : Env} {s : State} {m : MethodId} {below : List Frame} {meth : Method} {c : Code} {l : Launch} {b L : Nat} {xs : Nat → Int32} {D : va_G} {ca : Nat → ClassId} {qx qm : Nat} {ad : Nat → Nat → Nat} {S : ce_S} {H : Heap} {locs : List Loc} {w : sp_W} {cells slots i : Nat} {x3 : Int32} {ls : Array Slot} (C0 : lw_At p s m meth c b L xs) (hG : ce_GK D ca s) (hl : lv_has ls 4 [(3, .int x3), (0, .ref b), (1, .ref qx), (2, .ref qm)]) (h3 : x3 = nI (6 * i)) (hin : 6 * i + 6 ≤ L) (hLL : L ≤ 3072) (hce : cells + 3 ≤ 600000) (hsl : slots + 324 ≤ 7302250) (hL : LW D ca s qx qm ad S H locs w w)
    (kk : ∀ (w' : sp_W) (ad' : Nat → Nat → Nat) (S' : ce_S) (H' : Heap) (locs' : List Loc), LW D ca s qx qm ad' S' H' locs' w' w' → W p l e room_1 s m #[Value.ref b] below meth c H' locs' (cells + 3) (slots + 324) (lw_Z below #[Value.ref b] s) (F0 m 1165 ls [])) : W p l e room_1 s m #[Value.ref b] below meth c H locs cells slots (lw_Z below #[Value.ref b] s) (F0 m 460 ls []) := by
  obtain ⟨hx, hb, hr, hml, hown, hts0, hX, hbl, hlocks, hgv⟩ := id C0
  have hts := lw_ts C0
  obtain ⟨a1, ea1⟩ : ∃ y, y = xs (6 * i + 1) := ⟨_, rfl⟩
  obtain ⟨a2, ea2⟩ : ∃ y, y = xs (6 * i + 2) := ⟨_, rfl⟩
  refine lv_aload_n hx hb (by decide +kernel : decode code 460 = .ok (.aload_n 1, 1)) rfl (lv_at hl 2 rfl) ?_
  refine lw_arg (pc' := 466) C0 hl h3 (k := 1) (kz := 1) hL.2.1 ⟨by omega, hLL⟩ (by decide) (by decide +kernel) (by decide +kernel) (by decide +kernel) (by decide +kernel) (by decide +kernel) rfl ?_
  rw [← ea1]
  refine lw_arg (pc' := 471) C0 hl h3 (k := 2) (kz := 2) hL.2.1 ⟨by omega, hLL⟩ (by decide) (by decide +kernel) (by decide +kernel) (by decide +kernel) (by decide +kernel) (by decide +kernel) rfl ?_
  rw [← ea2]
  obtain ⟨S1, f1, f2⟩ := c_bestRule hL.2.2.2.2.2.2.1 a1 a2
  refine lw_call (pc := 471) (t := 0) (T := TX11) (N := 14) (as := [.inl a1, .inl a2]) (v := .inl (s_bestRule w a1 a2)) (rest := []) hx hb hml hown hts hG.1 hL (ct_X11_bestRule l) (by unfold ce_wI; rw [f1]; rfl) (okT_cons (okT_cons okT_nil)) rfl rfl (by rw [hL.2.2.2.2.1 0 (by decide)]; exact Nat.one_pos) rfl wd_672 wd_673 wd_674 wd_57 (by decide +kernel) (by decide) hl.1 (by decide) (by omega) (by omega) (CR_qt hL.2.2.2.2.2.2.1 f2) (MR_mE2 hL.2.2.2.2.2.2.2.1 (mE2_of (mEq_qt f2))) (by rw [hL.2.2.2.2.2.2.2.2.2.2.1]; rfl) (fun ad1 H1 locs1 hL1 => ?_)
  refine lv_aload_n hx hb (by decide +kernel : decode code 474 = .ok (.aload_n 2, 1)) rfl (lv_at hl 3 rfl) ?_
  refine lw_arg (pc' := 480) C0 hl h3 (k := 1) (kz := 1) hL1.2.1 ⟨by omega, hLL⟩ (by decide) (by decide +kernel) (by decide +kernel) (by decide +kernel) (by decide +kernel) (by decide +kernel) rfl ?_
  rw [← ea1]
  refine lw_arg (pc' := 485) C0 hl h3 (k := 2) (kz := 2) hL1.2.1 ⟨by omega, hLL⟩ (by decide) (by decide +kernel) (by decide +kernel) (by decide +kernel) (by decide +kernel) (by decide +kernel) rfl ?_
  rw [← ea2]
  obtain ⟨S2, g1, g2, g3⟩ := m_bestRule hL1.2.2.2.2.2.2.2.1 a1 a2
  refine lw_call (pc := 485) (t := 20) (T := TX12) (N := 45) (as := [.inl a1, .inl a2]) (v := .inl (s_bestRule w a1 a2)) (rest := [.int (s_bestRule w a1 a2)]) hx hb hml hown hts hG.1 hL1 (ct_X12_bestRule l) (by unfold ce_wI; rw [g1]; rfl) (okT_cons (okT_cons okT_nil)) rfl rfl hL1.2.2.2.2.2.1 rfl wd_1147 wd_1148 wd_1149 wd_75 (by decide +kernel) (by decide) hl.1 lw_cat (by omega) (by omega) (CR_cEq hL1.2.2.2.2.2.2.1 g3) g2 (by rw [hL1.2.2.2.2.2.2.2.2.2.2.2]; rfl) (fun ad2 H2 locs2 hL2 => ?_)
  refine lv_icmp_eq (off := 677) (tgt := 1165) hx hb (by decide +kernel) (by decide) (fun _ => ?_) (fun z => absurd rfl z)
  refine W.widen (k := cells + 3) (n := slots + 324) (by omega) (by omega) ?_
  exact kk _ _ _ _ _ hL2
set_option maxRecDepth 20000 in
theorem lwk_bestAt {p : Program} {e : Env} {s : State} {m : MethodId} {below : List Frame} {meth : Method} {c : Code} {l : Launch} {b L : Nat} {xs : Nat → Int32} {D : va_G} {ca : Nat → ClassId} {qx qm : Nat} {ad : Nat → Nat → Nat} {S : ce_S} {H : Heap} {locs : List Loc} {w : sp_W} {cells slots i : Nat} {x3 : Int32} {ls : Array Slot} (C0 : lw_At p s m meth c b L xs) (hG : ce_GK D ca s) (hl : lv_has ls 4 [(3, .int x3), (0, .ref b), (1, .ref qx), (2, .ref qm)]) (h3 : x3 = nI (6 * i)) (hin : 6 * i + 6 ≤ L) (hLL : L ≤ 3072) (hce : cells + 3 ≤ 600000) (hsl : slots + 324 ≤ 7302250) (hL : LW D ca s qx qm ad S H locs w w)
    (kk : ∀ (w' : sp_W) (ad' : Nat → Nat → Nat) (S' : ce_S) (H' : Heap) (locs' : List Loc), LW D ca s qx qm ad' S' H' locs' w' w' → W p l e room_1 s m #[Value.ref b] below meth c H' locs' (cells + 3) (slots + 324) (lw_Z below #[Value.ref b] s) (F0 m 1165 ls [])) : W p l e room_1 s m #[Value.ref b] below meth c H locs cells slots (lw_Z below #[Value.ref b] s) (F0 m 493 ls []) := by
  obtain ⟨hx, hb, hr, hml, hown, hts0, hX, hbl, hlocks, hgv⟩ := id C0
  have hts := lw_ts C0
  obtain ⟨a1, ea1⟩ : ∃ y, y = xs (6 * i + 1) := ⟨_, rfl⟩
  obtain ⟨a2, ea2⟩ : ∃ y, y = xs (6 * i + 2) := ⟨_, rfl⟩
  obtain ⟨a3, ea3⟩ : ∃ y, y = xs (6 * i + 3) := ⟨_, rfl⟩
  obtain ⟨a4, ea4⟩ : ∃ y, y = xs (6 * i + 4) := ⟨_, rfl⟩
  refine lv_aload_n hx hb (by decide +kernel : decode code 493 = .ok (.aload_n 1, 1)) rfl (lv_at hl 2 rfl) ?_
  refine lw_arg (pc' := 499) C0 hl h3 (k := 1) (kz := 1) hL.2.1 ⟨by omega, hLL⟩ (by decide) (by decide +kernel) (by decide +kernel) (by decide +kernel) (by decide +kernel) (by decide +kernel) rfl ?_
  rw [← ea1]
  refine lw_arg (pc' := 504) C0 hl h3 (k := 2) (kz := 2) hL.2.1 ⟨by omega, hLL⟩ (by decide) (by decide +kernel) (by decide +kernel) (by decide +kernel) (by decide +kernel) (by decide +kernel) rfl ?_
  rw [← ea2]
  refine lw_arg (pc' := 509) C0 hl h3 (k := 3) (kz := 3) hL.2.1 ⟨by omega, hLL⟩ (by decide) (by decide +kernel) (by decide +kernel) (by decide +kernel) (by decide +kernel) (by decide +kernel) rfl ?_
  rw [← ea3]
  refine lw_arg (pc' := 514) C0 hl h3 (k := 4) (kz := 4) hL.2.1 ⟨by omega, hLL⟩ (by decide) (by decide +kernel) (by decide +kernel) (by decide +kernel) (by decide +kernel) (by decide +kernel) rfl ?_
  rw [← ea4]
  obtain ⟨S1, f1, f2⟩ := c_bestAt hL.2.2.2.2.2.2.1 a1 a2 a3 a4
  refine lw_call (pc := 514) (t := 0) (T := TX11) (N := 14) (as := [.inl a1, .inl a2, .inl a3, .inl a4]) (v := .inl (s_bestAt w a1 a2 a3 a4)) (rest := []) hx hb hml hown hts hG.1 hL (ct_X11_bestAt l) (by unfold ce_wI; rw [f1]; rfl) (okT_cons (okT_cons (okT_cons (okT_cons okT_nil)))) rfl rfl (by rw [hL.2.2.2.2.1 0 (by decide)]; exact Nat.one_pos) rfl wd_676 wd_677 wd_678 wd_57 (by decide +kernel) (by decide) hl.1 (by decide) (by omega) (by omega) (CR_qt hL.2.2.2.2.2.2.1 f2) (MR_mE2 hL.2.2.2.2.2.2.2.1 (mE2_of (mEq_qt f2))) (by rw [hL.2.2.2.2.2.2.2.2.2.2.1]; rfl) (fun ad1 H1 locs1 hL1 => ?_)
  refine lv_aload_n hx hb (by decide +kernel : decode code 517 = .ok (.aload_n 2, 1)) rfl (lv_at hl 3 rfl) ?_
  refine lw_arg (pc' := 523) C0 hl h3 (k := 1) (kz := 1) hL1.2.1 ⟨by omega, hLL⟩ (by decide) (by decide +kernel) (by decide +kernel) (by decide +kernel) (by decide +kernel) (by decide +kernel) rfl ?_
  rw [← ea1]
  refine lw_arg (pc' := 528) C0 hl h3 (k := 2) (kz := 2) hL1.2.1 ⟨by omega, hLL⟩ (by decide) (by decide +kernel) (by decide +kernel) (by decide +kernel) (by decide +kernel) (by decide +kernel) rfl ?_
  rw [← ea2]
  refine lw_arg (pc' := 533) C0 hl h3 (k := 3) (kz := 3) hL1.2.1 ⟨by omega, hLL⟩ (by decide) (by decide +kernel) (by decide +kernel) (by decide +kernel) (by decide +kernel) (by decide +kernel) rfl ?_
  rw [← ea3]
  refine lw_arg (pc' := 538) C0 hl h3 (k := 4) (kz := 4) hL1.2.1 ⟨by omega, hLL⟩ (by decide) (by decide +kernel) (by decide +kernel) (by decide +kernel) (by decide +kernel) (by decide +kernel) rfl ?_
  rw [← ea4]
  obtain ⟨S2, g1, g2, g3⟩ := m_bestAt hL1.2.2.2.2.2.2.2.1 a1 a2 a3 a4
  refine lw_call (pc := 538) (t := 20) (T := TX12) (N := 45) (as := [.inl a1, .inl a2, .inl a3, .inl a4]) (v := .inl (s_bestAt w a1 a2 a3 a4)) (rest := [.int (s_bestAt w a1 a2 a3 a4)]) hx hb hml hown hts hG.1 hL1 (ct_X12_bestAt l) (by unfold ce_wI; rw [g1]; rfl) (okT_cons (okT_cons (okT_cons (okT_cons okT_nil)))) rfl rfl hL1.2.2.2.2.2.1 rfl wd_1151 wd_1152 wd_1153 wd_75 (by decide +kernel) (by decide) hl.1 lw_cat (by omega) (by omega) (CR_cEq hL1.2.2.2.2.2.2.1 g3) g2 (by rw [hL1.2.2.2.2.2.2.2.2.2.2.2]; rfl) (fun ad2 H2 locs2 hL2 => ?_)
  refine lv_icmp_eq (off := 624) (tgt := 1165) hx hb (by decide +kernel) (by decide) (fun _ => ?_) (fun z => absurd rfl z)
  refine W.widen (k := cells + 3) (n := slots + 324) (by omega) (by omega) ?_
  exact kk _ _ _ _ _ hL2
set_option maxRecDepth 20000 in
theorem lwk_whom {p : Program} {e : Env} {s : State} {m : MethodId} {below : List Frame} {meth : Method} {c : Code} {l : Launch} {b L : Nat} {xs : Nat → Int32} {D : va_G} {ca : Nat → ClassId} {qx qm : Nat} {ad : Nat → Nat → Nat} {S : ce_S} {H : Heap} {locs : List Loc} {w : sp_W} {cells slots i : Nat} {x3 : Int32} {ls : Array Slot} (C0 : lw_At p s m meth c b L xs) (hG : ce_GK D ca s) (hl : lv_has ls 4 [(3, .int x3), (0, .ref b), (1, .ref qx), (2, .ref qm)]) (h3 : x3 = nI (6 * i)) (hin : 6 * i + 6 ≤ L) (hLL : L ≤ 3072) (hce : cells + 3 ≤ 600000) (hsl : slots + 324 ≤ 7302250) (hL : LW D ca s qx qm ad S H locs w w)
    (kk : ∀ (w' : sp_W) (ad' : Nat → Nat → Nat) (S' : ce_S) (H' : Heap) (locs' : List Loc), LW D ca s qx qm ad' S' H' locs' w' w' → W p l e room_1 s m #[Value.ref b] below meth c H' locs' (cells + 3) (slots + 324) (lw_Z below #[Value.ref b] s) (F0 m 1165 ls [])) : W p l e room_1 s m #[Value.ref b] below meth c H locs cells slots (lw_Z below #[Value.ref b] s) (F0 m 546 ls []) := by
  obtain ⟨hx, hb, hr, hml, hown, hts0, hX, hbl, hlocks, hgv⟩ := id C0
  have hts := lw_ts C0
  obtain ⟨a1, ea1⟩ : ∃ y, y = xs (6 * i + 1) := ⟨_, rfl⟩
  obtain ⟨a2, ea2⟩ : ∃ y, y = xs (6 * i + 2) := ⟨_, rfl⟩
  refine lv_aload_n hx hb (by decide +kernel : decode code 546 = .ok (.aload_n 1, 1)) rfl (lv_at hl 2 rfl) ?_
  refine lw_arg (pc' := 552) C0 hl h3 (k := 1) (kz := 1) hL.2.1 ⟨by omega, hLL⟩ (by decide) (by decide +kernel) (by decide +kernel) (by decide +kernel) (by decide +kernel) (by decide +kernel) rfl ?_
  rw [← ea1]
  refine lw_arg (pc' := 557) C0 hl h3 (k := 2) (kz := 2) hL.2.1 ⟨by omega, hLL⟩ (by decide) (by decide +kernel) (by decide +kernel) (by decide +kernel) (by decide +kernel) (by decide +kernel) rfl ?_
  rw [← ea2]
  obtain ⟨S1, f1, f2⟩ := c_whom hL.2.2.2.2.2.2.1 a1 a2
  refine lw_call (pc := 557) (t := 0) (T := TX11) (N := 14) (as := [.inl a1, .inl a2]) (v := .inl (s_whom w a1 a2)) (rest := []) hx hb hml hown hts hG.1 hL (ct_X11_whom l) (by unfold ce_wI; rw [f1]; rfl) (okT_cons (okT_cons okT_nil)) rfl rfl (by rw [hL.2.2.2.2.1 0 (by decide)]; exact Nat.one_pos) rfl wd_684 wd_685 wd_686 wd_57 (by decide +kernel) (by decide) hl.1 (by decide) (by omega) (by omega) (CR_qt hL.2.2.2.2.2.2.1 f2) (MR_mE2 hL.2.2.2.2.2.2.2.1 (mE2_of (mEq_qt f2))) (by rw [hL.2.2.2.2.2.2.2.2.2.2.1]; rfl) (fun ad1 H1 locs1 hL1 => ?_)
  refine lv_aload_n hx hb (by decide +kernel : decode code 560 = .ok (.aload_n 2, 1)) rfl (lv_at hl 3 rfl) ?_
  refine lw_arg (pc' := 566) C0 hl h3 (k := 1) (kz := 1) hL1.2.1 ⟨by omega, hLL⟩ (by decide) (by decide +kernel) (by decide +kernel) (by decide +kernel) (by decide +kernel) (by decide +kernel) rfl ?_
  rw [← ea1]
  refine lw_arg (pc' := 571) C0 hl h3 (k := 2) (kz := 2) hL1.2.1 ⟨by omega, hLL⟩ (by decide) (by decide +kernel) (by decide +kernel) (by decide +kernel) (by decide +kernel) (by decide +kernel) rfl ?_
  rw [← ea2]
  obtain ⟨S2, g1, g2, g3⟩ := m_whom hL1.2.2.2.2.2.2.2.1 a1 a2
  refine lw_call (pc := 571) (t := 20) (T := TX12) (N := 45) (as := [.inl a1, .inl a2]) (v := .inl (s_whom w a1 a2)) (rest := [.int (s_whom w a1 a2)]) hx hb hml hown hts hG.1 hL1 (ct_X12_whom l) (by unfold ce_wI; rw [g1]; rfl) (okT_cons (okT_cons okT_nil)) rfl rfl hL1.2.2.2.2.2.1 rfl wd_1155 wd_1156 wd_1157 wd_75 (by decide +kernel) (by decide) hl.1 lw_cat (by omega) (by omega) (CR_cEq hL1.2.2.2.2.2.2.1 g3) g2 (by rw [hL1.2.2.2.2.2.2.2.2.2.2.2]; rfl) (fun ad2 H2 locs2 hL2 => ?_)
  refine lv_icmp_eq (off := 591) (tgt := 1165) hx hb (by decide +kernel) (by decide) (fun _ => ?_) (fun z => absurd rfl z)
  refine W.widen (k := cells + 3) (n := slots + 324) (by omega) (by omega) ?_
  exact kk _ _ _ _ _ hL2
set_option maxRecDepth 20000 in
theorem lwk_allInTurn {p : Program} {e : Env} {s : State} {m : MethodId} {below : List Frame} {meth : Method} {c : Code} {l : Launch} {b L : Nat} {xs : Nat → Int32} {D : va_G} {ca : Nat → ClassId} {qx qm : Nat} {ad : Nat → Nat → Nat} {S : ce_S} {H : Heap} {locs : List Loc} {w : sp_W} {cells slots i : Nat} {x3 : Int32} {ls : Array Slot} (C0 : lw_At p s m meth c b L xs) (hG : ce_GK D ca s) (hl : lv_has ls 4 [(3, .int x3), (0, .ref b), (1, .ref qx), (2, .ref qm)]) (h3 : x3 = nI (6 * i)) (hin : 6 * i + 6 ≤ L) (hLL : L ≤ 3072) (hce : cells + 3 ≤ 600000) (hsl : slots + 324 ≤ 7302250) (hL : LW D ca s qx qm ad S H locs w w)
    (kk : ∀ (w' : sp_W) (ad' : Nat → Nat → Nat) (S' : ce_S) (H' : Heap) (locs' : List Loc), LW D ca s qx qm ad' S' H' locs' w' w' → W p l e room_1 s m #[Value.ref b] below meth c H' locs' (cells + 3) (slots + 324) (lw_Z below #[Value.ref b] s) (F0 m 1165 ls [])) : W p l e room_1 s m #[Value.ref b] below meth c H locs cells slots (lw_Z below #[Value.ref b] s) (F0 m 579 ls []) := by
  obtain ⟨hx, hb, hr, hml, hown, hts0, hX, hbl, hlocks, hgv⟩ := id C0
  have hts := lw_ts C0
  obtain ⟨a1, ea1⟩ : ∃ y, y = xs (6 * i + 1) := ⟨_, rfl⟩
  obtain ⟨a2, ea2⟩ : ∃ y, y = xs (6 * i + 2) := ⟨_, rfl⟩
  obtain ⟨a3, ea3⟩ : ∃ y, y = xs (6 * i + 3) := ⟨_, rfl⟩
  refine lv_aload_n hx hb (by decide +kernel : decode code 579 = .ok (.aload_n 1, 1)) rfl (lv_at hl 2 rfl) ?_
  refine lw_arg (pc' := 585) C0 hl h3 (k := 1) (kz := 1) hL.2.1 ⟨by omega, hLL⟩ (by decide) (by decide +kernel) (by decide +kernel) (by decide +kernel) (by decide +kernel) (by decide +kernel) rfl ?_
  rw [← ea1]
  refine lw_arg (pc' := 590) C0 hl h3 (k := 2) (kz := 2) hL.2.1 ⟨by omega, hLL⟩ (by decide) (by decide +kernel) (by decide +kernel) (by decide +kernel) (by decide +kernel) (by decide +kernel) rfl ?_
  rw [← ea2]
  refine lw_arg (pc' := 595) C0 hl h3 (k := 3) (kz := 3) hL.2.1 ⟨by omega, hLL⟩ (by decide) (by decide +kernel) (by decide +kernel) (by decide +kernel) (by decide +kernel) (by decide +kernel) rfl ?_
  rw [← ea3]
  obtain ⟨S1, f1, f2⟩ := c_all hL.2.2.2.2.2.2.1 a1 a2 a3
  refine lw_call (pc := 595) (t := 0) (T := TX11) (N := 14) (as := [.inl a1, .inl a2, .inl a3]) (v := .inl (s_all w a1 a2 a3)) (rest := []) hx hb hml hown hts hG.1 hL (ct_X11_allInTurn l) (by unfold ce_wI; rw [f1]; rfl) (okT_cons (okT_cons (okT_cons okT_nil))) rfl rfl (by rw [hL.2.2.2.2.1 0 (by decide)]; exact Nat.one_pos) rfl wd_688 wd_689 wd_690 wd_57 (by decide +kernel) (by decide) hl.1 (by decide) (by omega) (by omega) (CR_qt hL.2.2.2.2.2.2.1 f2) (MR_mE2 hL.2.2.2.2.2.2.2.1 (mE2_of (mEq_qt f2))) (by rw [hL.2.2.2.2.2.2.2.2.2.2.1]; rfl) (fun ad1 H1 locs1 hL1 => ?_)
  refine lv_aload_n hx hb (by decide +kernel : decode code 598 = .ok (.aload_n 2, 1)) rfl (lv_at hl 3 rfl) ?_
  refine lw_arg (pc' := 604) C0 hl h3 (k := 1) (kz := 1) hL1.2.1 ⟨by omega, hLL⟩ (by decide) (by decide +kernel) (by decide +kernel) (by decide +kernel) (by decide +kernel) (by decide +kernel) rfl ?_
  rw [← ea1]
  refine lw_arg (pc' := 609) C0 hl h3 (k := 2) (kz := 2) hL1.2.1 ⟨by omega, hLL⟩ (by decide) (by decide +kernel) (by decide +kernel) (by decide +kernel) (by decide +kernel) (by decide +kernel) rfl ?_
  rw [← ea2]
  refine lw_arg (pc' := 614) C0 hl h3 (k := 3) (kz := 3) hL1.2.1 ⟨by omega, hLL⟩ (by decide) (by decide +kernel) (by decide +kernel) (by decide +kernel) (by decide +kernel) (by decide +kernel) rfl ?_
  rw [← ea3]
  obtain ⟨S2, g1, g2, g3⟩ := m_all hL1.2.2.2.2.2.2.2.1 a1 a2 a3
  refine lw_call (pc := 614) (t := 20) (T := TX12) (N := 45) (as := [.inl a1, .inl a2, .inl a3]) (v := .inl (s_all w a1 a2 a3)) (rest := [.int (s_all w a1 a2 a3)]) hx hb hml hown hts hG.1 hL1 (ct_X12_allInTurn l) (by unfold ce_wI; rw [g1]; rfl) (okT_cons (okT_cons (okT_cons okT_nil))) rfl rfl hL1.2.2.2.2.2.1 rfl wd_1159 wd_1160 wd_1161 wd_75 (by decide +kernel) (by decide) hl.1 lw_cat (by omega) (by omega) (CR_cEq hL1.2.2.2.2.2.2.1 g3) g2 (by rw [hL1.2.2.2.2.2.2.2.2.2.2.2]; rfl) (fun ad2 H2 locs2 hL2 => ?_)
  refine lv_icmp_eq (off := 548) (tgt := 1165) hx hb (by decide +kernel) (by decide) (fun _ => ?_) (fun z => absurd rfl z)
  refine W.widen (k := cells + 3) (n := slots + 324) (by omega) (by omega) ?_
  exact kk _ _ _ _ _ hL2
set_option maxRecDepth 20000 in
theorem lwk_hisCost {p : Program} {e : Env} {s : State} {m : MethodId} {below : List Frame} {meth : Method} {c : Code} {l : Launch} {b L : Nat} {xs : Nat → Int32} {D : va_G} {ca : Nat → ClassId} {qx qm : Nat} {ad : Nat → Nat → Nat} {S : ce_S} {H : Heap} {locs : List Loc} {w : sp_W} {cells slots i : Nat} {x3 : Int32} {ls : Array Slot} (C0 : lw_At p s m meth c b L xs) (hG : ce_GK D ca s) (hl : lv_has ls 4 [(3, .int x3), (0, .ref b), (1, .ref qx), (2, .ref qm)]) (h3 : x3 = nI (6 * i)) (hin : 6 * i + 6 ≤ L) (hLL : L ≤ 3072) (hce : cells + 3 ≤ 600000) (hsl : slots + 324 ≤ 7302250) (hL : LW D ca s qx qm ad S H locs w w)
    (kk : ∀ (w' : sp_W) (ad' : Nat → Nat → Nat) (S' : ce_S) (H' : Heap) (locs' : List Loc), LW D ca s qx qm ad' S' H' locs' w' w' → W p l e room_1 s m #[Value.ref b] below meth c H' locs' (cells + 3) (slots + 324) (lw_Z below #[Value.ref b] s) (F0 m 1165 ls [])) : W p l e room_1 s m #[Value.ref b] below meth c H locs cells slots (lw_Z below #[Value.ref b] s) (F0 m 622 ls []) := by
  obtain ⟨hx, hb, hr, hml, hown, hts0, hX, hbl, hlocks, hgv⟩ := id C0
  have hts := lw_ts C0
  obtain ⟨a1, ea1⟩ : ∃ y, y = xs (6 * i + 1) := ⟨_, rfl⟩
  obtain ⟨a2, ea2⟩ : ∃ y, y = xs (6 * i + 2) := ⟨_, rfl⟩
  obtain ⟨a3, ea3⟩ : ∃ y, y = xs (6 * i + 3) := ⟨_, rfl⟩
  refine lv_aload_n hx hb (by decide +kernel : decode code 622 = .ok (.aload_n 1, 1)) rfl (lv_at hl 2 rfl) ?_
  refine lw_arg (pc' := 628) C0 hl h3 (k := 1) (kz := 1) hL.2.1 ⟨by omega, hLL⟩ (by decide) (by decide +kernel) (by decide +kernel) (by decide +kernel) (by decide +kernel) (by decide +kernel) rfl ?_
  rw [← ea1]
  refine lw_arg (pc' := 633) C0 hl h3 (k := 2) (kz := 2) hL.2.1 ⟨by omega, hLL⟩ (by decide) (by decide +kernel) (by decide +kernel) (by decide +kernel) (by decide +kernel) (by decide +kernel) rfl ?_
  rw [← ea2]
  refine lw_arg (pc' := 638) C0 hl h3 (k := 3) (kz := 3) hL.2.1 ⟨by omega, hLL⟩ (by decide) (by decide +kernel) (by decide +kernel) (by decide +kernel) (by decide +kernel) (by decide +kernel) rfl ?_
  rw [← ea3]
  obtain ⟨S1, f1, f2⟩ := c_hisCost hL.2.2.2.2.2.2.1 a1 a2 a3
  refine lw_call (pc := 638) (t := 0) (T := TX11) (N := 14) (as := [.inl a1, .inl a2, .inl a3]) (v := .inl (s_hisCost w a1 a2 a3)) (rest := []) hx hb hml hown hts hG.1 hL (ct_X11_hisCost l) (by unfold ce_wI; rw [f1]; rfl) (okT_cons (okT_cons (okT_cons okT_nil))) rfl rfl (by rw [hL.2.2.2.2.1 0 (by decide)]; exact Nat.one_pos) rfl wd_692 wd_693 wd_694 wd_57 (by decide +kernel) (by decide) hl.1 (by decide) (by omega) (by omega) (CR_qt hL.2.2.2.2.2.2.1 f2) (MR_mE2 hL.2.2.2.2.2.2.2.1 (mE2_of (mEq_qt f2))) (by rw [hL.2.2.2.2.2.2.2.2.2.2.1]; rfl) (fun ad1 H1 locs1 hL1 => ?_)
  refine lv_aload_n hx hb (by decide +kernel : decode code 641 = .ok (.aload_n 2, 1)) rfl (lv_at hl 3 rfl) ?_
  refine lw_arg (pc' := 647) C0 hl h3 (k := 1) (kz := 1) hL1.2.1 ⟨by omega, hLL⟩ (by decide) (by decide +kernel) (by decide +kernel) (by decide +kernel) (by decide +kernel) (by decide +kernel) rfl ?_
  rw [← ea1]
  refine lw_arg (pc' := 652) C0 hl h3 (k := 2) (kz := 2) hL1.2.1 ⟨by omega, hLL⟩ (by decide) (by decide +kernel) (by decide +kernel) (by decide +kernel) (by decide +kernel) (by decide +kernel) rfl ?_
  rw [← ea2]
  refine lw_arg (pc' := 657) C0 hl h3 (k := 3) (kz := 3) hL1.2.1 ⟨by omega, hLL⟩ (by decide) (by decide +kernel) (by decide +kernel) (by decide +kernel) (by decide +kernel) (by decide +kernel) rfl ?_
  rw [← ea3]
  obtain ⟨S2, g1, g2, g3⟩ := m_hisCost hL1.2.2.2.2.2.2.2.1 a1 a2 a3
  refine lw_call (pc := 657) (t := 20) (T := TX12) (N := 45) (as := [.inl a1, .inl a2, .inl a3]) (v := .inl (s_hisCost w a1 a2 a3)) (rest := [.int (s_hisCost w a1 a2 a3)]) hx hb hml hown hts hG.1 hL1 (ct_X12_hisCost l) (by unfold ce_wI; rw [g1]; rfl) (okT_cons (okT_cons (okT_cons okT_nil))) rfl rfl hL1.2.2.2.2.2.1 rfl wd_1163 wd_1164 wd_1165 wd_75 (by decide +kernel) (by decide) hl.1 lw_cat (by omega) (by omega) (CR_cEq hL1.2.2.2.2.2.2.1 g3) g2 (by rw [hL1.2.2.2.2.2.2.2.2.2.2.2]; rfl) (fun ad2 H2 locs2 hL2 => ?_)
  refine lv_icmp_eq (off := 505) (tgt := 1165) hx hb (by decide +kernel) (by decide) (fun _ => ?_) (fun z => absurd rfl z)
  refine W.widen (k := cells + 3) (n := slots + 324) (by omega) (by omega) ?_
  exact kk _ _ _ _ _ hL2
set_option maxRecDepth 20000 in
theorem lwk_slipped {p : Program} {e : Env} {s : State} {m : MethodId} {below : List Frame} {meth : Method} {c : Code} {l : Launch} {b L : Nat} {xs : Nat → Int32} {D : va_G} {ca : Nat → ClassId} {qx qm : Nat} {ad : Nat → Nat → Nat} {S : ce_S} {H : Heap} {locs : List Loc} {w : sp_W} {cells slots i : Nat} {x3 : Int32} {ls : Array Slot} (C0 : lw_At p s m meth c b L xs) (hG : ce_GK D ca s) (hl : lv_has ls 4 [(3, .int x3), (0, .ref b), (1, .ref qx), (2, .ref qm)]) (h3 : x3 = nI (6 * i)) (hin : 6 * i + 6 ≤ L) (hLL : L ≤ 3072) (hce : cells + 3 ≤ 600000) (hsl : slots + 324 ≤ 7302250) (hL : LW D ca s qx qm ad S H locs w w)
    (kk : ∀ (w' : sp_W) (ad' : Nat → Nat → Nat) (S' : ce_S) (H' : Heap) (locs' : List Loc), LW D ca s qx qm ad' S' H' locs' w' w' → W p l e room_1 s m #[Value.ref b] below meth c H' locs' (cells + 3) (slots + 324) (lw_Z below #[Value.ref b] s) (F0 m 1165 ls [])) : W p l e room_1 s m #[Value.ref b] below meth c H locs cells slots (lw_Z below #[Value.ref b] s) (F0 m 665 ls []) := by
  obtain ⟨hx, hb, hr, hml, hown, hts0, hX, hbl, hlocks, hgv⟩ := id C0
  have hts := lw_ts C0
  obtain ⟨a1, ea1⟩ : ∃ y, y = xs (6 * i + 1) := ⟨_, rfl⟩
  obtain ⟨a2, ea2⟩ : ∃ y, y = xs (6 * i + 2) := ⟨_, rfl⟩
  obtain ⟨a3, ea3⟩ : ∃ y, y = xs (6 * i + 3) := ⟨_, rfl⟩
  refine lv_aload_n hx hb (by decide +kernel : decode code 665 = .ok (.aload_n 1, 1)) rfl (lv_at hl 2 rfl) ?_
  refine lw_arg (pc' := 671) C0 hl h3 (k := 1) (kz := 1) hL.2.1 ⟨by omega, hLL⟩ (by decide) (by decide +kernel) (by decide +kernel) (by decide +kernel) (by decide +kernel) (by decide +kernel) rfl ?_
  rw [← ea1]
  refine lw_arg (pc' := 676) C0 hl h3 (k := 2) (kz := 2) hL.2.1 ⟨by omega, hLL⟩ (by decide) (by decide +kernel) (by decide +kernel) (by decide +kernel) (by decide +kernel) (by decide +kernel) rfl ?_
  rw [← ea2]
  refine lw_arg (pc' := 681) C0 hl h3 (k := 3) (kz := 3) hL.2.1 ⟨by omega, hLL⟩ (by decide) (by decide +kernel) (by decide +kernel) (by decide +kernel) (by decide +kernel) (by decide +kernel) rfl ?_
  rw [← ea3]
  obtain ⟨S1, f1, f2⟩ := c_slipped hL.2.2.2.2.2.2.1 a1 a2 a3
  refine lw_call (pc := 681) (t := 0) (T := TX11) (N := 14) (as := [.inl a1, .inl a2, .inl a3]) (v := .inl (s_slipped w a1 a2 a3)) (rest := []) hx hb hml hown hts hG.1 hL (ct_X11_slipped l) (by unfold ce_wI; rw [f1]; rfl) (okT_cons (okT_cons (okT_cons okT_nil))) rfl rfl (by rw [hL.2.2.2.2.1 0 (by decide)]; exact Nat.one_pos) rfl wd_715 wd_716 wd_717 wd_57 (by decide +kernel) (by decide) hl.1 (by decide) (by omega) (by omega) (CR_qt hL.2.2.2.2.2.2.1 f2) (MR_mE2 hL.2.2.2.2.2.2.2.1 (mE2_of (mEq_qt f2))) (by rw [hL.2.2.2.2.2.2.2.2.2.2.1]; rfl) (fun ad1 H1 locs1 hL1 => ?_)
  refine lv_aload_n hx hb (by decide +kernel : decode code 684 = .ok (.aload_n 2, 1)) rfl (lv_at hl 3 rfl) ?_
  refine lw_arg (pc' := 690) C0 hl h3 (k := 1) (kz := 1) hL1.2.1 ⟨by omega, hLL⟩ (by decide) (by decide +kernel) (by decide +kernel) (by decide +kernel) (by decide +kernel) (by decide +kernel) rfl ?_
  rw [← ea1]
  refine lw_arg (pc' := 695) C0 hl h3 (k := 2) (kz := 2) hL1.2.1 ⟨by omega, hLL⟩ (by decide) (by decide +kernel) (by decide +kernel) (by decide +kernel) (by decide +kernel) (by decide +kernel) rfl ?_
  rw [← ea2]
  refine lw_arg (pc' := 700) C0 hl h3 (k := 3) (kz := 3) hL1.2.1 ⟨by omega, hLL⟩ (by decide) (by decide +kernel) (by decide +kernel) (by decide +kernel) (by decide +kernel) (by decide +kernel) rfl ?_
  rw [← ea3]
  obtain ⟨S2, g1, g2, g3⟩ := m_slipped hL1.2.2.2.2.2.2.2.1 a1 a2 a3
  refine lw_call (pc := 700) (t := 20) (T := TX12) (N := 45) (as := [.inl a1, .inl a2, .inl a3]) (v := .inl (s_slipped w a1 a2 a3)) (rest := [.int (s_slipped w a1 a2 a3)]) hx hb hml hown hts hG.1 hL1 (ct_X12_slipped l) (by unfold ce_wI; rw [g1]; rfl) (okT_cons (okT_cons (okT_cons okT_nil))) rfl rfl hL1.2.2.2.2.2.1 rfl wd_1174 wd_1175 wd_1176 wd_75 (by decide +kernel) (by decide) hl.1 lw_cat (by omega) (by omega) (CR_cEq hL1.2.2.2.2.2.2.1 g3) g2 (by rw [hL1.2.2.2.2.2.2.2.2.2.2.2]; rfl) (fun ad2 H2 locs2 hL2 => ?_)
  refine lv_icmp_eq (off := 462) (tgt := 1165) hx hb (by decide +kernel) (by decide) (fun _ => ?_) (fun z => absurd rfl z)
  refine W.widen (k := cells + 3) (n := slots + 324) (by omega) (by omega) ?_
  exact kk _ _ _ _ _ hL2
set_option maxRecDepth 20000 in
theorem lwk_market {p : Program} {e : Env} {s : State} {m : MethodId} {below : List Frame} {meth : Method} {c : Code} {l : Launch} {b L : Nat} {xs : Nat → Int32} {D : va_G} {ca : Nat → ClassId} {qx qm : Nat} {ad : Nat → Nat → Nat} {S : ce_S} {H : Heap} {locs : List Loc} {w : sp_W} {cells slots i : Nat} {x3 : Int32} {ls : Array Slot} (C0 : lw_At p s m meth c b L xs) (hG : ce_GK D ca s) (hl : lv_has ls 4 [(3, .int x3), (0, .ref b), (1, .ref qx), (2, .ref qm)]) (h3 : x3 = nI (6 * i)) (hin : 6 * i + 6 ≤ L) (hLL : L ≤ 3072) (hce : cells + 3 ≤ 600000) (hsl : slots + 324 ≤ 7302250) (hL : LW D ca s qx qm ad S H locs w w)
    (kk : ∀ (w' : sp_W) (ad' : Nat → Nat → Nat) (S' : ce_S) (H' : Heap) (locs' : List Loc), LW D ca s qx qm ad' S' H' locs' w' w' → W p l e room_1 s m #[Value.ref b] below meth c H' locs' (cells + 3) (slots + 324) (lw_Z below #[Value.ref b] s) (F0 m 1165 ls [])) : W p l e room_1 s m #[Value.ref b] below meth c H locs cells slots (lw_Z below #[Value.ref b] s) (F0 m 708 ls []) := by
  obtain ⟨hx, hb, hr, hml, hown, hts0, hX, hbl, hlocks, hgv⟩ := id C0
  have hts := lw_ts C0
  obtain ⟨a1, ea1⟩ : ∃ y, y = xs (6 * i + 1) := ⟨_, rfl⟩
  obtain ⟨a2, ea2⟩ : ∃ y, y = xs (6 * i + 2) := ⟨_, rfl⟩
  obtain ⟨a3, ea3⟩ : ∃ y, y = xs (6 * i + 3) := ⟨_, rfl⟩
  obtain ⟨a4, ea4⟩ : ∃ y, y = xs (6 * i + 4) := ⟨_, rfl⟩
  refine lv_aload_n hx hb (by decide +kernel : decode code 708 = .ok (.aload_n 1, 1)) rfl (lv_at hl 2 rfl) ?_
  refine lw_arg (pc' := 714) C0 hl h3 (k := 1) (kz := 1) hL.2.1 ⟨by omega, hLL⟩ (by decide) (by decide +kernel) (by decide +kernel) (by decide +kernel) (by decide +kernel) (by decide +kernel) rfl ?_
  rw [← ea1]
  refine lw_arg (pc' := 719) C0 hl h3 (k := 2) (kz := 2) hL.2.1 ⟨by omega, hLL⟩ (by decide) (by decide +kernel) (by decide +kernel) (by decide +kernel) (by decide +kernel) (by decide +kernel) rfl ?_
  rw [← ea2]
  refine lw_arg (pc' := 724) C0 hl h3 (k := 3) (kz := 3) hL.2.1 ⟨by omega, hLL⟩ (by decide) (by decide +kernel) (by decide +kernel) (by decide +kernel) (by decide +kernel) (by decide +kernel) rfl ?_
  rw [← ea3]
  refine lw_arg (pc' := 729) C0 hl h3 (k := 4) (kz := 4) hL.2.1 ⟨by omega, hLL⟩ (by decide) (by decide +kernel) (by decide +kernel) (by decide +kernel) (by decide +kernel) (by decide +kernel) rfl ?_
  rw [← ea4]
  obtain ⟨S1, f1, f2⟩ := c_market hL.2.2.2.2.2.2.1 a1 a2 a3 a4
  refine lw_call (pc := 729) (t := 0) (T := TX11) (N := 14) (as := [.inl a1, .inl a2, .inl a3, .inl a4]) (v := .inl (s_market w a1 a2 a3 a4)) (rest := []) hx hb hml hown hts hG.1 hL (ct_X11_market l) (by unfold ce_wI; rw [f1]; rfl) (okT_cons (okT_cons (okT_cons (okT_cons okT_nil)))) rfl rfl (by rw [hL.2.2.2.2.1 0 (by decide)]; exact Nat.one_pos) rfl wd_719 wd_720 wd_721 wd_57 (by decide +kernel) (by decide) hl.1 (by decide) (by omega) (by omega) (CR_qt hL.2.2.2.2.2.2.1 f2) (MR_mE2 hL.2.2.2.2.2.2.2.1 (mE2_of (mEq_qt f2))) (by rw [hL.2.2.2.2.2.2.2.2.2.2.1]; rfl) (fun ad1 H1 locs1 hL1 => ?_)
  refine lv_aload_n hx hb (by decide +kernel : decode code 732 = .ok (.aload_n 2, 1)) rfl (lv_at hl 3 rfl) ?_
  refine lw_arg (pc' := 738) C0 hl h3 (k := 1) (kz := 1) hL1.2.1 ⟨by omega, hLL⟩ (by decide) (by decide +kernel) (by decide +kernel) (by decide +kernel) (by decide +kernel) (by decide +kernel) rfl ?_
  rw [← ea1]
  refine lw_arg (pc' := 743) C0 hl h3 (k := 2) (kz := 2) hL1.2.1 ⟨by omega, hLL⟩ (by decide) (by decide +kernel) (by decide +kernel) (by decide +kernel) (by decide +kernel) (by decide +kernel) rfl ?_
  rw [← ea2]
  refine lw_arg (pc' := 748) C0 hl h3 (k := 3) (kz := 3) hL1.2.1 ⟨by omega, hLL⟩ (by decide) (by decide +kernel) (by decide +kernel) (by decide +kernel) (by decide +kernel) (by decide +kernel) rfl ?_
  rw [← ea3]
  refine lw_arg (pc' := 753) C0 hl h3 (k := 4) (kz := 4) hL1.2.1 ⟨by omega, hLL⟩ (by decide) (by decide +kernel) (by decide +kernel) (by decide +kernel) (by decide +kernel) (by decide +kernel) rfl ?_
  rw [← ea4]
  obtain ⟨S2, g1, g2, g3⟩ := m_market hL1.2.2.2.2.2.2.2.1 a1 a2 a3 a4
  refine lw_call (pc := 753) (t := 20) (T := TX12) (N := 45) (as := [.inl a1, .inl a2, .inl a3, .inl a4]) (v := .inl (s_market w a1 a2 a3 a4)) (rest := [.int (s_market w a1 a2 a3 a4)]) hx hb hml hown hts hG.1 hL1 (ct_X12_market l) (by unfold ce_wI; rw [g1]; rfl) (okT_cons (okT_cons (okT_cons (okT_cons okT_nil)))) rfl rfl hL1.2.2.2.2.2.1 rfl wd_1178 wd_1179 wd_1180 wd_75 (by decide +kernel) (by decide) hl.1 lw_cat (by omega) (by omega) (CR_cEq hL1.2.2.2.2.2.2.1 g3) g2 (by rw [hL1.2.2.2.2.2.2.2.2.2.2.2]; rfl) (fun ad2 H2 locs2 hL2 => ?_)
  refine lv_icmp_eq (off := 409) (tgt := 1165) hx hb (by decide +kernel) (by decide) (fun _ => ?_) (fun z => absurd rfl z)
  refine W.widen (k := cells + 3) (n := slots + 324) (by omega) (by omega) ?_
  exact kk _ _ _ _ _ hL2
set_option maxRecDepth 20000 in
theorem lwk_judge {p : Program} {e : Env} {s : State} {m : MethodId} {below : List Frame} {meth : Method} {c : Code} {l : Launch} {b L : Nat} {xs : Nat → Int32} {D : va_G} {ca : Nat → ClassId} {qx qm : Nat} {ad : Nat → Nat → Nat} {S : ce_S} {H : Heap} {locs : List Loc} {w : sp_W} {cells slots i : Nat} {x3 : Int32} {ls : Array Slot} (C0 : lw_At p s m meth c b L xs) (hG : ce_GK D ca s) (hl : lv_has ls 4 [(3, .int x3), (0, .ref b), (1, .ref qx), (2, .ref qm)]) (h3 : x3 = nI (6 * i)) (hin : 6 * i + 6 ≤ L) (hLL : L ≤ 3072) (hce : cells + 3 ≤ 600000) (hsl : slots + 324 ≤ 7302250) (hL : LW D ca s qx qm ad S H locs w w)
    (kk : ∀ (w' : sp_W) (ad' : Nat → Nat → Nat) (S' : ce_S) (H' : Heap) (locs' : List Loc), LW D ca s qx qm ad' S' H' locs' w' w' → W p l e room_1 s m #[Value.ref b] below meth c H' locs' (cells + 3) (slots + 324) (lw_Z below #[Value.ref b] s) (F0 m 1165 ls [])) : W p l e room_1 s m #[Value.ref b] below meth c H locs cells slots (lw_Z below #[Value.ref b] s) (F0 m 761 ls []) := by
  obtain ⟨hx, hb, hr, hml, hown, hts0, hX, hbl, hlocks, hgv⟩ := id C0
  have hts := lw_ts C0
  obtain ⟨a1, ea1⟩ : ∃ y, y = xs (6 * i + 1) := ⟨_, rfl⟩
  obtain ⟨a2, ea2⟩ : ∃ y, y = xs (6 * i + 2) := ⟨_, rfl⟩
  refine lv_aload_n hx hb (by decide +kernel : decode code 761 = .ok (.aload_n 1, 1)) rfl (lv_at hl 2 rfl) ?_
  refine lw_arg (pc' := 767) C0 hl h3 (k := 1) (kz := 1) hL.2.1 ⟨by omega, hLL⟩ (by decide) (by decide +kernel) (by decide +kernel) (by decide +kernel) (by decide +kernel) (by decide +kernel) rfl ?_
  rw [← ea1]
  refine lw_arg (pc' := 772) C0 hl h3 (k := 2) (kz := 2) hL.2.1 ⟨by omega, hLL⟩ (by decide) (by decide +kernel) (by decide +kernel) (by decide +kernel) (by decide +kernel) (by decide +kernel) rfl ?_
  rw [← ea2]
  obtain ⟨S1, f1, f2⟩ := c_judge hL.2.2.2.2.2.2.1 a1 a2
  refine lw_call (pc := 772) (t := 0) (T := TX11) (N := 14) (as := [.inl a1, .inl a2]) (v := .inl (s_judge w a1 a2)) (rest := []) hx hb hml hown hts hG.1 hL (ct_X11_judge l) (by unfold ce_wI; rw [f1]; rfl) (okT_cons (okT_cons okT_nil)) rfl rfl (by rw [hL.2.2.2.2.1 0 (by decide)]; exact Nat.one_pos) rfl wd_732 wd_733 wd_734 wd_57 (by decide +kernel) (by decide) hl.1 (by decide) (by omega) (by omega) (CR_qt hL.2.2.2.2.2.2.1 f2) (MR_mE2 hL.2.2.2.2.2.2.2.1 (mE2_of (mEq_qt f2))) (by rw [hL.2.2.2.2.2.2.2.2.2.2.1]; rfl) (fun ad1 H1 locs1 hL1 => ?_)
  refine lv_aload_n hx hb (by decide +kernel : decode code 775 = .ok (.aload_n 2, 1)) rfl (lv_at hl 3 rfl) ?_
  refine lw_arg (pc' := 781) C0 hl h3 (k := 1) (kz := 1) hL1.2.1 ⟨by omega, hLL⟩ (by decide) (by decide +kernel) (by decide +kernel) (by decide +kernel) (by decide +kernel) (by decide +kernel) rfl ?_
  rw [← ea1]
  refine lw_arg (pc' := 786) C0 hl h3 (k := 2) (kz := 2) hL1.2.1 ⟨by omega, hLL⟩ (by decide) (by decide +kernel) (by decide +kernel) (by decide +kernel) (by decide +kernel) (by decide +kernel) rfl ?_
  rw [← ea2]
  obtain ⟨S2, g1, g2, g3⟩ := m_judge hL1.2.2.2.2.2.2.2.1 a1 a2
  refine lw_call (pc := 786) (t := 20) (T := TX12) (N := 45) (as := [.inl a1, .inl a2]) (v := .inl (s_judge w a1 a2)) (rest := [.int (s_judge w a1 a2)]) hx hb hml hown hts hG.1 hL1 (ct_X12_judge l) (by unfold ce_wI; rw [g1]; rfl) (okT_cons (okT_cons okT_nil)) rfl rfl hL1.2.2.2.2.2.1 rfl wd_1186 wd_1187 wd_1188 wd_75 (by decide +kernel) (by decide) hl.1 lw_cat (by omega) (by omega) (CR_cEq hL1.2.2.2.2.2.2.1 g3) g2 (by rw [hL1.2.2.2.2.2.2.2.2.2.2.2]; rfl) (fun ad2 H2 locs2 hL2 => ?_)
  refine lv_icmp_eq (off := 376) (tgt := 1165) hx hb (by decide +kernel) (by decide) (fun _ => ?_) (fun z => absurd rfl z)
  refine W.widen (k := cells + 3) (n := slots + 324) (by omega) (by omega) ?_
  exact kk _ _ _ _ _ hL2
set_option maxRecDepth 20000 in
theorem lwk_drawn {p : Program} {e : Env} {s : State} {m : MethodId} {below : List Frame} {meth : Method} {c : Code} {l : Launch} {b L : Nat} {xs : Nat → Int32} {D : va_G} {ca : Nat → ClassId} {qx qm : Nat} {ad : Nat → Nat → Nat} {S : ce_S} {H : Heap} {locs : List Loc} {w : sp_W} {cells slots i : Nat} {x3 : Int32} {ls : Array Slot} (C0 : lw_At p s m meth c b L xs) (hG : ce_GK D ca s) (hl : lv_has ls 4 [(3, .int x3), (0, .ref b), (1, .ref qx), (2, .ref qm)]) (h3 : x3 = nI (6 * i)) (hin : 6 * i + 6 ≤ L) (hLL : L ≤ 3072) (hce : cells + 3 ≤ 600000) (hsl : slots + 324 ≤ 7302250) (hL : LW D ca s qx qm ad S H locs w w)
    (kk : ∀ (w' : sp_W) (ad' : Nat → Nat → Nat) (S' : ce_S) (H' : Heap) (locs' : List Loc), LW D ca s qx qm ad' S' H' locs' w' w' → W p l e room_1 s m #[Value.ref b] below meth c H' locs' (cells + 3) (slots + 324) (lw_Z below #[Value.ref b] s) (F0 m 1165 ls [])) : W p l e room_1 s m #[Value.ref b] below meth c H locs cells slots (lw_Z below #[Value.ref b] s) (F0 m 794 ls []) := by
  obtain ⟨hx, hb, hr, hml, hown, hts0, hX, hbl, hlocks, hgv⟩ := id C0
  have hts := lw_ts C0
  obtain ⟨a1, ea1⟩ : ∃ y, y = xs (6 * i + 1) := ⟨_, rfl⟩
  obtain ⟨a2, ea2⟩ : ∃ y, y = xs (6 * i + 2) := ⟨_, rfl⟩
  refine lv_aload_n hx hb (by decide +kernel : decode code 794 = .ok (.aload_n 1, 1)) rfl (lv_at hl 2 rfl) ?_
  refine lw_arg (pc' := 800) C0 hl h3 (k := 1) (kz := 1) hL.2.1 ⟨by omega, hLL⟩ (by decide) (by decide +kernel) (by decide +kernel) (by decide +kernel) (by decide +kernel) (by decide +kernel) rfl ?_
  rw [← ea1]
  refine lw_arg (pc' := 805) C0 hl h3 (k := 2) (kz := 2) hL.2.1 ⟨by omega, hLL⟩ (by decide) (by decide +kernel) (by decide +kernel) (by decide +kernel) (by decide +kernel) (by decide +kernel) rfl ?_
  rw [← ea2]
  obtain ⟨S1, f1, f2⟩ := c_drawn hL.2.2.2.2.2.2.1 a1 a2
  refine lw_call (pc := 805) (t := 0) (T := TX11) (N := 14) (as := [.inl a1, .inl a2]) (v := .inl (s_drawn w a1 a2)) (rest := []) hx hb hml hown hts hG.1 hL (ct_X11_drawn l) (by unfold ce_wI; rw [f1]; rfl) (okT_cons (okT_cons okT_nil)) rfl rfl (by rw [hL.2.2.2.2.1 0 (by decide)]; exact Nat.one_pos) rfl wd_736 wd_737 wd_738 wd_57 (by decide +kernel) (by decide) hl.1 (by decide) (by omega) (by omega) (CR_qt hL.2.2.2.2.2.2.1 f2) (MR_mE2 hL.2.2.2.2.2.2.2.1 (mE2_of (mEq_qt f2))) (by rw [hL.2.2.2.2.2.2.2.2.2.2.1]; rfl) (fun ad1 H1 locs1 hL1 => ?_)
  refine lv_aload_n hx hb (by decide +kernel : decode code 808 = .ok (.aload_n 2, 1)) rfl (lv_at hl 3 rfl) ?_
  refine lw_arg (pc' := 814) C0 hl h3 (k := 1) (kz := 1) hL1.2.1 ⟨by omega, hLL⟩ (by decide) (by decide +kernel) (by decide +kernel) (by decide +kernel) (by decide +kernel) (by decide +kernel) rfl ?_
  rw [← ea1]
  refine lw_arg (pc' := 819) C0 hl h3 (k := 2) (kz := 2) hL1.2.1 ⟨by omega, hLL⟩ (by decide) (by decide +kernel) (by decide +kernel) (by decide +kernel) (by decide +kernel) (by decide +kernel) rfl ?_
  rw [← ea2]
  obtain ⟨S2, g1, g2, g3⟩ := m_drawn hL1.2.2.2.2.2.2.2.1 a1 a2
  refine lw_call (pc := 819) (t := 20) (T := TX12) (N := 45) (as := [.inl a1, .inl a2]) (v := .inl (s_drawn w a1 a2)) (rest := [.int (s_drawn w a1 a2)]) hx hb hml hown hts hG.1 hL1 (ct_X12_drawn l) (by unfold ce_wI; rw [g1]; rfl) (okT_cons (okT_cons okT_nil)) rfl rfl hL1.2.2.2.2.2.1 rfl wd_1190 wd_1191 wd_1192 wd_75 (by decide +kernel) (by decide) hl.1 lw_cat (by omega) (by omega) (CR_cEq hL1.2.2.2.2.2.2.1 g3) g2 (by rw [hL1.2.2.2.2.2.2.2.2.2.2.2]; rfl) (fun ad2 H2 locs2 hL2 => ?_)
  refine lv_icmp_eq (off := 343) (tgt := 1165) hx hb (by decide +kernel) (by decide) (fun _ => ?_) (fun z => absurd rfl z)
  refine W.widen (k := cells + 3) (n := slots + 324) (by omega) (by omega) ?_
  exact kk _ _ _ _ _ hL2
set_option maxRecDepth 20000 in
theorem lwk_odds {p : Program} {e : Env} {s : State} {m : MethodId} {below : List Frame} {meth : Method} {c : Code} {l : Launch} {b L : Nat} {xs : Nat → Int32} {D : va_G} {ca : Nat → ClassId} {qx qm : Nat} {ad : Nat → Nat → Nat} {S : ce_S} {H : Heap} {locs : List Loc} {w : sp_W} {cells slots i : Nat} {x3 : Int32} {ls : Array Slot} (C0 : lw_At p s m meth c b L xs) (hG : ce_GK D ca s) (hl : lv_has ls 4 [(3, .int x3), (0, .ref b), (1, .ref qx), (2, .ref qm)]) (h3 : x3 = nI (6 * i)) (hin : 6 * i + 6 ≤ L) (hLL : L ≤ 3072) (hce : cells + 3 ≤ 600000) (hsl : slots + 324 ≤ 7302250) (hL : LW D ca s qx qm ad S H locs w w)
    (kk : ∀ (w' : sp_W) (ad' : Nat → Nat → Nat) (S' : ce_S) (H' : Heap) (locs' : List Loc), LW D ca s qx qm ad' S' H' locs' w' w' → W p l e room_1 s m #[Value.ref b] below meth c H' locs' (cells + 3) (slots + 324) (lw_Z below #[Value.ref b] s) (F0 m 1165 ls [])) : W p l e room_1 s m #[Value.ref b] below meth c H locs cells slots (lw_Z below #[Value.ref b] s) (F0 m 827 ls []) := by
  obtain ⟨hx, hb, hr, hml, hown, hts0, hX, hbl, hlocks, hgv⟩ := id C0
  have hts := lw_ts C0
  obtain ⟨a1, ea1⟩ : ∃ y, y = xs (6 * i + 1) := ⟨_, rfl⟩
  obtain ⟨a2, ea2⟩ : ∃ y, y = xs (6 * i + 2) := ⟨_, rfl⟩
  obtain ⟨a3, ea3⟩ : ∃ y, y = xs (6 * i + 3) := ⟨_, rfl⟩
  obtain ⟨a4, ea4⟩ : ∃ y, y = xs (6 * i + 4) := ⟨_, rfl⟩
  refine lv_aload_n hx hb (by decide +kernel : decode code 827 = .ok (.aload_n 1, 1)) rfl (lv_at hl 2 rfl) ?_
  refine lw_arg (pc' := 833) C0 hl h3 (k := 1) (kz := 1) hL.2.1 ⟨by omega, hLL⟩ (by decide) (by decide +kernel) (by decide +kernel) (by decide +kernel) (by decide +kernel) (by decide +kernel) rfl ?_
  rw [← ea1]
  refine lw_arg (pc' := 838) C0 hl h3 (k := 2) (kz := 2) hL.2.1 ⟨by omega, hLL⟩ (by decide) (by decide +kernel) (by decide +kernel) (by decide +kernel) (by decide +kernel) (by decide +kernel) rfl ?_
  rw [← ea2]
  refine lw_arg (pc' := 843) C0 hl h3 (k := 3) (kz := 3) hL.2.1 ⟨by omega, hLL⟩ (by decide) (by decide +kernel) (by decide +kernel) (by decide +kernel) (by decide +kernel) (by decide +kernel) rfl ?_
  rw [← ea3]
  refine lw_arg (pc' := 848) C0 hl h3 (k := 4) (kz := 4) hL.2.1 ⟨by omega, hLL⟩ (by decide) (by decide +kernel) (by decide +kernel) (by decide +kernel) (by decide +kernel) (by decide +kernel) rfl ?_
  rw [← ea4]
  obtain ⟨S1, f1, f2⟩ := c_odds hL.2.2.2.2.2.2.1 a1 a2 a3 a4
  refine lw_call (pc := 848) (t := 0) (T := TX11) (N := 14) (as := [.inl a1, .inl a2, .inl a3, .inl a4]) (v := .inr (.inr (s_odds w a1 a2 a3 a4))) (rest := []) hx hb hml hown hts hG.1 hL (ct_X11_odds l) (by unfold ce_wL; rw [f1]; rfl) (okT_cons (okT_cons (okT_cons (okT_cons okT_nil)))) rfl rfl (by rw [hL.2.2.2.2.1 0 (by decide)]; exact Nat.one_pos) rfl wd_745 wd_746 wd_747 wd_57 (by decide +kernel) (by decide) hl.1 (by decide) (by omega) (by omega) (CR_qt hL.2.2.2.2.2.2.1 f2) (MR_mE2 hL.2.2.2.2.2.2.2.1 (mE2_of (mEq_qt f2))) (by rw [hL.2.2.2.2.2.2.2.2.2.2.1]; rfl) (fun ad1 H1 locs1 hL1 => ?_)
  refine lv_aload_n hx hb (by decide +kernel : decode code 851 = .ok (.aload_n 2, 1)) rfl (lv_at hl 3 rfl) ?_
  refine lw_arg (pc' := 857) C0 hl h3 (k := 1) (kz := 1) hL1.2.1 ⟨by omega, hLL⟩ (by decide) (by decide +kernel) (by decide +kernel) (by decide +kernel) (by decide +kernel) (by decide +kernel) rfl ?_
  rw [← ea1]
  refine lw_arg (pc' := 862) C0 hl h3 (k := 2) (kz := 2) hL1.2.1 ⟨by omega, hLL⟩ (by decide) (by decide +kernel) (by decide +kernel) (by decide +kernel) (by decide +kernel) (by decide +kernel) rfl ?_
  rw [← ea2]
  refine lw_arg (pc' := 867) C0 hl h3 (k := 3) (kz := 3) hL1.2.1 ⟨by omega, hLL⟩ (by decide) (by decide +kernel) (by decide +kernel) (by decide +kernel) (by decide +kernel) (by decide +kernel) rfl ?_
  rw [← ea3]
  refine lw_arg (pc' := 872) C0 hl h3 (k := 4) (kz := 4) hL1.2.1 ⟨by omega, hLL⟩ (by decide) (by decide +kernel) (by decide +kernel) (by decide +kernel) (by decide +kernel) (by decide +kernel) rfl ?_
  rw [← ea4]
  obtain ⟨S2, g1, g2, g3⟩ := m_odds hL1.2.2.2.2.2.2.2.1 a1 a2 a3 a4
  refine lw_call (pc := 872) (t := 20) (T := TX12) (N := 45) (as := [.inl a1, .inl a2, .inl a3, .inl a4]) (v := .inr (.inr (s_odds w a1 a2 a3 a4))) (rest := [.long (s_odds w a1 a2 a3 a4)]) hx hb hml hown hts hG.1 hL1 (ct_X12_odds l) (by unfold ce_wL; rw [g1]; rfl) (okT_cons (okT_cons (okT_cons (okT_cons okT_nil)))) rfl rfl hL1.2.2.2.2.2.1 rfl wd_1199 wd_1200 wd_1201 wd_75 (by decide +kernel) (by decide) hl.1 lw_cat (by omega) (by omega) (CR_cEq hL1.2.2.2.2.2.2.1 g3) g2 (by rw [hL1.2.2.2.2.2.2.2.2.2.2.2]; rfl) (fun ad2 H2 locs2 hL2 => ?_)
  refine W.lcmp hx hb (by decide +kernel) ?_
  refine lv_if_eq (off := 289) (tgt := 1165) hx hb (by decide +kernel) (by decide) (fun _ => ?_) (fun z => absurd (lg_cmp_self _) z)
  refine W.widen (k := cells + 3) (n := slots + 324) (by omega) (by omega) ?_
  exact kk _ _ _ _ _ hL2
set_option maxRecDepth 20000 in
theorem lwk_image {p : Program} {e : Env} {s : State} {m : MethodId} {below : List Frame} {meth : Method} {c : Code} {l : Launch} {b L : Nat} {xs : Nat → Int32} {D : va_G} {ca : Nat → ClassId} {qx qm : Nat} {ad : Nat → Nat → Nat} {S : ce_S} {H : Heap} {locs : List Loc} {w : sp_W} {cells slots i : Nat} {x3 : Int32} {ls : Array Slot} (C0 : lw_At p s m meth c b L xs) (hG : ce_GK D ca s) (hl : lv_has ls 4 [(3, .int x3), (0, .ref b), (1, .ref qx), (2, .ref qm)]) (h3 : x3 = nI (6 * i)) (hin : 6 * i + 6 ≤ L) (hLL : L ≤ 3072) (hce : cells + 3 ≤ 600000) (hsl : slots + 324 ≤ 7302250) (hL : LW D ca s qx qm ad S H locs w w)
    (kk : ∀ (w' : sp_W) (ad' : Nat → Nat → Nat) (S' : ce_S) (H' : Heap) (locs' : List Loc), LW D ca s qx qm ad' S' H' locs' w' w' → W p l e room_1 s m #[Value.ref b] below meth c H' locs' (cells + 3) (slots + 324) (lw_Z below #[Value.ref b] s) (F0 m 1165 ls [])) : W p l e room_1 s m #[Value.ref b] below meth c H locs cells slots (lw_Z below #[Value.ref b] s) (F0 m 881 ls []) := by
  obtain ⟨hx, hb, hr, hml, hown, hts0, hX, hbl, hlocks, hgv⟩ := id C0
  have hts := lw_ts C0
  refine lv_aload_n hx hb (by decide +kernel : decode code 881 = .ok (.aload_n 1, 1)) rfl (lv_at hl 2 rfl) ?_
  obtain ⟨S1, f1, f2, f3⟩ := c_image hL.2.2.2.2.2.2.1
  refine lw_call (pc := 882) (t := 0) (T := TX11) (N := 14) (as := []) (v := .inl (s_image w).1) (rest := []) hx hb hml hown hts hG.1 hL (ct_X11_image l) (by unfold ce_wI; rw [f1]; rfl) okT_nil rfl rfl (by rw [hL.2.2.2.2.1 0 (by decide)]; exact Nat.one_pos) rfl wd_753 wd_754 wd_755 wd_57 (by decide +kernel) (by decide) hl.1 (by decide) (by omega) (by omega) f2 (MR_mE2 hL.2.2.2.2.2.2.2.1 (mE2_of f3)) (by rw [hL.2.2.2.2.2.2.2.2.2.2.1]; rfl) (fun ad1 H1 locs1 hL1 => ?_)
  refine lv_aload_n hx hb (by decide +kernel : decode code 885 = .ok (.aload_n 2, 1)) rfl (lv_at hl 3 rfl) ?_
  obtain ⟨S2, g1, g2, g3⟩ := m_image hL1.2.2.2.2.2.2.2.1
  refine lw_call (pc := 886) (t := 20) (T := TX12) (N := 45) (as := []) (v := .inl (s_image w).1) (rest := [.int (s_image w).1]) hx hb hml hown hts hG.1 hL1 (ct_X12_image l) (by unfold ce_wI; rw [g1]; rfl) okT_nil rfl rfl hL1.2.2.2.2.2.1 rfl wd_1112 wd_1113 wd_1114 wd_75 (by decide +kernel) (by decide) hl.1 lw_cat (by omega) (by omega) (CR_cEq hL1.2.2.2.2.2.2.1 g3) g2 (by rw [hL1.2.2.2.2.2.2.2.2.2.2.2]; rfl) (fun ad2 H2 locs2 hL2 => ?_)
  refine lv_icmp_eq (off := 276) (tgt := 1165) hx hb (by decide +kernel) (by decide) (fun _ => ?_) (fun z => absurd rfl z)
  refine W.widen (k := cells + 3) (n := slots + 324) (by omega) (by omega) ?_
  exact kk _ _ _ _ _ hL2
set_option maxRecDepth 20000 in
theorem lwk_back {p : Program} {e : Env} {s : State} {m : MethodId} {below : List Frame} {meth : Method} {c : Code} {l : Launch} {b L : Nat} {xs : Nat → Int32} {D : va_G} {ca : Nat → ClassId} {qx qm : Nat} {ad : Nat → Nat → Nat} {S : ce_S} {H : Heap} {locs : List Loc} {w : sp_W} {cells slots i : Nat} {x3 : Int32} {ls : Array Slot} (C0 : lw_At p s m meth c b L xs) (hG : ce_GK D ca s) (hl : lv_has ls 4 [(3, .int x3), (0, .ref b), (1, .ref qx), (2, .ref qm)]) (h3 : x3 = nI (6 * i)) (hin : 6 * i + 6 ≤ L) (hLL : L ≤ 3072) (hce : cells + 3 ≤ 600000) (hsl : slots + 324 ≤ 7302250) (hL : LW D ca s qx qm ad S H locs w w)
    (kk : ∀ (w' : sp_W) (ad' : Nat → Nat → Nat) (S' : ce_S) (H' : Heap) (locs' : List Loc), LW D ca s qx qm ad' S' H' locs' w' w' → W p l e room_1 s m #[Value.ref b] below meth c H' locs' (cells + 3) (slots + 324) (lw_Z below #[Value.ref b] s) (F0 m 1165 ls [])) : W p l e room_1 s m #[Value.ref b] below meth c H locs cells slots (lw_Z below #[Value.ref b] s) (F0 m 894 ls []) := by
  obtain ⟨hx, hb, hr, hml, hown, hts0, hX, hbl, hlocks, hgv⟩ := id C0
  have hts := lw_ts C0
  refine lv_aload_n hx hb (by decide +kernel : decode code 894 = .ok (.aload_n 1, 1)) rfl (lv_at hl 2 rfl) ?_
  obtain ⟨S1, f1, f2, f3⟩ := c_back hL.2.2.2.2.2.2.1
  refine lw_call (pc := 895) (t := 0) (T := TX11) (N := 14) (as := []) (v := .inl (s_back w).1) (rest := []) hx hb hml hown hts hG.1 hL (ct_X11_back l) (by unfold ce_wI; rw [f1]; rfl) okT_nil rfl rfl (by rw [hL.2.2.2.2.1 0 (by decide)]; exact Nat.one_pos) rfl wd_761 wd_762 wd_763 wd_57 (by decide +kernel) (by decide) hl.1 (by decide) (by omega) (by omega) f2 (MR_mE2 hL.2.2.2.2.2.2.2.1 (mE2_of f3)) (by rw [hL.2.2.2.2.2.2.2.2.2.2.1]; rfl) (fun ad1 H1 locs1 hL1 => ?_)
  refine lv_aload_n hx hb (by decide +kernel : decode code 898 = .ok (.aload_n 2, 1)) rfl (lv_at hl 3 rfl) ?_
  obtain ⟨S2, g1, g2, g3⟩ := m_back hL1.2.2.2.2.2.2.2.1
  refine lw_call (pc := 899) (t := 20) (T := TX12) (N := 45) (as := []) (v := .inl (s_back w).1) (rest := [.int (s_back w).1]) hx hb hml hown hts hG.1 hL1 (ct_X12_back l) (by unfold ce_wI; rw [g1]; rfl) okT_nil rfl rfl hL1.2.2.2.2.2.1 rfl wd_1124 wd_1125 wd_1126 wd_75 (by decide +kernel) (by decide) hl.1 lw_cat (by omega) (by omega) (CR_cEq hL1.2.2.2.2.2.2.1 g3) g2 (by rw [hL1.2.2.2.2.2.2.2.2.2.2.2]; rfl) (fun ad2 H2 locs2 hL2 => ?_)
  refine lv_icmp_eq (off := 263) (tgt := 1165) hx hb (by decide +kernel) (by decide) (fun _ => ?_) (fun z => absurd rfl z)
  refine W.widen (k := cells + 3) (n := slots + 324) (by omega) (by omega) ?_
  exact kk _ _ _ _ _ hL2
set_option maxRecDepth 20000 in
theorem lwk_count {p : Program} {e : Env} {s : State} {m : MethodId} {below : List Frame} {meth : Method} {c : Code} {l : Launch} {b L : Nat} {xs : Nat → Int32} {D : va_G} {ca : Nat → ClassId} {qx qm : Nat} {ad : Nat → Nat → Nat} {S : ce_S} {H : Heap} {locs : List Loc} {w : sp_W} {cells slots i : Nat} {x3 : Int32} {ls : Array Slot} (C0 : lw_At p s m meth c b L xs) (hG : ce_GK D ca s) (hl : lv_has ls 4 [(3, .int x3), (0, .ref b), (1, .ref qx), (2, .ref qm)]) (h3 : x3 = nI (6 * i)) (hin : 6 * i + 6 ≤ L) (hLL : L ≤ 3072) (hce : cells + 3 ≤ 600000) (hsl : slots + 324 ≤ 7302250) (hL : LW D ca s qx qm ad S H locs w w)
    (kk : ∀ (w' : sp_W) (ad' : Nat → Nat → Nat) (S' : ce_S) (H' : Heap) (locs' : List Loc), LW D ca s qx qm ad' S' H' locs' w' w' → W p l e room_1 s m #[Value.ref b] below meth c H' locs' (cells + 3) (slots + 324) (lw_Z below #[Value.ref b] s) (F0 m 1165 ls [])) : W p l e room_1 s m #[Value.ref b] below meth c H locs cells slots (lw_Z below #[Value.ref b] s) (F0 m 907 ls []) := by
  obtain ⟨hx, hb, hr, hml, hown, hts0, hX, hbl, hlocks, hgv⟩ := id C0
  have hts := lw_ts C0
  obtain ⟨a1, ea1⟩ : ∃ y, y = xs (6 * i + 1) := ⟨_, rfl⟩
  refine lv_aload_n hx hb (by decide +kernel : decode code 907 = .ok (.aload_n 1, 1)) rfl (lv_at hl 2 rfl) ?_
  refine lw_arg (pc' := 913) C0 hl h3 (k := 1) (kz := 1) hL.2.1 ⟨by omega, hLL⟩ (by decide) (by decide +kernel) (by decide +kernel) (by decide +kernel) (by decide +kernel) (by decide +kernel) rfl ?_
  rw [← ea1]
  have f1 := c_count hL.2.2.2.2.2.2.1 a1
  refine lw_call (pc := 913) (t := 0) (T := TX11) (N := 14) (as := [.inl a1]) (v := .inl (s_count w a1)) (rest := []) hx hb hml hown hts hG.1 hL (ct_X11_count l) (by unfold ce_wI; rw [f1]; rfl) (okT_cons okT_nil) rfl rfl (by rw [hL.2.2.2.2.1 0 (by decide)]; exact Nat.one_pos) rfl wd_766 wd_767 wd_768 wd_57 (by decide +kernel) (by decide) hl.1 (by decide) (by omega) (by omega) hL.2.2.2.2.2.2.1 hL.2.2.2.2.2.2.2.1 (by rw [hL.2.2.2.2.2.2.2.2.2.2.1]; rfl) (fun ad1 H1 locs1 hL1 => ?_)
  refine lv_aload_n hx hb (by decide +kernel : decode code 916 = .ok (.aload_n 2, 1)) rfl (lv_at hl 3 rfl) ?_
  refine lw_arg (pc' := 922) C0 hl h3 (k := 1) (kz := 1) hL1.2.1 ⟨by omega, hLL⟩ (by decide) (by decide +kernel) (by decide +kernel) (by decide +kernel) (by decide +kernel) (by decide +kernel) rfl ?_
  rw [← ea1]
  have g1 := m_count hL1.2.2.2.2.2.2.2.1 a1
  refine lw_call (pc := 922) (t := 20) (T := TX12) (N := 45) (as := [.inl a1]) (v := .inl (s_count w a1)) (rest := [.int (s_count w a1)]) hx hb hml hown hts hG.1 hL1 (ct_X12_count l) (by unfold ce_wI; rw [g1]; rfl) (okT_cons okT_nil) rfl rfl hL1.2.2.2.2.2.1 rfl wd_1207 wd_1208 wd_1209 wd_75 (by decide +kernel) (by decide) hl.1 lw_cat (by omega) (by omega) hL1.2.2.2.2.2.2.1 hL1.2.2.2.2.2.2.2.1 (by rw [hL1.2.2.2.2.2.2.2.2.2.2.2]; rfl) (fun ad2 H2 locs2 hL2 => ?_)
  refine lv_icmp_eq (off := 240) (tgt := 1165) hx hb (by decide +kernel) (by decide) (fun _ => ?_) (fun z => absurd rfl z)
  refine W.widen (k := cells + 3) (n := slots + 324) (by omega) (by omega) ?_
  exact kk _ _ _ _ _ hL2
set_option maxRecDepth 20000 in
theorem lwk_sheet {p : Program} {e : Env} {s : State} {m : MethodId} {below : List Frame} {meth : Method} {c : Code} {l : Launch} {b L : Nat} {xs : Nat → Int32} {D : va_G} {ca : Nat → ClassId} {qx qm : Nat} {ad : Nat → Nat → Nat} {S : ce_S} {H : Heap} {locs : List Loc} {w : sp_W} {cells slots i : Nat} {x3 : Int32} {ls : Array Slot} (C0 : lw_At p s m meth c b L xs) (hG : ce_GK D ca s) (hl : lv_has ls 4 [(3, .int x3), (0, .ref b), (1, .ref qx), (2, .ref qm)]) (h3 : x3 = nI (6 * i)) (hin : 6 * i + 6 ≤ L) (hLL : L ≤ 3072) (hce : cells + 3 ≤ 600000) (hsl : slots + 324 ≤ 7302250) (hL : LW D ca s qx qm ad S H locs w w)
    (kk : ∀ (w' : sp_W) (ad' : Nat → Nat → Nat) (S' : ce_S) (H' : Heap) (locs' : List Loc), LW D ca s qx qm ad' S' H' locs' w' w' → W p l e room_1 s m #[Value.ref b] below meth c H' locs' (cells + 3) (slots + 324) (lw_Z below #[Value.ref b] s) (F0 m 1165 ls [])) : W p l e room_1 s m #[Value.ref b] below meth c H locs cells slots (lw_Z below #[Value.ref b] s) (F0 m 930 ls []) := by
  obtain ⟨hx, hb, hr, hml, hown, hts0, hX, hbl, hlocks, hgv⟩ := id C0
  have hts := lw_ts C0
  obtain ⟨a1, ea1⟩ : ∃ y, y = xs (6 * i + 1) := ⟨_, rfl⟩
  obtain ⟨a2, ea2⟩ : ∃ y, y = xs (6 * i + 2) := ⟨_, rfl⟩
  obtain ⟨a3, ea3⟩ : ∃ y, y = xs (6 * i + 3) := ⟨_, rfl⟩
  refine lv_aload_n hx hb (by decide +kernel : decode code 930 = .ok (.aload_n 1, 1)) rfl (lv_at hl 2 rfl) ?_
  refine lw_arg (pc' := 936) C0 hl h3 (k := 1) (kz := 1) hL.2.1 ⟨by omega, hLL⟩ (by decide) (by decide +kernel) (by decide +kernel) (by decide +kernel) (by decide +kernel) (by decide +kernel) rfl ?_
  rw [← ea1]
  refine lw_arg (pc' := 941) C0 hl h3 (k := 2) (kz := 2) hL.2.1 ⟨by omega, hLL⟩ (by decide) (by decide +kernel) (by decide +kernel) (by decide +kernel) (by decide +kernel) (by decide +kernel) rfl ?_
  rw [← ea2]
  refine lw_arg (pc' := 946) C0 hl h3 (k := 3) (kz := 3) hL.2.1 ⟨by omega, hLL⟩ (by decide) (by decide +kernel) (by decide +kernel) (by decide +kernel) (by decide +kernel) (by decide +kernel) rfl ?_
  rw [← ea3]
  obtain ⟨S1, f1, f2, f3⟩ := c_sheet hL.2.2.2.2.2.2.1 a1 a2 a3
  refine lw_call (pc := 946) (t := 0) (T := TX11) (N := 14) (as := [.inl a1, .inl a2, .inl a3]) (v := .inl (s_sheet w a1 a2 a3).1) (rest := []) hx hb hml hown hts hG.1 hL (ct_X11_sheet l) (by unfold ce_wI; rw [f1]; rfl) (okT_cons (okT_cons (okT_cons okT_nil))) rfl rfl (by rw [hL.2.2.2.2.1 0 (by decide)]; exact Nat.one_pos) rfl wd_770 wd_771 wd_772 wd_57 (by decide +kernel) (by decide) hl.1 (by decide) (by omega) (by omega) f2 (MR_mE2 hL.2.2.2.2.2.2.2.1 (mE2_of f3)) (by rw [hL.2.2.2.2.2.2.2.2.2.2.1]; rfl) (fun ad1 H1 locs1 hL1 => ?_)
  refine lv_aload_n hx hb (by decide +kernel : decode code 949 = .ok (.aload_n 2, 1)) rfl (lv_at hl 3 rfl) ?_
  refine lw_arg (pc' := 955) C0 hl h3 (k := 1) (kz := 1) hL1.2.1 ⟨by omega, hLL⟩ (by decide) (by decide +kernel) (by decide +kernel) (by decide +kernel) (by decide +kernel) (by decide +kernel) rfl ?_
  rw [← ea1]
  refine lw_arg (pc' := 960) C0 hl h3 (k := 2) (kz := 2) hL1.2.1 ⟨by omega, hLL⟩ (by decide) (by decide +kernel) (by decide +kernel) (by decide +kernel) (by decide +kernel) (by decide +kernel) rfl ?_
  rw [← ea2]
  refine lw_arg (pc' := 965) C0 hl h3 (k := 3) (kz := 3) hL1.2.1 ⟨by omega, hLL⟩ (by decide) (by decide +kernel) (by decide +kernel) (by decide +kernel) (by decide +kernel) (by decide +kernel) rfl ?_
  rw [← ea3]
  obtain ⟨S2, g1, g2, g3⟩ := m_sheet hL1.2.2.2.2.2.2.2.1 a1 a2 a3
  refine lw_call (pc := 965) (t := 20) (T := TX12) (N := 45) (as := [.inl a1, .inl a2, .inl a3]) (v := .inl (s_sheet w a1 a2 a3).1) (rest := [.int (s_sheet w a1 a2 a3).1]) hx hb hml hown hts hG.1 hL1 (ct_X12_sheet l) (by unfold ce_wI; rw [g1]; rfl) (okT_cons (okT_cons (okT_cons okT_nil))) rfl rfl hL1.2.2.2.2.2.1 rfl wd_1211 wd_1212 wd_1213 wd_75 (by decide +kernel) (by decide) hl.1 lw_cat (by omega) (by omega) (CR_cEq hL1.2.2.2.2.2.2.1 g3) g2 (by rw [hL1.2.2.2.2.2.2.2.2.2.2.2]; rfl) (fun ad2 H2 locs2 hL2 => ?_)
  refine lv_icmp_eq (off := 197) (tgt := 1165) hx hb (by decide +kernel) (by decide) (fun _ => ?_) (fun z => absurd rfl z)
  refine W.widen (k := cells + 3) (n := slots + 324) (by omega) (by omega) ?_
  exact kk _ _ _ _ _ hL2
set_option maxRecDepth 20000 in
theorem lwk_cell {p : Program} {e : Env} {s : State} {m : MethodId} {below : List Frame} {meth : Method} {c : Code} {l : Launch} {b L : Nat} {xs : Nat → Int32} {D : va_G} {ca : Nat → ClassId} {qx qm : Nat} {ad : Nat → Nat → Nat} {S : ce_S} {H : Heap} {locs : List Loc} {w : sp_W} {cells slots i : Nat} {x3 : Int32} {ls : Array Slot} (C0 : lw_At p s m meth c b L xs) (hG : ce_GK D ca s) (hl : lv_has ls 4 [(3, .int x3), (0, .ref b), (1, .ref qx), (2, .ref qm)]) (h3 : x3 = nI (6 * i)) (hin : 6 * i + 6 ≤ L) (hLL : L ≤ 3072) (hce : cells + 3 ≤ 600000) (hsl : slots + 324 ≤ 7302250) (hL : LW D ca s qx qm ad S H locs w w)
    (kk : ∀ (w' : sp_W) (ad' : Nat → Nat → Nat) (S' : ce_S) (H' : Heap) (locs' : List Loc), LW D ca s qx qm ad' S' H' locs' w' w' → W p l e room_1 s m #[Value.ref b] below meth c H' locs' (cells + 3) (slots + 324) (lw_Z below #[Value.ref b] s) (F0 m 1165 ls [])) : W p l e room_1 s m #[Value.ref b] below meth c H locs cells slots (lw_Z below #[Value.ref b] s) (F0 m 973 ls []) := by
  obtain ⟨hx, hb, hr, hml, hown, hts0, hX, hbl, hlocks, hgv⟩ := id C0
  have hts := lw_ts C0
  obtain ⟨a1, ea1⟩ : ∃ y, y = xs (6 * i + 1) := ⟨_, rfl⟩
  obtain ⟨a2, ea2⟩ : ∃ y, y = xs (6 * i + 2) := ⟨_, rfl⟩
  obtain ⟨a3, ea3⟩ : ∃ y, y = xs (6 * i + 3) := ⟨_, rfl⟩
  refine lv_aload_n hx hb (by decide +kernel : decode code 973 = .ok (.aload_n 1, 1)) rfl (lv_at hl 2 rfl) ?_
  refine lw_arg (pc' := 979) C0 hl h3 (k := 1) (kz := 1) hL.2.1 ⟨by omega, hLL⟩ (by decide) (by decide +kernel) (by decide +kernel) (by decide +kernel) (by decide +kernel) (by decide +kernel) rfl ?_
  rw [← ea1]
  refine lw_arg (pc' := 984) C0 hl h3 (k := 2) (kz := 2) hL.2.1 ⟨by omega, hLL⟩ (by decide) (by decide +kernel) (by decide +kernel) (by decide +kernel) (by decide +kernel) (by decide +kernel) rfl ?_
  rw [← ea2]
  refine lw_arg (pc' := 989) C0 hl h3 (k := 3) (kz := 3) hL.2.1 ⟨by omega, hLL⟩ (by decide) (by decide +kernel) (by decide +kernel) (by decide +kernel) (by decide +kernel) (by decide +kernel) rfl ?_
  rw [← ea3]
  obtain ⟨S1, f1, f2, f3⟩ := c_cell hL.2.2.2.2.2.2.1 a1 a2 a3
  refine lw_call (pc := 989) (t := 0) (T := TX11) (N := 14) (as := [.inl a1, .inl a2, .inl a3]) (v := .inl (s_cell w a1 a2 a3).1) (rest := []) hx hb hml hown hts hG.1 hL (ct_X11_cell l) (by unfold ce_wI; rw [f1]; rfl) (okT_cons (okT_cons (okT_cons okT_nil))) rfl rfl (by rw [hL.2.2.2.2.1 0 (by decide)]; exact Nat.one_pos) rfl wd_779 wd_780 wd_781 wd_57 (by decide +kernel) (by decide) hl.1 (by decide) (by omega) (by omega) f2 (MR_mE2 hL.2.2.2.2.2.2.2.1 (mE2_of f3)) (by rw [hL.2.2.2.2.2.2.2.2.2.2.1]; rfl) (fun ad1 H1 locs1 hL1 => ?_)
  refine lv_aload_n hx hb (by decide +kernel : decode code 992 = .ok (.aload_n 2, 1)) rfl (lv_at hl 3 rfl) ?_
  refine lw_arg (pc' := 998) C0 hl h3 (k := 1) (kz := 1) hL1.2.1 ⟨by omega, hLL⟩ (by decide) (by decide +kernel) (by decide +kernel) (by decide +kernel) (by decide +kernel) (by decide +kernel) rfl ?_
  rw [← ea1]
  refine lw_arg (pc' := 1003) C0 hl h3 (k := 2) (kz := 2) hL1.2.1 ⟨by omega, hLL⟩ (by decide) (by decide +kernel) (by decide +kernel) (by decide +kernel) (by decide +kernel) (by decide +kernel) rfl ?_
  rw [← ea2]
  refine lw_arg (pc' := 1008) C0 hl h3 (k := 3) (kz := 3) hL1.2.1 ⟨by omega, hLL⟩ (by decide) (by decide +kernel) (by decide +kernel) (by decide +kernel) (by decide +kernel) (by decide +kernel) rfl ?_
  rw [← ea3]
  obtain ⟨S2, g1, g2, g3⟩ := m_cell hL1.2.2.2.2.2.2.2.1 a1 a2 a3
  refine lw_call (pc := 1008) (t := 20) (T := TX12) (N := 45) (as := [.inl a1, .inl a2, .inl a3]) (v := .inl (s_cell w a1 a2 a3).1) (rest := [.int (s_cell w a1 a2 a3).1]) hx hb hml hown hts hG.1 hL1 (ct_X12_cell l) (by unfold ce_wI; rw [g1]; rfl) (okT_cons (okT_cons (okT_cons okT_nil))) rfl rfl hL1.2.2.2.2.2.1 rfl wd_1215 wd_1216 wd_1217 wd_75 (by decide +kernel) (by decide) hl.1 lw_cat (by omega) (by omega) (CR_cEq hL1.2.2.2.2.2.2.1 g3) g2 (by rw [hL1.2.2.2.2.2.2.2.2.2.2.2]; rfl) (fun ad2 H2 locs2 hL2 => ?_)
  refine lv_icmp_eq (off := 154) (tgt := 1165) hx hb (by decide +kernel) (by decide) (fun _ => ?_) (fun z => absurd rfl z)
  refine W.widen (k := cells + 3) (n := slots + 324) (by omega) (by omega) ?_
  exact kk _ _ _ _ _ hL2
set_option maxRecDepth 20000 in
theorem lwk_copy {p : Program} {e : Env} {s : State} {m : MethodId} {below : List Frame} {meth : Method} {c : Code} {l : Launch} {b L : Nat} {xs : Nat → Int32} {D : va_G} {ca : Nat → ClassId} {qx qm : Nat} {ad : Nat → Nat → Nat} {S : ce_S} {H : Heap} {locs : List Loc} {w : sp_W} {cells slots i : Nat} {x3 : Int32} {ls : Array Slot} (C0 : lw_At p s m meth c b L xs) (hG : ce_GK D ca s) (hl : lv_has ls 4 [(3, .int x3), (0, .ref b), (1, .ref qx), (2, .ref qm)]) (h3 : x3 = nI (6 * i)) (hin : 6 * i + 6 ≤ L) (hLL : L ≤ 3072) (hce : cells + 3 ≤ 600000) (hsl : slots + 324 ≤ 7302250) (hL : LW D ca s qx qm ad S H locs w w)
    (kk : ∀ (w' : sp_W) (ad' : Nat → Nat → Nat) (S' : ce_S) (H' : Heap) (locs' : List Loc), LW D ca s qx qm ad' S' H' locs' w' w' → W p l e room_1 s m #[Value.ref b] below meth c H' locs' (cells + 3) (slots + 324) (lw_Z below #[Value.ref b] s) (F0 m 1165 ls [])) : W p l e room_1 s m #[Value.ref b] below meth c H locs cells slots (lw_Z below #[Value.ref b] s) (F0 m 1016 ls []) := by
  obtain ⟨hx, hb, hr, hml, hown, hts0, hX, hbl, hlocks, hgv⟩ := id C0
  have hts := lw_ts C0
  obtain ⟨a1, ea1⟩ : ∃ y, y = xs (6 * i + 1) := ⟨_, rfl⟩
  obtain ⟨a2, ea2⟩ : ∃ y, y = xs (6 * i + 2) := ⟨_, rfl⟩
  obtain ⟨a3, ea3⟩ : ∃ y, y = xs (6 * i + 3) := ⟨_, rfl⟩
  obtain ⟨a4, ea4⟩ : ∃ y, y = xs (6 * i + 4) := ⟨_, rfl⟩
  obtain ⟨a5, ea5⟩ : ∃ y, y = xs (6 * i + 5) := ⟨_, rfl⟩
  refine lv_aload_n hx hb (by decide +kernel : decode code 1016 = .ok (.aload_n 1, 1)) rfl (lv_at hl 2 rfl) ?_
  refine lw_arg (pc' := 1022) C0 hl h3 (k := 1) (kz := 1) hL.2.1 ⟨by omega, hLL⟩ (by decide) (by decide +kernel) (by decide +kernel) (by decide +kernel) (by decide +kernel) (by decide +kernel) rfl ?_
  rw [← ea1]
  refine lw_arg (pc' := 1027) C0 hl h3 (k := 2) (kz := 2) hL.2.1 ⟨by omega, hLL⟩ (by decide) (by decide +kernel) (by decide +kernel) (by decide +kernel) (by decide +kernel) (by decide +kernel) rfl ?_
  rw [← ea2]
  refine lw_arg (pc' := 1032) C0 hl h3 (k := 3) (kz := 3) hL.2.1 ⟨by omega, hLL⟩ (by decide) (by decide +kernel) (by decide +kernel) (by decide +kernel) (by decide +kernel) (by decide +kernel) rfl ?_
  rw [← ea3]
  refine lw_arg (pc' := 1037) C0 hl h3 (k := 4) (kz := 4) hL.2.1 ⟨by omega, hLL⟩ (by decide) (by decide +kernel) (by decide +kernel) (by decide +kernel) (by decide +kernel) (by decide +kernel) rfl ?_
  rw [← ea4]
  refine lw_arg (pc' := 1042) C0 hl h3 (k := 5) (kz := 5) hL.2.1 ⟨by omega, hLL⟩ (by decide) (by decide +kernel) (by decide +kernel) (by decide +kernel) (by decide +kernel) (by decide +kernel) rfl ?_
  rw [← ea5]
  obtain ⟨S1, f1, f2, f3⟩ := c_copy hL.2.2.2.2.2.2.1 a1 a2 a3 a4 a5
  refine lw_call (pc := 1042) (t := 0) (T := TX11) (N := 14) (as := [.inl a1, .inl a2, .inl a3, .inl a4, .inl a5]) (v := .inl (s_copy w a1 a2 a3 a4 a5).1) (rest := []) hx hb hml hown hts hG.1 hL (ct_X11_copy l) (by unfold ce_wI; rw [f1]; rfl) (okT_cons (okT_cons (okT_cons (okT_cons (okT_cons okT_nil))))) rfl rfl (by rw [hL.2.2.2.2.1 0 (by decide)]; exact Nat.one_pos) rfl wd_788 wd_789 wd_790 wd_57 (by decide +kernel) (by decide) hl.1 (by decide) (by omega) (by omega) f2 (MR_mE2 hL.2.2.2.2.2.2.2.1 (mE2_of f3)) (by rw [hL.2.2.2.2.2.2.2.2.2.2.1]; rfl) (fun ad1 H1 locs1 hL1 => ?_)
  refine lv_aload_n hx hb (by decide +kernel : decode code 1045 = .ok (.aload_n 2, 1)) rfl (lv_at hl 3 rfl) ?_
  refine lw_arg (pc' := 1051) C0 hl h3 (k := 1) (kz := 1) hL1.2.1 ⟨by omega, hLL⟩ (by decide) (by decide +kernel) (by decide +kernel) (by decide +kernel) (by decide +kernel) (by decide +kernel) rfl ?_
  rw [← ea1]
  refine lw_arg (pc' := 1056) C0 hl h3 (k := 2) (kz := 2) hL1.2.1 ⟨by omega, hLL⟩ (by decide) (by decide +kernel) (by decide +kernel) (by decide +kernel) (by decide +kernel) (by decide +kernel) rfl ?_
  rw [← ea2]
  refine lw_arg (pc' := 1061) C0 hl h3 (k := 3) (kz := 3) hL1.2.1 ⟨by omega, hLL⟩ (by decide) (by decide +kernel) (by decide +kernel) (by decide +kernel) (by decide +kernel) (by decide +kernel) rfl ?_
  rw [← ea3]
  refine lw_arg (pc' := 1066) C0 hl h3 (k := 4) (kz := 4) hL1.2.1 ⟨by omega, hLL⟩ (by decide) (by decide +kernel) (by decide +kernel) (by decide +kernel) (by decide +kernel) (by decide +kernel) rfl ?_
  rw [← ea4]
  refine lw_arg (pc' := 1071) C0 hl h3 (k := 5) (kz := 5) hL1.2.1 ⟨by omega, hLL⟩ (by decide) (by decide +kernel) (by decide +kernel) (by decide +kernel) (by decide +kernel) (by decide +kernel) rfl ?_
  rw [← ea5]
  obtain ⟨S2, g1, g2, g3⟩ := m_copy hL1.2.2.2.2.2.2.2.1 a1 a2 a3 a4 a5
  refine lw_call (pc := 1071) (t := 20) (T := TX12) (N := 45) (as := [.inl a1, .inl a2, .inl a3, .inl a4, .inl a5]) (v := .inl (s_copy w a1 a2 a3 a4 a5).1) (rest := [.int (s_copy w a1 a2 a3 a4 a5).1]) hx hb hml hown hts hG.1 hL1 (ct_X12_copy l) (by unfold ce_wI; rw [g1]; rfl) (okT_cons (okT_cons (okT_cons (okT_cons (okT_cons okT_nil))))) rfl rfl hL1.2.2.2.2.2.1 rfl wd_1219 wd_1220 wd_1221 wd_75 (by decide +kernel) (by decide) hl.1 lw_cat (by omega) (by omega) (CR_cEq hL1.2.2.2.2.2.2.1 g3) g2 (by rw [hL1.2.2.2.2.2.2.2.2.2.2.2]; rfl) (fun ad2 H2 locs2 hL2 => ?_)
  refine lv_icmp_eq (off := 91) (tgt := 1165) hx hb (by decide +kernel) (by decide) (fun _ => ?_) (fun z => absurd rfl z)
  refine W.widen (k := cells + 3) (n := slots + 324) (by omega) (by omega) ?_
  exact kk _ _ _ _ _ hL2
set_option maxRecDepth 20000 in
theorem lwk_sellers {p : Program} {e : Env} {s : State} {m : MethodId} {below : List Frame} {meth : Method} {c : Code} {l : Launch} {b L : Nat} {xs : Nat → Int32} {D : va_G} {ca : Nat → ClassId} {qx qm : Nat} {ad : Nat → Nat → Nat} {S : ce_S} {H : Heap} {locs : List Loc} {w : sp_W} {cells slots i : Nat} {x3 : Int32} {ls : Array Slot} (C0 : lw_At p s m meth c b L xs) (hG : ce_GK D ca s) (hl : lv_has ls 4 [(3, .int x3), (0, .ref b), (1, .ref qx), (2, .ref qm)]) (h3 : x3 = nI (6 * i)) (hin : 6 * i + 6 ≤ L) (hLL : L ≤ 3072) (hce : cells + 3 ≤ 600000) (hsl : slots + 324 ≤ 7302250) (hL : LW D ca s qx qm ad S H locs w w)
    (kk : ∀ (w' : sp_W) (ad' : Nat → Nat → Nat) (S' : ce_S) (H' : Heap) (locs' : List Loc), LW D ca s qx qm ad' S' H' locs' w' w' → W p l e room_1 s m #[Value.ref b] below meth c H' locs' (cells + 3) (slots + 324) (lw_Z below #[Value.ref b] s) (F0 m 1165 ls [])) : W p l e room_1 s m #[Value.ref b] below meth c H locs cells slots (lw_Z below #[Value.ref b] s) (F0 m 1079 ls []) := by
  obtain ⟨hx, hb, hr, hml, hown, hts0, hX, hbl, hlocks, hgv⟩ := id C0
  have hts := lw_ts C0
  obtain ⟨a1, ea1⟩ : ∃ y, y = xs (6 * i + 1) := ⟨_, rfl⟩
  obtain ⟨a2, ea2⟩ : ∃ y, y = xs (6 * i + 2) := ⟨_, rfl⟩
  obtain ⟨a3, ea3⟩ : ∃ y, y = xs (6 * i + 3) := ⟨_, rfl⟩
  obtain ⟨a4, ea4⟩ : ∃ y, y = xs (6 * i + 4) := ⟨_, rfl⟩
  refine lv_aload_n hx hb (by decide +kernel : decode code 1079 = .ok (.aload_n 1, 1)) rfl (lv_at hl 2 rfl) ?_
  refine lw_arg (pc' := 1085) C0 hl h3 (k := 1) (kz := 1) hL.2.1 ⟨by omega, hLL⟩ (by decide) (by decide +kernel) (by decide +kernel) (by decide +kernel) (by decide +kernel) (by decide +kernel) rfl ?_
  rw [← ea1]
  refine lw_arg (pc' := 1090) C0 hl h3 (k := 2) (kz := 2) hL.2.1 ⟨by omega, hLL⟩ (by decide) (by decide +kernel) (by decide +kernel) (by decide +kernel) (by decide +kernel) (by decide +kernel) rfl ?_
  rw [← ea2]
  refine lw_arg (pc' := 1095) C0 hl h3 (k := 3) (kz := 3) hL.2.1 ⟨by omega, hLL⟩ (by decide) (by decide +kernel) (by decide +kernel) (by decide +kernel) (by decide +kernel) (by decide +kernel) rfl ?_
  rw [← ea3]
  refine lw_arg (pc' := 1100) C0 hl h3 (k := 4) (kz := 4) hL.2.1 ⟨by omega, hLL⟩ (by decide) (by decide +kernel) (by decide +kernel) (by decide +kernel) (by decide +kernel) (by decide +kernel) rfl ?_
  rw [← ea4]
  obtain ⟨S1, f1, f2, f3⟩ := c_sellers hL.2.2.2.2.2.2.1 a1 a2 a3 a4
  refine lw_call (pc := 1100) (t := 0) (T := TX11) (N := 14) (as := [.inl a1, .inl a2, .inl a3, .inl a4]) (v := .inl (s_sellers w a1 a2 a3 a4).1) (rest := []) hx hb hml hown hts hG.1 hL (ct_X11_sellers l) (by unfold ce_wI; rw [f1]; rfl) (okT_cons (okT_cons (okT_cons (okT_cons okT_nil)))) rfl rfl (by rw [hL.2.2.2.2.1 0 (by decide)]; exact Nat.one_pos) rfl wd_797 wd_798 wd_799 wd_57 (by decide +kernel) (by decide) hl.1 (by decide) (by omega) (by omega) f2 (MR_mE2 hL.2.2.2.2.2.2.2.1 (mE2_of f3)) (by rw [hL.2.2.2.2.2.2.2.2.2.2.1]; rfl) (fun ad1 H1 locs1 hL1 => ?_)
  refine lv_aload_n hx hb (by decide +kernel : decode code 1103 = .ok (.aload_n 2, 1)) rfl (lv_at hl 3 rfl) ?_
  refine lw_arg (pc' := 1109) C0 hl h3 (k := 1) (kz := 1) hL1.2.1 ⟨by omega, hLL⟩ (by decide) (by decide +kernel) (by decide +kernel) (by decide +kernel) (by decide +kernel) (by decide +kernel) rfl ?_
  rw [← ea1]
  refine lw_arg (pc' := 1114) C0 hl h3 (k := 2) (kz := 2) hL1.2.1 ⟨by omega, hLL⟩ (by decide) (by decide +kernel) (by decide +kernel) (by decide +kernel) (by decide +kernel) (by decide +kernel) rfl ?_
  rw [← ea2]
  refine lw_arg (pc' := 1119) C0 hl h3 (k := 3) (kz := 3) hL1.2.1 ⟨by omega, hLL⟩ (by decide) (by decide +kernel) (by decide +kernel) (by decide +kernel) (by decide +kernel) (by decide +kernel) rfl ?_
  rw [← ea3]
  refine lw_arg (pc' := 1124) C0 hl h3 (k := 4) (kz := 4) hL1.2.1 ⟨by omega, hLL⟩ (by decide) (by decide +kernel) (by decide +kernel) (by decide +kernel) (by decide +kernel) (by decide +kernel) rfl ?_
  rw [← ea4]
  obtain ⟨S2, g1, g2, g3⟩ := m_sellers hL1.2.2.2.2.2.2.2.1 a1 a2 a3 a4
  refine lw_call (pc := 1124) (t := 20) (T := TX12) (N := 45) (as := [.inl a1, .inl a2, .inl a3, .inl a4]) (v := .inl (s_sellers w a1 a2 a3 a4).1) (rest := [.int (s_sellers w a1 a2 a3 a4).1]) hx hb hml hown hts hG.1 hL1 (ct_X12_sellers l) (by unfold ce_wI; rw [g1]; rfl) (okT_cons (okT_cons (okT_cons (okT_cons okT_nil)))) rfl rfl hL1.2.2.2.2.2.1 rfl wd_1227 wd_1228 wd_1229 wd_75 (by decide +kernel) (by decide) hl.1 lw_cat (by omega) (by omega) (CR_cEq hL1.2.2.2.2.2.2.1 g3) g2 (by rw [hL1.2.2.2.2.2.2.2.2.2.2.2]; rfl) (fun ad2 H2 locs2 hL2 => ?_)
  refine lv_icmp_eq (off := 38) (tgt := 1165) hx hb (by decide +kernel) (by decide) (fun _ => ?_) (fun z => absurd rfl z)
  refine W.widen (k := cells + 3) (n := slots + 324) (by omega) (by omega) ?_
  exact kk _ _ _ _ _ hL2
set_option maxRecDepth 20000 in
theorem lwk_taken {p : Program} {e : Env} {s : State} {m : MethodId} {below : List Frame} {meth : Method} {c : Code} {l : Launch} {b L : Nat} {xs : Nat → Int32} {D : va_G} {ca : Nat → ClassId} {qx qm : Nat} {ad : Nat → Nat → Nat} {S : ce_S} {H : Heap} {locs : List Loc} {w : sp_W} {cells slots i : Nat} {x3 : Int32} {ls : Array Slot} (C0 : lw_At p s m meth c b L xs) (hG : ce_GK D ca s) (hl : lv_has ls 4 [(3, .int x3), (0, .ref b), (1, .ref qx), (2, .ref qm)]) (h3 : x3 = nI (6 * i)) (hin : 6 * i + 6 ≤ L) (hLL : L ≤ 3072) (hce : cells + 3 ≤ 600000) (hsl : slots + 324 ≤ 7302250) (hL : LW D ca s qx qm ad S H locs w w)
    (kk : ∀ (w' : sp_W) (ad' : Nat → Nat → Nat) (S' : ce_S) (H' : Heap) (locs' : List Loc), LW D ca s qx qm ad' S' H' locs' w' w' → W p l e room_1 s m #[Value.ref b] below meth c H' locs' (cells + 3) (slots + 324) (lw_Z below #[Value.ref b] s) (F0 m 1165 ls [])) : W p l e room_1 s m #[Value.ref b] below meth c H locs cells slots (lw_Z below #[Value.ref b] s) (F0 m 1132 ls []) := by
  obtain ⟨hx, hb, hr, hml, hown, hts0, hX, hbl, hlocks, hgv⟩ := id C0
  have hts := lw_ts C0
  obtain ⟨a1, ea1⟩ : ∃ y, y = xs (6 * i + 1) := ⟨_, rfl⟩
  obtain ⟨a2, ea2⟩ : ∃ y, y = xs (6 * i + 2) := ⟨_, rfl⟩
  refine lv_aload_n hx hb (by decide +kernel : decode code 1132 = .ok (.aload_n 1, 1)) rfl (lv_at hl 2 rfl) ?_
  refine lw_arg (pc' := 1138) C0 hl h3 (k := 1) (kz := 1) hL.2.1 ⟨by omega, hLL⟩ (by decide) (by decide +kernel) (by decide +kernel) (by decide +kernel) (by decide +kernel) (by decide +kernel) rfl ?_
  rw [← ea1]
  refine lw_arg (pc' := 1143) C0 hl h3 (k := 2) (kz := 2) hL.2.1 ⟨by omega, hLL⟩ (by decide) (by decide +kernel) (by decide +kernel) (by decide +kernel) (by decide +kernel) (by decide +kernel) rfl ?_
  rw [← ea2]
  have f1 := c_taken hL.2.2.2.2.2.2.1 (fun i hi => (hL.2.2.2.2.2.2.2.1.2 i hi).2.1) a1 a2
  refine lw_call (pc := 1143) (t := 0) (T := TX11) (N := 14) (as := [.inl a1, .inl a2]) (v := .inl (s_taken w a1 a2)) (rest := []) hx hb hml hown hts hG.1 hL (ct_X11_taken l) (by unfold ce_wI; rw [f1]; rfl) (okT_cons (okT_cons okT_nil)) rfl rfl (by rw [hL.2.2.2.2.1 0 (by decide)]; exact Nat.one_pos) rfl wd_801 wd_802 wd_803 wd_57 (by decide +kernel) (by decide) hl.1 (by decide) (by omega) (by omega) hL.2.2.2.2.2.2.1 hL.2.2.2.2.2.2.2.1 (by rw [hL.2.2.2.2.2.2.2.2.2.2.1]; rfl) (fun ad1 H1 locs1 hL1 => ?_)
  refine lv_aload_n hx hb (by decide +kernel : decode code 1146 = .ok (.aload_n 2, 1)) rfl (lv_at hl 3 rfl) ?_
  refine lw_arg (pc' := 1152) C0 hl h3 (k := 1) (kz := 1) hL1.2.1 ⟨by omega, hLL⟩ (by decide) (by decide +kernel) (by decide +kernel) (by decide +kernel) (by decide +kernel) (by decide +kernel) rfl ?_
  rw [← ea1]
  refine lw_arg (pc' := 1157) C0 hl h3 (k := 2) (kz := 2) hL1.2.1 ⟨by omega, hLL⟩ (by decide) (by decide +kernel) (by decide +kernel) (by decide +kernel) (by decide +kernel) (by decide +kernel) rfl ?_
  rw [← ea2]
  have g1 := m_taken hL1.2.2.2.2.2.2.2.1 a1 a2
  refine lw_call (pc := 1157) (t := 20) (T := TX12) (N := 45) (as := [.inl a1, .inl a2]) (v := .inl (s_taken w a1 a2)) (rest := [.int (s_taken w a1 a2)]) hx hb hml hown hts hG.1 hL1 (ct_X12_taken l) (by unfold ce_wI; rw [g1]; rfl) (okT_cons (okT_cons okT_nil)) rfl rfl hL1.2.2.2.2.2.1 rfl wd_1078 wd_1079 wd_1080 wd_75 (by decide +kernel) (by decide) hl.1 lw_cat (by omega) (by omega) hL1.2.2.2.2.2.2.1 hL1.2.2.2.2.2.2.2.1 (by rw [hL1.2.2.2.2.2.2.2.2.2.2.2]; rfl) (fun ad2 H2 locs2 hL2 => ?_)
  refine lv_icmp_eq (off := 5) (tgt := 1165) hx hb (by decide +kernel) (by decide) (fun _ => ?_) (fun z => absurd rfl z)
  refine W.widen (k := cells + 3) (n := slots + 324) (by omega) (by omega) ?_
  exact kk _ _ _ _ _ hL2
