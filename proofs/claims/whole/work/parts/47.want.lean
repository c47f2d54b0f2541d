/-! what is asked, method by method -/
abbrev isS (w : sp_W) (x : Int32) : Prop := 0 ≤ x ∧ x < nI (w_n w)
abbrev isR (a p : Int32) : Prop := (0 ≤ a ∧ a ≤ 1999) ∧ 0 ≤ p ∧ p ≤ 10
abbrev is4 (x : Int32) : Prop := 0 ≤ x ∧ x < 4
abbrev isB (x : Int32) : Prop := 0 ≤ x ∧ x ≤ 1999
def w_sel (w : sp_W) (x : Int32) : sp_R := w_r w x.toNatClampNeg
def w_set (w : sp_W) (i : Nat) (r : sp_R) : sp_W := ((w_n w, w_put (w_r w) i r), w.2)
def w_add (w : sp_W) (r : sp_R) : sp_W := ((w_n w + 1, w_put (w_r w) (w_n w) r), w.2)
def w_setc (w : sp_W) (c : sp_C) : sp_W := (w.1, c, w.2.2)
def w_setp (w : sp_W) (p : List Int32) : sp_W := (w.1, w.2.1, w.2.2.1, p, w.2.2.2.2)
def w_seth (w : sp_W) (h : Nat → sp_H) : sp_W := (w.1, w.2.1, w.2.2.1, w.2.2.2.1, h, w.2.2.2.2.2)
def w_seti (w : sp_W) (v : Option (Nat × (Nat → sp_R) × sp_C)) : sp_W := (w.1, w.2.1, w.2.2.1, w.2.2.2.1, w.2.2.2.2.1, v)
def w_addt (w : sp_W) (t : sp_T) : sp_W := (w.1, w.2.1, (w_nt w + 1, fun k => if k = w_nt w then t else w_tx w k), [], w.2.2.2.2)
def s_comes (w : sp_W) (k what : Int32) : Int32 × sp_W :=
  if (0 ≤ k ∧ k < 6) ∧ 0 ≤ what ∧ what ≤ 9999 then (if w_n w = 6 then (-4, w) else (nI (w_n w), w_add w (sp_beg (w_E w) (k.toNatClampNeg, what / 10, what - what / 10 * 10, 0, 0, 0, -1)))) else (-2, w)
def sp_wc (r : sp_R) (c : Int32) : sp_R := (sp_k r, c, sp_nu r, sp_sa r, sp_cu r, sp_st r, sp_pr r)
def s_set (w : sp_W) (what of v : Int32) : Int32 × sp_W :=
  if what = 3 then (if isS w of ∧ 0 ≤ v ∧ v ≤ 999 then (sp_co (w_sel w of), w_set w of.toNatClampNeg (sp_beg (w_E w) (sp_wc (w_sel w of) v))) else (-2, w))
  else if what = 0 then (if 0 ≤ v ∧ v ≤ 9 then (w_sh w, w_setc w (w_ru w, v, w_ho w, w_li w)) else (-2, w))
  else if what = 1 then (if 0 ≤ v ∧ v ≤ 23 then (w_ho w, w_setc w (w_ru w, w_sh w, v, w_li w)) else (-2, w))
  else if what = 2 then (if 0 ≤ v ∧ v ≤ 1999 then (w_li w, w_setc w (w_ru w, w_sh w, w_ho w, v)) else (-2, w))
  else (-2, w)
def s_anew (w : sp_W) (s : Int32) : Int32 × sp_W := if isS w s then (sp_sa (sp_beg (w_E w) (w_sel w s)), w_set w s.toNatClampNeg (sp_beg (w_E w) (w_sel w s))) else (-2, w)
def s_told (w : sp_W) (s x : Int32) : Int32 := if isS w s then
    (if x = 0 then nI (sp_k (w_sel w s)) else if x = 1 then sp_co (w_sel w s) else if x = 2 then sp_nu (w_sel w s) else if x = 3 then sp_sa (w_sel w s) else if x = 4 then sp_cu (w_sel w s) else if x = 5 then sp_st (w_sel w s) else if x = 6 then sp_pr (w_sel w s) else if x = 7 then sp_lea (w_E w) (w_sel w s) 0 else if x = 8 then sp_stays (sp_k (w_sel w s)) (sp_nu (w_sel w s)) else -2) else -2
def s_feed (w : sp_W) (x : Int32) : Int32 × sp_W := if 0 ≤ x ∧ x ≤ 255 then (if (w_p w).length = 160 then (-4, w) else (nI ((w_p w).length + 1), w_setp w (w_p w ++ [x]))) else (-2, w)
def s_force (w : sp_W) (t : Int32) : Int32 × sp_W := if 0 ≤ t ∧ t < nI (w_nt w) then (nI (w_ru w), w_setc w (t.toNatClampNeg, w_sh w, w_ho w, w_li w)) else (-2, w)
def s_word (w : sp_W) (s bid : Int32) : Int32 × sp_W := if isS w s ∧ isB bid then (if sp_st (w_sel w s) = 0 then (sp_st (sp_hea (w_E w) (w_sel w s) bid), w_set w s.toNatClampNeg (sp_hea (w_E w) (w_sel w s) bid)) else (-3, w)) else (-2, w)
def s_agree (w : sp_W) (s : Int32) : Int32 × sp_W := if isS w s then (if sp_st (w_sel w s) = 0 then (sp_sa (w_sel w s), w_set w s.toNatClampNeg (sp_sell (w_sel w s) (sp_sa (w_sel w s)))) else (-3, w)) else (-2, w)
def sp_what (x : Int32) (r : sp_R) : Int32 := if x = 0 then sp_st r else if x = 1 then sp_pr r else sp_cu r
def s_rule (w : sp_W) (s a p x : Int32) : Int32 := if isS w s ∧ isR a p ∧ 0 ≤ x ∧ x ≤ 2 then sp_what x (sp_go (w_E w) (w_sel w s) a p) else -2
abbrev sp_B : Type := Option (Int32 × Int32 × Int32)
/-- a better end by rule -/
def sp_bet (acc : sp_B) (r : sp_R) (v : Int32) : sp_B := if sp_st r = 1 then (match acc with
    | none => some (v, sp_pr r, sp_cu r)
    | some b => if sp_pr r < b.2.1 ∨ (sp_pr r = b.2.1 ∧ sp_cu r < b.2.2) then some (v, sp_pr r, sp_cu r) else acc) else acc
def sp_brp (E : sp_E) (r : sp_R) (a : Int32) : Nat → sp_B → sp_B
  | 0, acc => acc
  | m + 1, acc => sp_brp E r a m (sp_bet acc (sp_go E r a (nI (10 - m))) (100 * a + nI (10 - m)))
def sp_bra (E : sp_E) (r : sp_R) : Nat → sp_B → sp_B
  | 0, acc => acc
  | m + 1, acc => sp_bra E r m (sp_brp E r (nI (20 * (20 - m))) 11 acc)
def sp_3 (x : Int32) (b : sp_B) : Int32 := match b with
  | none => -1
  | some v => if x = 0 then v.1 else if x = 1 then v.2.1 else v.2.2
def s_bestRule (w : sp_W) (s x : Int32) : Int32 := if isS w s ∧ 0 ≤ x ∧ x ≤ 2 then (if sp_st (w_sel w s) = 0 then sp_3 x (sp_bra (w_E w) (w_sel w s) 21 none) else -1) else -2
abbrev sp_D : Type := Option (Int32 × Int32)
def sp_bed (acc : sp_D) (r : sp_R) (v : Int32) : sp_D := if sp_st r = 1 then (match acc with
    | none => some (v, sp_pr r)
    | some b => if sp_pr r < b.2 then some (v, sp_pr r) else acc) else acc
def sp_1 (b : sp_D) : Int32 := match b with
  | none => -1
  | some v => v.1
def sp_Ew (E : sp_E) (x v : Int32) : sp_E := if x = 0 then (E.1, v, E.2.2.1, E.2.2.2) else (E.1, E.2.1, v, E.2.2.2)
def sp_bat (E : sp_E) (r : sp_R) (a p x : Int32) (N : Nat) : Nat → sp_D → sp_D
  | 0, acc => acc
  | m + 1, acc => sp_bat E r a p x N m (sp_bed acc (sp_go (sp_Ew E x (nI (N - (m + 1)))) (sp_beg (sp_Ew E x (nI (N - (m + 1)))) r) a p) (nI (N - (m + 1))))
def s_bestAt (w : sp_W) (s a p x : Int32) : Int32 := if isS w s ∧ isR a p ∧ 0 ≤ x ∧ x ≤ 1 then sp_1 (sp_bat (w_E w) (w_sel w s) a p x (if x = 0 then 10 else 24) (if x = 0 then 10 else 24) none) else -2
def sp_who (E : sp_E) (f : Nat → sp_R) (a p : Int32) (N : Nat) : Nat → sp_D → sp_D
  | 0, acc => acc
  | m + 1, acc => sp_who E f a p N m (if sp_st (f (N - (m + 1))) = 0 then sp_bed acc (sp_go E (f (N - (m + 1))) a p) (nI (N - (m + 1))) else acc)
def s_whom (w : sp_W) (a p : Int32) : Int32 := if isR a p then sp_1 (sp_who (w_E w) (w_r w) a p (w_n w) (w_n w) none) else -2
/-- all in turn: the price, the words -/
def sp_all (E : sp_E) (f : Nat → sp_R) (a p : Int32) (N : Nat) : Nat → Int32 × Int32 → Int32 × Int32
  | 0, acc => acc
  | m + 1, acc => if acc.1 = -1 then sp_all E f a p N m (if sp_st (f (N - (m + 1))) = 0 then (sp_pr (sp_go E (f (N - (m + 1))) a p), acc.2 + (sp_cu (sp_go E (f (N - (m + 1))) a p) - sp_cu (f (N - (m + 1))))) else acc) else acc
def s_all (w : sp_W) (a p x : Int32) : Int32 := if isR a p ∧ 0 ≤ x ∧ x ≤ 1 then (if x = 0 then (sp_all (w_E w) (w_r w) a p (w_n w) (w_n w) (-1, 0)).1 else (sp_all (w_E w) (w_r w) a p (w_n w) (w_n w) (-1, 0)).2) else -2
/-- the rows of a sheet, from pair j on, so many -/
def sp_so (E : sp_E) (g : Nat → Int32) (N : Nat) : Nat → sp_R → Bool
  | 0, _ => true
  | m + 1, r => if isB (g (2 * (N - (m + 1)))) then (if sp_st (sp_hea E r (g (2 * (N - (m + 1))))) = 0 ∧ sp_sa (sp_hea E r (g (2 * (N - (m + 1))))) = g (2 * (N - (m + 1)) + 1) then sp_so E g N m (sp_hea E r (g (2 * (N - (m + 1))))) else false) else false
/-- costs that would say so: how many, the least, the greatest -/
def sp_his (E : sp_E) (r : sp_R) (g : Nat → Int32) (N : Nat) : Nat → Int32 × Int32 × Int32 → Int32 × Int32 × Int32
  | 0, acc => acc
  | m + 1, acc => sp_his E r g N m (if sp_so E g N N (sp_beg E (sp_wc r (nI (999 - m)))) = true then (acc.1 + 1, (if acc.2.1 = -1 then nI (999 - m) else acc.2.1), nI (999 - m)) else acc)
def sp_t3 (x : Int32) (v : Int32 × Int32 × Int32) : Int32 := if x = 0 then v.1 else if x = 1 then v.2.1 else v.2.2
def w_sheet (w : sp_W) (x : Int32) : sp_H := w_h w x.toNatClampNeg
def s_hisCost (w : sp_W) (s h x : Int32) : Int32 := if isS w s ∧ is4 h ∧ 0 ≤ x ∧ x ≤ 2 then (if (w_sheet w h).1 = -1 then -11 else if (w_sheet w h).2.1 % 2 = 1 then -2 else sp_t3 x (sp_his (w_E w) (w_sel w s) (w_sheet w h).2.2 ((w_sheet w h).2.1 / 2) 1000 (0, -1, -1))) else -2
def sp_wk (r : sp_R) (k : Nat) : sp_R := (k, sp_co r, sp_nu r, sp_sa r, sp_cu r, sp_st r, sp_pr r)
def s_slipped (w : sp_W) (s a p : Int32) : Int32 := if isS w s ∧ isR a p then sp_pr (sp_go (w_E w) (sp_beg (w_E w) (sp_wk (w_sel w s) 3)) a p) else -2
/-- whether one of the crowd has hope -/
def sp_hop (E : sp_E) (f : Nat → sp_R) (N : Nat) : Nat → Bool
  | 0 => false
  | m + 1 => if sp_st (f (N - (m + 1))) = 0 ∧ sp_lea E (f (N - (m + 1))) 0 ≤ E.2.2.2 then true else sp_hop E f N m
/-- one buyer goes round: the price or -1, and the crowd -/
def sp_buy (E : sp_E) (a p : Int32) (N : Nat) : Nat → (Nat → sp_R) → Int32 × (Nat → sp_R)
  | 0, f => (-1, f)
  | m + 1, f => if sp_st (f (N - (m + 1))) = 0 then (if sp_st (sp_go E (f (N - (m + 1))) a p) = 1 then (sp_pr (sp_go E (f (N - (m + 1))) a p), w_put f (N - (m + 1)) (sp_go E (f (N - (m + 1))) a p)) else sp_buy E a p N m (w_put f (N - (m + 1)) (sp_go E (f (N - (m + 1))) a p))) else sp_buy E a p N m f
def sp_El (E : sp_E) (v : Int32) : sp_E := (E.1, E.2.1, E.2.2.1, v)
def sp_mkt (E : sp_E) (n : Nat) (g : Nat → Int32) (a p : Int32) (N : Nat) : Nat → (Nat → sp_R) → Int32 × Int32 × Int32 → Int32 × Int32 × Int32
  | 0, _, acc => acc
  | m + 1, f, acc => sp_mkt E n g a p N m (sp_buy (sp_El E (sp_cl 0 1999 (g (N - (m + 1))))) a p n n f).2
      (if (sp_buy (sp_El E (sp_cl 0 1999 (g (N - (m + 1))))) a p n n f).1 = -1 then (if sp_hop (sp_El E (sp_cl 0 1999 (g (N - (m + 1))))) f n n = true then (acc.1, acc.2.1, acc.2.2 + 1) else acc)
       else (acc.1 + 1, acc.2.1 + (sp_buy (sp_El E (sp_cl 0 1999 (g (N - (m + 1))))) a p n n f).1, acc.2.2))
def s_market (w : sp_W) (h a p x : Int32) : Int32 := if is4 h ∧ isR a p ∧ 0 ≤ x ∧ x ≤ 2 then (if (w_sheet w h).1 = -1 then -11 else sp_t3 x (sp_mkt (w_E w) (w_n w) (w_sheet w h).2.2 a p (w_sheet w h).2.1 (w_sheet w h).2.1 (w_r w) (0, 0, 0))) else -2
def sp_jud (E : sp_E) (g : Nat → Int32) (N : Nat) : Nat → sp_R → Int32
  | 0, _ => -1
  | m + 1, r => if sp_st r = 0 ∧ isB (g (N - (m + 1))) then sp_jud E g N m (sp_hea E r (g (N - (m + 1)))) else nI (N - (m + 1))
def s_judge (w : sp_W) (s h : Int32) : Int32 := if isS w s ∧ is4 h then (if (w_sheet w h).1 = -1 then -11 else sp_jud (w_E w) (w_sheet w h).2.2 (w_sheet w h).2.1 (w_sheet w h).2.1 (w_sel w s)) else -2
def s_drawn (w : sp_W) (s seed : Int32) : Int32 := if isS w s then sp_dr (w_E w) (w_sel w s) seed else -2
def sp_odd (E : sp_E) (r : sp_R) (seed : Int32) (N : Nat) : Nat → Nat → Nat
  | 0, acc => acc
  | m + 1, acc => sp_odd E r seed N m (if sp_dr E r (seed + nI (N - (m + 1))) = 1 then acc + 1 else acc)
def s_odds (w : sp_W) (s seed many part : Int32) : Int64 := if isS w s ∧ (1 ≤ many ∧ many ≤ 30) ∧ 0 ≤ part ∧ part ≤ 1 then
    (if part = 0 then (nI (sp_odd (w_E w) (w_sel w s) seed many.toNatClampNeg many.toNatClampNeg 0 / Nat.gcd (sp_odd (w_E w) (w_sel w s) seed many.toNatClampNeg many.toNatClampNeg 0) many.toNatClampNeg)).toInt64 else (nI (many.toNatClampNeg / Nat.gcd (sp_odd (w_E w) (w_sel w s) seed many.toNatClampNeg many.toNatClampNeg 0) many.toNatClampNeg)).toInt64) else -4611686018427387904
/-- how many stand so -/
def sp_hm (f : Nat → sp_R) (how : Int32) (N : Nat) : Nat → Int32 → Int32
  | 0, acc => acc
  | m + 1, acc => sp_hm f how N m (if sp_st (f (N - (m + 1))) = how then acc + 1 else acc)
def s_many (w : sp_W) (how : Int32) : Int32 := sp_hm (w_r w) how (w_n w) (w_n w) 0
def s_image (w : sp_W) : Int32 × sp_W := (s_many w 0, w_seti w (some (w_n w, w_r w, w_c w)))
def sp_talk (r r' : sp_R) : sp_R := (sp_k r, sp_co r, sp_nu r, sp_sa r', sp_cu r', sp_st r', sp_pr r')
def s_back (w : sp_W) : Int32 × sp_W := match w_i w with
  | none => (-3, w)
  | some (m, f, c) => (s_many ((w_n w, fun i => if i < m then sp_talk (w_r w i) (f i) else w_r w i), c, w.2.2) 0, ((w_n w, fun i => if i < m then sp_talk (w_r w i) (f i) else w_r w i), c, w.2.2))
def s_count (w : sp_W) (x : Int32) : Int32 := if x = 0 then nI (w_n w) else if x = 1 then s_many w 0 else if x = 2 then s_many w 1 else if x = 3 then w_sh w else if x = 4 then w_ho w else if x = 5 then w_li w else if x = 6 then nI (w_nt w) else if x = 7 then nI (w_p w).length else if x = 8 then nI (w_ru w) else -2
def w_hput (w : sp_W) (i : Nat) (v : sp_H) : sp_W := w_seth w (fun i' => if i' = i then v else w_h w i')
def s_sheet (w : sp_W) (h sort n : Int32) : Int32 × sp_W := if is4 h ∧ -1 ≤ sort ∧ sort ≤ 2 then (if sort = -1 then (1, w_hput w h.toNatClampNeg (-1, 0, fun _ => 0)) else if 40 < n then (-2, w) else if n < 0 then (-14, w) else (1, w_hput w h.toNatClampNeg (sort, n.toNatClampNeg, fun _ => 0))) else (-2, w)
def sp_fit (sort v : Int32) : Int32 := if sort = 0 then v.toInt8.toInt32 else if sort = 1 then v.toInt16.toInt32 else v
def s_cell (w : sp_W) (h i v : Int32) : Int32 × sp_W := if is4 h then (if (w_sheet w h).1 = -1 then (-11, w) else if 0 ≤ i ∧ i < nI (w_sheet w h).2.1 then (1, w_hput w h.toNatClampNeg ((w_sheet w h).1, (w_sheet w h).2.1, fun e => if e = i.toNatClampNeg then sp_fit (w_sheet w h).1 v else (w_sheet w h).2.2 e)) else (-12, w)) else (-2, w)
def s_copy (w : sp_W) (h i o j n : Int32) : Int32 × sp_W := if is4 h ∧ is4 o then (if (w_sheet w h).1 = -1 ∨ (w_sheet w o).1 = -1 then (-11, w) else if (w_sheet w h).1 ≠ (w_sheet w o).1 then (-13, w) else if (0 ≤ n ∧ 0 ≤ i ∧ 0 ≤ j) ∧ i.toNatClampNeg + n.toNatClampNeg ≤ (w_sheet w h).2.1 ∧ j.toNatClampNeg + n.toNatClampNeg ≤ (w_sheet w o).2.1 then (n, w_hput w o.toNatClampNeg ((w_sheet w o).1, (w_sheet w o).2.1, fun e => if j.toNatClampNeg ≤ e ∧ e < j.toNatClampNeg + n.toNatClampNeg then (w_sheet w h).2.2 (i.toNatClampNeg + (e - j.toNatClampNeg)) else (w_sheet w o).2.2 e)) else (-12, w)) else (-2, w)
/-- sellers come from a sheet's rows: the answer, the state -/
def sp_sel (H : sp_H) (fr : Int32) (N : Nat) : Nat → Int32 → sp_W → Int32 × sp_W
  | 0, acc, w => (acc, w)
  | m + 1, acc, w => if 0 ≤ fr ∧ fr.toNatClampNeg + 2 * (N - (m + 1)) + 1 < H.2.1 then sp_sel H fr N m (if 0 ≤ (s_comes w (H.2.2 (fr.toNatClampNeg + 2 * (N - (m + 1)))) (H.2.2 (fr.toNatClampNeg + 2 * (N - (m + 1)) + 1))).1 then acc + 1 else acc) (s_comes w (H.2.2 (fr.toNatClampNeg + 2 * (N - (m + 1)))) (H.2.2 (fr.toNatClampNeg + 2 * (N - (m + 1)) + 1))).2 else (-12, w)
def s_sellers (w : sp_W) (h sort fr n : Int32) : Int32 × sp_W := if is4 h ∧ (0 ≤ sort ∧ sort ≤ 2) ∧ 0 ≤ n ∧ n ≤ 6 then (if (w_sheet w h).1 = -1 then (-11, w) else if (w_sheet w h).1 ≠ sort then (-13, w) else sp_sel (w_sheet w h) fr n.toNatClampNeg n.toNatClampNeg 0 w) else (-2, w)
def sp_und (kind : Nat) (k : Int32) : Bool := decide (nI kind = k) || decide (k = 0) || (decide (k = 1) && decide (3 < kind)) || (decide (k = 2) && decide (kind = 3))
def s_taken (w : sp_W) (s k : Int32) : Int32 := if 0 ≤ k ∧ k ≤ 5 then (if isS w s then (if sp_und (sp_k (w_sel w s)) k = true then sp_nu (w_sel w s) else -13) else -11) else -2
