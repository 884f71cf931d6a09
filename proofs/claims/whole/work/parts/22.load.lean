/-! SelfIndexImage: writing, words, drawing, reading, loading. Written by wip/draft/p22.py -/

set_option maxHeartbeats 4000000 in
set_option maxRecDepth 100000 in
/-- write -/
theorem cX_write (l : Launch) (g : si_G) (x0 xw xp xd xe xb xl xt : Nat) (xwa : Nat) (f : Nat → Int32) (sz : Nat) (q : Int32) (hsz : sz ≤ 60) : si_Mi (S := (Nat → Int32) × Nat) l g vwCl zyX_write zwX_write ({ frames := 1, cells := 0, slots := 0, locals := 21 } : Room) [.ref x0, .int q] [(x0, .inr (5, [.ref xw, .ref xp, .ref xd, .ref xe, .ref xb, .ref xl, .ref xt])), (xw, .inr (2, [.ref xwa, .int (nI sz)])), (xwa, .inl (g.2.1, 60, .inl f))] (fun r u => r = nI (decide (si_ch q ∧ sz < 60)).toNat ∧ (decide (si_ch q ∧ sz < 60) = true → u.1 = upd f sz q ∧ u.2 = sz + 1) ∧ (decide (si_ch q ∧ sz < 60) = false → u.1 = f ∧ u.2 = sz)) (fun u => [(x0, .inr (5, [.ref xw, .ref xp, .ref xd, .ref xe, .ref xb, .ref xl, .ref xt])), (xw, .inr (2, [.ref xwa, .int (nI u.2)])), (xwa, .inl (g.2.1, 60, .inl u.1))]) := by
  refine si_Mi.of (cc := zkX_write) (maxL := 2) (by decide) rfl (Nat.le_of_ble_eq_true rfl) ?_
  intro p e s m args below meth c A Q ls hF0 hin hK hN hP hD hA hS hl hret
  obtain ⟨hx, hb, hml, hown, hts0⟩ := hF0
  have hts : ∀ w ∈ si_tbl, w.before args s = true := fun w hw => hts0 w (List.mem_cons_of_mem _ hw)
  have hF : CallFix p m c zkX_write 2 s args si_tbl zRX := ⟨hx, hb, hml, hown, hts⟩
  have hl : lv_has ls 2 [(0, .ref x0), (1, .int q)] := hl
  refine lv_aload_n hx hb zdX_write_0 rfl (lv_at hl 0 rfl) ?_
  refine va_get (D := g.1) (ci := 5) (v := .ref xw) (C := zRX) (T := zTX) (N := 7) hx hb hts ziX hown hK hP 0 rfl rfl 0 (by decide) (hts _ zlX_14) (fun _ h => h) rfl zdX_write_1 ?_
  refine lv_iload_n hx hb zdX_write_4 rfl (lv_at hl 1 rfl) ?_
  refine (cL_add l g xw xwa 60 sz f q (by decide) hsz).callV (wr := [(x0, .inr (5, [.ref xw, .ref xp, .ref xd, .ref xe, .ref xb, .ref xl, .ref xt]))]) (As := [.int q]) (rest := []) hF (si_cV 1 hts zcL_add zlX_48 zimL_add zseL_add ziniL zhL_add ⟨Nat.le_of_ble_eq_true rfl, Nat.le_of_ble_eq_true rfl⟩) hK hN hP hD hS hA [1, 2] [0] rfl rfl (by decide) (by decide) (va_recv (q := (zRL, zTL, 2)) hK hP (ci := 2) (q0 := 1) rfl rfl) rfl hl.1 rfl (Nat.le_of_ble_eq_true rfl) zdX_write_5 ⟨Nat.le_of_ble_eq_true rfl, Nat.le_of_ble_eq_true rfl⟩ rfl rfl (fun r_ u_ H locs hq_ hP hD hS => ?_)
  obtain ⟨f2, z2⟩ := u_
  obtain ⟨hq, hq2⟩ := hq_
  subst hq
  have hP : va_P g.1 vwCl [(x0, .inr (5, [.ref xw, .ref xp, .ref xd, .ref xe, .ref xb, .ref xl, .ref xt])), (xw, .inr (2, [.ref xwa, .int (nI z2)])), (xwa, .inl (g.2.1, 60, .inl f2))] H := hP
  have hD : va_D A [(x0, .inr (5, [.ref xw, .ref xp, .ref xd, .ref xe, .ref xb, .ref xl, .ref xt])), (xw, .inr (2, [.ref xwa, .int (nI z2)])), (xwa, .inl (g.2.1, 60, .inl f2))] := hD
  exact hret (nI ((decide (si_ch q ∧ sz < 60)).toNat)) (f2, z2) _ _ _ _ (si_nb _) (⟨rfl, hq2⟩) (hP.sub [0, 1, 2] rfl) (hD.sub [0, 1, 2] (by decide) rfl) hS zdX_write_8

set_option maxHeartbeats 4000000 in
set_option maxRecDepth 100000 in
/-- ask -/
theorem cX_ask (l : Launch) (g : si_G) (x0 xw xp xd xe xb xl xt : Nat) (xpa : Nat) (f : Nat → Int32) (sz : Nat) (q : Int32) (hsz : sz ≤ 20) : si_Mi (S := (Nat → Int32) × Nat) l g vwCl zyX_ask zwX_ask ({ frames := 1, cells := 0, slots := 0, locals := 21 } : Room) [.ref x0, .int q] [(x0, .inr (5, [.ref xw, .ref xp, .ref xd, .ref xe, .ref xb, .ref xl, .ref xt])), (xp, .inr (2, [.ref xpa, .int (nI sz)])), (xpa, .inl (g.2.1, 20, .inl f))] (fun r u => r = nI (decide (si_ch q ∧ sz < 20)).toNat ∧ (decide (si_ch q ∧ sz < 20) = true → u.1 = upd f sz q ∧ u.2 = sz + 1) ∧ (decide (si_ch q ∧ sz < 20) = false → u.1 = f ∧ u.2 = sz)) (fun u => [(x0, .inr (5, [.ref xw, .ref xp, .ref xd, .ref xe, .ref xb, .ref xl, .ref xt])), (xp, .inr (2, [.ref xpa, .int (nI u.2)])), (xpa, .inl (g.2.1, 20, .inl u.1))]) := by
  refine si_Mi.of (cc := zkX_ask) (maxL := 2) (by decide) rfl (Nat.le_of_ble_eq_true rfl) ?_
  intro p e s m args below meth c A Q ls hF0 hin hK hN hP hD hA hS hl hret
  obtain ⟨hx, hb, hml, hown, hts0⟩ := hF0
  have hts : ∀ w ∈ si_tbl, w.before args s = true := fun w hw => hts0 w (List.mem_cons_of_mem _ hw)
  have hF : CallFix p m c zkX_ask 2 s args si_tbl zRX := ⟨hx, hb, hml, hown, hts⟩
  have hl : lv_has ls 2 [(0, .ref x0), (1, .int q)] := hl
  refine lv_aload_n hx hb zdX_ask_0 rfl (lv_at hl 0 rfl) ?_
  refine va_get (D := g.1) (ci := 5) (v := .ref xp) (C := zRX) (T := zTX) (N := 7) hx hb hts ziX hown hK hP 0 rfl rfl 1 (by decide) (hts _ zlX_18) (fun _ h => h) rfl zdX_ask_1 ?_
  refine lv_iload_n hx hb zdX_ask_4 rfl (lv_at hl 1 rfl) ?_
  refine (cL_add l g xp xpa 20 sz f q (by decide) hsz).callV (wr := [(x0, .inr (5, [.ref xw, .ref xp, .ref xd, .ref xe, .ref xb, .ref xl, .ref xt]))]) (As := [.int q]) (rest := []) hF (si_cV 1 hts zcL_add zlX_48 zimL_add zseL_add ziniL zhL_add ⟨Nat.le_of_ble_eq_true rfl, Nat.le_of_ble_eq_true rfl⟩) hK hN hP hD hS hA [1, 2] [0] rfl rfl (by decide) (by decide) (va_recv (q := (zRL, zTL, 2)) hK hP (ci := 2) (q0 := 1) rfl rfl) rfl hl.1 rfl (Nat.le_of_ble_eq_true rfl) zdX_ask_5 ⟨Nat.le_of_ble_eq_true rfl, Nat.le_of_ble_eq_true rfl⟩ rfl rfl (fun r_ u_ H locs hq_ hP hD hS => ?_)
  obtain ⟨f2, z2⟩ := u_
  obtain ⟨hq, hq2⟩ := hq_
  subst hq
  have hP : va_P g.1 vwCl [(x0, .inr (5, [.ref xw, .ref xp, .ref xd, .ref xe, .ref xb, .ref xl, .ref xt])), (xp, .inr (2, [.ref xpa, .int (nI z2)])), (xpa, .inl (g.2.1, 20, .inl f2))] H := hP
  have hD : va_D A [(x0, .inr (5, [.ref xw, .ref xp, .ref xd, .ref xe, .ref xb, .ref xl, .ref xt])), (xp, .inr (2, [.ref xpa, .int (nI z2)])), (xpa, .inl (g.2.1, 20, .inl f2))] := hD
  exact hret (nI ((decide (si_ch q ∧ sz < 20)).toNat)) (f2, z2) _ _ _ _ (si_nb _) (⟨rfl, hq2⟩) (hP.sub [0, 1, 2] rfl) (hD.sub [0, 1, 2] (by decide) rfl) hS zdX_ask_8

set_option maxHeartbeats 4000000 in
set_option maxRecDepth 100000 in
/-- erase -/
theorem cX_erase (l : Launch) (g : si_G) (x0 xw xp xd xe xb xl xt : Nat) (xwa : Nat) (f : Nat → Int32) (sz : Nat)  : si_Mv (S := Unit) l g vwCl zyX_erase zwX_erase ({ frames := 1, cells := 0, slots := 0, locals := 20 } : Room) [.ref x0] [(x0, .inr (5, [.ref xw, .ref xp, .ref xd, .ref xe, .ref xb, .ref xl, .ref xt])), (xw, .inr (2, [.ref xwa, .int (nI sz)])), (xwa, .inl (g.2.1, 60, .inl f))] (fun u => True) (fun u => [(x0, .inr (5, [.ref xw, .ref xp, .ref xd, .ref xe, .ref xb, .ref xl, .ref xt])), (xw, .inr (2, [.ref xwa, .int (nI 0)])), (xwa, .inl (g.2.1, 60, .inl f))]) := by
  refine si_Mv.of (cc := zkX_erase) (maxL := 1) (by decide) rfl (Nat.le_of_ble_eq_true rfl) ?_
  intro p e s m args below meth c A Q ls hF0 hin hK hN hP hD hA hS hl hret
  obtain ⟨hx, hb, hml, hown, hts0⟩ := hF0
  have hts : ∀ w ∈ si_tbl, w.before args s = true := fun w hw => hts0 w (List.mem_cons_of_mem _ hw)
  have hF : CallFix p m c zkX_erase 1 s args si_tbl zRX := ⟨hx, hb, hml, hown, hts⟩
  have hl : lv_has ls 1 [(0, .ref x0)] := hl
  refine lv_aload_n hx hb zdX_erase_0 rfl (lv_at hl 0 rfl) ?_
  refine va_get (D := g.1) (ci := 5) (v := .ref xw) (C := zRX) (T := zTX) (N := 7) hx hb hts ziX hown hK hP 0 rfl rfl 0 (by decide) (hts _ zlX_14) (fun _ h => h) rfl zdX_erase_1 ?_
  refine (cL_clear l g xw xwa 60 f (nI sz)).callV (wr := [(x0, .inr (5, [.ref xw, .ref xp, .ref xd, .ref xe, .ref xb, .ref xl, .ref xt]))]) (As := []) (rest := []) hF (si_cV 0 hts zcL_clear zlX_52 zimL_clear zseL_clear ziniL zhL_clear ⟨Nat.le_of_ble_eq_true rfl, Nat.le_of_ble_eq_true rfl⟩) hK hN hP hD hS hA [1, 2] [0] rfl rfl (by decide) (by decide) (va_recv (q := (zRL, zTL, 2)) hK hP (ci := 2) (q0 := 1) rfl rfl) rfl hl.1 rfl (Nat.le_of_ble_eq_true rfl) zdX_erase_4 ⟨Nat.le_of_ble_eq_true rfl, Nat.le_of_ble_eq_true rfl⟩ rfl rfl (fun _u H locs _hq hP hD hS => ?_)
  have hP : va_P g.1 vwCl [(x0, .inr (5, [.ref xw, .ref xp, .ref xd, .ref xe, .ref xb, .ref xl, .ref xt])), (xw, .inr (2, [.ref xwa, .int (nI 0)])), (xwa, .inl (g.2.1, 60, .inl f))] H := hP
  have hD : va_D A [(x0, .inr (5, [.ref xw, .ref xp, .ref xd, .ref xe, .ref xb, .ref xl, .ref xt])), (xw, .inr (2, [.ref xwa, .int (nI 0)])), (xwa, .inl (g.2.1, 60, .inl f))] := hD
  exact hret () _ _ _ _ (trivial) (hP.sub [0, 1, 2] rfl) (hD.sub [0, 1, 2] (by decide) rfl) hS zdX_erase_7

set_option maxHeartbeats 4000000 in
set_option maxRecDepth 100000 in
/-- back -/
theorem cX_back (l : Launch) (g : si_G) (x0 xw xp xd xe xb xl xt : Nat) (xpa : Nat) (f : Nat → Int32) (sz : Nat) (hsz : sz ≤ 20) : si_Mi (S := Nat) l g vwCl zyX_back zwX_back ({ frames := 1, cells := 0, slots := 0, locals := 20 } : Room) [.ref x0] [(x0, .inr (5, [.ref xw, .ref xp, .ref xd, .ref xe, .ref xb, .ref xl, .ref xt])), (xp, .inr (2, [.ref xpa, .int (nI sz)])), (xpa, .inl (g.2.1, 20, .inl f))] (fun r u => (r = nI 1 ∧ sz ≠ 0 ∧ u = sz - 1) ∨ (r = nI 0 ∧ sz = 0 ∧ u = 0)) (fun u => [(x0, .inr (5, [.ref xw, .ref xp, .ref xd, .ref xe, .ref xb, .ref xl, .ref xt])), (xp, .inr (2, [.ref xpa, .int (nI u)])), (xpa, .inl (g.2.1, 20, .inl f))]) := by
  refine si_Mi.of (cc := zkX_back) (maxL := 1) (by decide) rfl (Nat.le_of_ble_eq_true rfl) ?_
  intro p e s m args below meth c A Q ls hF0 hin hK hN hP hD hA hS hl hret
  obtain ⟨hx, hb, hml, hown, hts0⟩ := hF0
  have hts : ∀ w ∈ si_tbl, w.before args s = true := fun w hw => hts0 w (List.mem_cons_of_mem _ hw)
  have hF : CallFix p m c zkX_back 1 s args si_tbl zRX := ⟨hx, hb, hml, hown, hts⟩
  have hl : lv_has ls 1 [(0, .ref x0)] := hl
  refine lv_aload_n hx hb zdX_back_0 rfl (lv_at hl 0 rfl) ?_
  refine va_get (D := g.1) (ci := 5) (v := .ref xp) (C := zRX) (T := zTX) (N := 7) hx hb hts ziX hown hK hP 0 rfl rfl 1 (by decide) (hts _ zlX_18) (fun _ h => h) rfl zdX_back_1 ?_
  refine (cL_dropLast l g xp xpa 20 sz f (by decide) hsz).callV (wr := [(x0, .inr (5, [.ref xw, .ref xp, .ref xd, .ref xe, .ref xb, .ref xl, .ref xt]))]) (As := []) (rest := []) hF (si_cV 0 hts zcL_dropLast zlX_111 zimL_dropLast zseL_dropLast ziniL zhL_dropLast ⟨Nat.le_of_ble_eq_true rfl, Nat.le_of_ble_eq_true rfl⟩) hK hN hP hD hS hA [1, 2] [0] rfl rfl (by decide) (by decide) (va_recv (q := (zRL, zTL, 2)) hK hP (ci := 2) (q0 := 1) rfl rfl) rfl hl.1 rfl (Nat.le_of_ble_eq_true rfl) zdX_back_4 ⟨Nat.le_of_ble_eq_true rfl, Nat.le_of_ble_eq_true rfl⟩ rfl rfl (fun r_ z2 H locs hq hP hD hS => ?_)
  have hP : va_P g.1 vwCl [(x0, .inr (5, [.ref xw, .ref xp, .ref xd, .ref xe, .ref xb, .ref xl, .ref xt])), (xp, .inr (2, [.ref xpa, .int (nI z2)])), (xpa, .inl (g.2.1, 20, .inl f))] H := hP
  have hD : va_D A [(x0, .inr (5, [.ref xw, .ref xp, .ref xd, .ref xe, .ref xb, .ref xl, .ref xt])), (xp, .inr (2, [.ref xpa, .int (nI z2)])), (xpa, .inl (g.2.1, 20, .inl f))] := hD
  exact hret r_ z2 _ _ _ _ (by rcases hq with ⟨h, _⟩ | ⟨h, _⟩ <;> (rw [h]; rfl)) (hq) (hP.sub [0, 1, 2] rfl) (hD.sub [0, 1, 2] (by decide) rfl) hS zdX_back_7

set_option maxHeartbeats 4000000 in
set_option maxRecDepth 100000 in
/-- word -/
theorem cX_word (l : Launch) (g : si_G) (x0 xw xp xd xe xb xl xt : Nat) (xda : Nat) (fw : Nat → Int64) (q : Int32)  : si_Ml (S := Unit) l g vwCl zyX_word zwX_word ({ frames := 1, cells := 0, slots := 0, locals := 20 } : Room) [.ref x0, .int q] [(x0, .inr (5, [.ref xw, .ref xp, .ref xd, .ref xe, .ref xb, .ref xl, .ref xt])), (xd, .inr (1, [.ref xda])), (xda, .inl (g.2.2, 23, .inr (.inl fw)))] (fun r u => r = si_wq q fw) (fun u => [(x0, .inr (5, [.ref xw, .ref xp, .ref xd, .ref xe, .ref xb, .ref xl, .ref xt])), (xd, .inr (1, [.ref xda])), (xda, .inl (g.2.2, 23, .inr (.inl fw)))]) := by
  refine si_Ml.of (cc := zkX_word) (maxL := 2) (by decide) rfl (Nat.le_of_ble_eq_true rfl) ?_
  intro p e s m args below meth c A Q ls hF0 hin hK hN hP hD hA hS hl hret
  obtain ⟨hx, hb, hml, hown, hts0⟩ := hF0
  have hts : ∀ w ∈ si_tbl, w.before args s = true := fun w hw => hts0 w (List.mem_cons_of_mem _ hw)
  have hF : CallFix p m c zkX_word 2 s args si_tbl zRX := ⟨hx, hb, hml, hown, hts⟩
  have hl : lv_has ls 2 [(0, .ref x0), (1, .int q)] := hl
  refine lv_iload_n hx hb zdX_word_0 rfl (lv_at hl 1 rfl) ?_
  refine (cX_isWord l g q).callS (wr := [(x0, .inr (5, [.ref xw, .ref xp, .ref xd, .ref xe, .ref xb, .ref xl, .ref xt])), (xd, .inr (1, [.ref xda])), (xda, .inl (g.2.2, 23, .inr (.inl fw)))]) (As := [.int q]) (rest := []) hF (si_cS 1 hts zcX_isWord zlX_63 zstX_isWord ziniX zhX_isWord ⟨Nat.le_of_ble_eq_true rfl, Nat.le_of_ble_eq_true rfl⟩) hK hN hP hD hS hA [] [0, 1, 2] rfl rfl (by decide) (by decide) rfl hl.1 rfl (Nat.le_of_ble_eq_true rfl) zdX_word_1 ⟨Nat.le_of_ble_eq_true rfl, Nat.le_of_ble_eq_true rfl⟩ rfl rfl (fun r_ _u H locs hq hP hD hS => ?_)
  subst hq
  have hP : va_P g.1 vwCl [(x0, .inr (5, [.ref xw, .ref xp, .ref xd, .ref xe, .ref xb, .ref xl, .ref xt])), (xd, .inr (1, [.ref xda])), (xda, .inl (g.2.2, 23, .inr (.inl fw)))] H := hP
  have hD : va_D A [(x0, .inr (5, [.ref xw, .ref xp, .ref xd, .ref xe, .ref xb, .ref xl, .ref xt])), (xd, .inr (1, [.ref xda])), (xda, .inl (g.2.2, 23, .inr (.inl fw)))] := hD
  refine si_if_eq (tgt := 19) hx hb zdX_word_4 rfl (si_bn _) (fun h4 => ?_) (fun h4 => ?_)
  · have hd := si_b0 h4
    refine lv_lconst (v := 0) hx hb zdX_word_19 (by decide) ?_
    exact hret (0 : Int64) () _ _ _ _ ((si_wq_f hd).symm) (hP.sub [0, 1, 2] rfl) (hD.sub [0, 1, 2] (by decide) rfl) hS zdX_word_20
  · have hd := si_b1 h4
    obtain ⟨j, hj, rfl⟩ := si_isW_t hd
    refine lv_aload_n hx hb zdX_word_7 rfl (lv_at hl 0 rfl) ?_
    refine va_get (D := g.1) (ci := 5) (v := .ref xd) (C := zRX) (T := zTX) (N := 7) hx hb hts ziX hown hK hP 0 rfl rfl 2 (by decide) (hts _ zlX_24) (fun _ h => h) rfl zdX_word_8 ?_
    refine va_getN (D := g.1) (ci := 1) (v := .ref xda) (C := zRI) (T := zTI) (N := 1) hx hb hts ziI hown hK hP 1 rfl rfl 0 (by decide) (va_Nw.use rfl (hN _ zlX_66)) (fun _ h => h) rfl zdX_word_11 ?_
    refine lv_iload_n hx hb zdX_word_14 rfl (lv_at hl 1 rfl) ?_
    refine si_lald (v := fw j) hx hb hK hP 2 1 rfl rfl (by decide) (by omega) (rfl) zdX_word_15 ?_
    refine lv_goto (tgt := 20) hx hb zdX_word_16 rfl ?_
    exact hret (fw j) () _ _ _ _ ((si_wq_t hd hj).symm) (hP.sub [0, 1, 2] rfl) (hD.sub [0, 1, 2] (by decide) rfl) hS zdX_word_20

set_option maxHeartbeats 4000000 in
set_option maxRecDepth 100000 in
/-- put -/
theorem cX_put (l : Launch) (g : si_G) (x0 xw xp xd xe xb xl xt : Nat) (xda : Nat) (fw : Nat → Int64) (q : Int32) (x : Int64)  : si_Mi (S := Nat → Int64) l g vwCl zyX_put zwX_put ({ frames := 1, cells := 0, slots := 0, locals := 20 } : Room) [.ref x0, .int q, .long x] [(x0, .inr (5, [.ref xw, .ref xp, .ref xd, .ref xe, .ref xb, .ref xl, .ref xt])), (xd, .inr (1, [.ref xda])), (xda, .inl (g.2.2, 23, .inr (.inl fw)))] (fun r u => r = nI (si_isW q).toNat ∧ (si_isW q = true → u = vp_updL fw q.toNatClampNeg x) ∧ (si_isW q = false → u = fw)) (fun u => [(x0, .inr (5, [.ref xw, .ref xp, .ref xd, .ref xe, .ref xb, .ref xl, .ref xt])), (xd, .inr (1, [.ref xda])), (xda, .inl (g.2.2, 23, .inr (.inl u)))]) := by
  refine si_Mi.of (cc := zkX_put) (maxL := 4) (by decide) rfl (Nat.le_of_ble_eq_true rfl) ?_
  intro p e s m args below meth c A Q ls hF0 hin hK hN hP hD hA hS hl hret
  obtain ⟨hx, hb, hml, hown, hts0⟩ := hF0
  have hts : ∀ w ∈ si_tbl, w.before args s = true := fun w hw => hts0 w (List.mem_cons_of_mem _ hw)
  have hF : CallFix p m c zkX_put 4 s args si_tbl zRX := ⟨hx, hb, hml, hown, hts⟩
  have hl : lv_has ls 4 [(0, .ref x0), (1, .int q), (2, .long x)] := hl
  refine lv_iload_n hx hb zdX_put_0 rfl (lv_at hl 1 rfl) ?_
  refine (cX_isWord l g q).callS (wr := [(x0, .inr (5, [.ref xw, .ref xp, .ref xd, .ref xe, .ref xb, .ref xl, .ref xt])), (xd, .inr (1, [.ref xda])), (xda, .inl (g.2.2, 23, .inr (.inl fw)))]) (As := [.int q]) (rest := []) hF (si_cS 1 hts zcX_isWord zlX_63 zstX_isWord ziniX zhX_isWord ⟨Nat.le_of_ble_eq_true rfl, Nat.le_of_ble_eq_true rfl⟩) hK hN hP hD hS hA [] [0, 1, 2] rfl rfl (by decide) (by decide) rfl hl.1 rfl (Nat.le_of_ble_eq_true rfl) zdX_put_1 ⟨Nat.le_of_ble_eq_true rfl, Nat.le_of_ble_eq_true rfl⟩ rfl rfl (fun r_ _u H locs hq hP hD hS => ?_)
  subst hq
  have hP : va_P g.1 vwCl [(x0, .inr (5, [.ref xw, .ref xp, .ref xd, .ref xe, .ref xb, .ref xl, .ref xt])), (xd, .inr (1, [.ref xda])), (xda, .inl (g.2.2, 23, .inr (.inl fw)))] H := hP
  have hD : va_D A [(x0, .inr (5, [.ref xw, .ref xp, .ref xd, .ref xe, .ref xb, .ref xl, .ref xt])), (xd, .inr (1, [.ref xda])), (xda, .inl (g.2.2, 23, .inr (.inl fw)))] := hD
  refine si_if_ne (tgt := 9) hx hb zdX_put_4 rfl (si_bn _) (fun h4 => ?_) (fun h4 => ?_)
  · have hd := si_b1 h4
    obtain ⟨j, hj, rfl⟩ := si_isW_t hd
    refine lv_aload_n hx hb zdX_put_9 rfl (lv_at hl 0 rfl) ?_
    refine va_get (D := g.1) (ci := 5) (v := .ref xd) (C := zRX) (T := zTX) (N := 7) hx hb hts ziX hown hK hP 0 rfl rfl 2 (by decide) (hts _ zlX_24) (fun _ h => h) rfl zdX_put_10 ?_
    refine va_getN (D := g.1) (ci := 1) (v := .ref xda) (C := zRI) (T := zTI) (N := 1) hx hb hts ziI hown hK hP 1 rfl rfl 0 (by decide) (va_Nw.use rfl (hN _ zlX_66)) (fun _ h => h) rfl zdX_put_13 ?_
    refine lv_iload_n hx hb zdX_put_16 rfl (lv_at hl 1 rfl) ?_
    refine lv_lload_n hx hb zdX_put_17 rfl (lv_at hl 2 rfl) ?_
    refine si_last hx hb hK hP hD hS 2 1 rfl rfl (by decide) (by omega) zdX_put_18 (fun H locs hP hD hS => ?_)
    have hP : va_P g.1 vwCl [(x0, .inr (5, [.ref xw, .ref xp, .ref xd, .ref xe, .ref xb, .ref xl, .ref xt])), (xd, .inr (1, [.ref xda])), (xda, .inl (g.2.2, 23, .inr (.inl (vp_updL fw j x))))] H := hP
    have hD : va_D A [(x0, .inr (5, [.ref xw, .ref xp, .ref xd, .ref xe, .ref xb, .ref xl, .ref xt])), (xd, .inr (1, [.ref xda])), (xda, .inl (g.2.2, 23, .inr (.inl (vp_updL fw j x))))] := hD
    refine lv_iconst (v := nI 1) hx hb zdX_put_19 (by decide) ?_
    exact hret (nI 1) (vp_updL fw j x) _ _ _ _ (rfl) (by rw [hd, nI_clamp (by omega)]; exact ⟨rfl, fun _ => rfl, fun z => absurd z (by decide)⟩) (hP.sub [0, 1, 2] rfl) (hD.sub [0, 1, 2] (by decide) rfl) hS zdX_put_20
  · have hd := si_b0 h4
    refine lv_iconst (v := nI 0) hx hb zdX_put_7 (by decide) ?_
    exact hret (nI 0) fw _ _ _ _ (rfl) (by rw [hd]; exact ⟨rfl, fun z => absurd z (by decide), fun _ => rfl⟩) (hP.sub [0, 1, 2] rfl) (hD.sub [0, 1, 2] (by decide) rfl) hS zdX_put_8

set_option maxHeartbeats 4000000 in
set_option maxRecDepth 100000 in
/-- flip -/
theorem cX_flip (l : Launch) (g : si_G) (x0 xw xp xd xe xb xl xt : Nat) (xda : Nat) (fw : Nat → Int64) (q q2 : Int32)  : si_Mi (S := Nat → Int64) l g vwCl zyX_flip zwX_flip ({ frames := 1, cells := 0, slots := 0, locals := 20 } : Room) [.ref x0, .int q, .int q2] [(x0, .inr (5, [.ref xw, .ref xp, .ref xd, .ref xe, .ref xb, .ref xl, .ref xt])), (xd, .inr (1, [.ref xda])), (xda, .inl (g.2.2, 23, .inr (.inl fw)))] (fun r u => r = nI (si_isW q && si_isB q2).toNat ∧ ((si_isW q && si_isB q2) = true → u = vp_updL fw q.toNatClampNeg (fw q.toNatClampNeg ^^^ ((1 : Int64) <<< (q2.toInt64 &&& 63)))) ∧ ((si_isW q && si_isB q2) = false → u = fw)) (fun u => [(x0, .inr (5, [.ref xw, .ref xp, .ref xd, .ref xe, .ref xb, .ref xl, .ref xt])), (xd, .inr (1, [.ref xda])), (xda, .inl (g.2.2, 23, .inr (.inl u)))]) := by
  refine si_Mi.of (cc := zkX_flip) (maxL := 3) (by decide) rfl (Nat.le_of_ble_eq_true rfl) ?_
  intro p e s m args below meth c A Q ls hF0 hin hK hN hP hD hA hS hl hret
  obtain ⟨hx, hb, hml, hown, hts0⟩ := hF0
  have hts : ∀ w ∈ si_tbl, w.before args s = true := fun w hw => hts0 w (List.mem_cons_of_mem _ hw)
  have hF : CallFix p m c zkX_flip 3 s args si_tbl zRX := ⟨hx, hb, hml, hown, hts⟩
  have hl : lv_has ls 3 [(0, .ref x0), (1, .int q), (2, .int q2)] := hl
  refine lv_iload_n hx hb zdX_flip_0 rfl (lv_at hl 1 rfl) ?_
  refine (cX_isWord l g q).callS (wr := [(x0, .inr (5, [.ref xw, .ref xp, .ref xd, .ref xe, .ref xb, .ref xl, .ref xt])), (xd, .inr (1, [.ref xda])), (xda, .inl (g.2.2, 23, .inr (.inl fw)))]) (As := [.int q]) (rest := []) hF (si_cS 1 hts zcX_isWord zlX_63 zstX_isWord ziniX zhX_isWord ⟨Nat.le_of_ble_eq_true rfl, Nat.le_of_ble_eq_true rfl⟩) hK hN hP hD hS hA [] [0, 1, 2] rfl rfl (by decide) (by decide) rfl hl.1 rfl (Nat.le_of_ble_eq_true rfl) zdX_flip_1 ⟨Nat.le_of_ble_eq_true rfl, Nat.le_of_ble_eq_true rfl⟩ rfl rfl (fun r_ _u H locs hq hP hD hS => ?_)
  subst hq
  have hP : va_P g.1 vwCl [(x0, .inr (5, [.ref xw, .ref xp, .ref xd, .ref xe, .ref xb, .ref xl, .ref xt])), (xd, .inr (1, [.ref xda])), (xda, .inl (g.2.2, 23, .inr (.inl fw)))] H := hP
  have hD : va_D A [(x0, .inr (5, [.ref xw, .ref xp, .ref xd, .ref xe, .ref xb, .ref xl, .ref xt])), (xd, .inr (1, [.ref xda])), (xda, .inl (g.2.2, 23, .inr (.inl fw)))] := hD
  refine si_if_eq (tgt := 17) hx hb zdX_flip_4 rfl (si_bn _) (fun h4 => ?_) (fun h4 => ?_)
  · have hd := si_b0 h4
    have hdd : (si_isW q && si_isB q2) = false := by rw [hd, Bool.false_and]
    refine lv_iconst (v := nI 0) hx hb zdX_flip_17 (by decide) ?_
    exact hret (nI 0) fw _ _ _ _ (rfl) (by rw [hdd]; exact ⟨rfl, fun z => absurd z (by decide), fun _ => rfl⟩) (hP.sub [0, 1, 2] rfl) (hD.sub [0, 1, 2] (by decide) rfl) hS zdX_flip_18
  · have hd := si_b1 h4
    obtain ⟨j, hj, rfl⟩ := si_isW_t hd
    refine lv_iload_n hx hb zdX_flip_7 rfl (lv_at hl 2 rfl) ?_
    refine lv_if_lt (tgt := 17) hx hb zdX_flip_8 rfl (fun h8 => ?_) (fun h8 => ?_)
    · have hdd : (si_isW (nI j) && si_isB q2) = false := by
        have : si_isB q2 = false := decide_eq_false (fun z => z.1 h8)
        rw [this, Bool.and_false]
      refine lv_iconst (v := nI 0) hx hb zdX_flip_17 (by decide) ?_
      exact hret (nI 0) fw _ _ _ _ (rfl) (by rw [hdd]; exact ⟨rfl, fun z => absurd z (by decide), fun _ => rfl⟩) (hP.sub [0, 1, 2] rfl) (hD.sub [0, 1, 2] (by decide) rfl) hS zdX_flip_18
    · refine lv_iload_n hx hb zdX_flip_11 rfl (lv_at hl 2 rfl) ?_
      refine lv_bipush (v := nI 64) hx hb zdX_flip_12 (by decide) ?_
      refine lv_icmp_lt (tgt := 19) hx hb zdX_flip_14 rfl (fun h14 => ?_) (fun h14 => ?_)
      · have hdd : (si_isW (nI j) && si_isB q2) = true := by
          have : si_isB q2 = true := decide_eq_true ⟨h8, h14⟩
          rw [hd, this]; rfl
        refine lv_aload_n hx hb zdX_flip_19 rfl (lv_at hl 0 rfl) ?_
        refine va_get (D := g.1) (ci := 5) (v := .ref xd) (C := zRX) (T := zTX) (N := 7) hx hb hts ziX hown hK hP 0 rfl rfl 2 (by decide) (hts _ zlX_24) (fun _ h => h) rfl zdX_flip_20 ?_
        refine va_getN (D := g.1) (ci := 1) (v := .ref xda) (C := zRI) (T := zTI) (N := 1) hx hb hts ziI hown hK hP 1 rfl rfl 0 (by decide) (va_Nw.use rfl (hN _ zlX_66)) (fun _ h => h) rfl zdX_flip_23 ?_
        refine lv_iload_n hx hb zdX_flip_26 rfl (lv_at hl 1 rfl) ?_
        refine lv_dup2_11 hx hb zdX_flip_27 rfl rfl ?_
        refine si_lald (v := fw j) hx hb hK hP 2 1 rfl rfl (by decide) (by omega) (rfl) zdX_flip_28 ?_
        refine lv_lconst (v := 1) hx hb zdX_flip_29 (by decide) ?_
        refine lv_iload_n hx hb zdX_flip_30 rfl (lv_at hl 2 rfl) ?_
        refine lv_lshl (v := (1 : Int64) <<< (q2.toInt64 &&& 63)) hx hb zdX_flip_31 (rfl) ?_
        refine si_lxor (v := (fw j) ^^^ ((1 : Int64) <<< (q2.toInt64 &&& 63))) hx hb zdX_flip_32 (rfl) ?_
        refine si_last hx hb hK hP hD hS 2 1 rfl rfl (by decide) (by omega) zdX_flip_33 (fun H locs hP hD hS => ?_)
        have hP : va_P g.1 vwCl [(x0, .inr (5, [.ref xw, .ref xp, .ref xd, .ref xe, .ref xb, .ref xl, .ref xt])), (xd, .inr (1, [.ref xda])), (xda, .inl (g.2.2, 23, .inr (.inl (vp_updL fw j ((fw j) ^^^ ((1 : Int64) <<< (q2.toInt64 &&& 63)))))))] H := hP
        have hD : va_D A [(x0, .inr (5, [.ref xw, .ref xp, .ref xd, .ref xe, .ref xb, .ref xl, .ref xt])), (xd, .inr (1, [.ref xda])), (xda, .inl (g.2.2, 23, .inr (.inl (vp_updL fw j ((fw j) ^^^ ((1 : Int64) <<< (q2.toInt64 &&& 63)))))))] := hD
        refine lv_iconst (v := nI 1) hx hb zdX_flip_34 (by decide) ?_
        exact hret (nI 1) (vp_updL fw j (fw j ^^^ ((1 : Int64) <<< (q2.toInt64 &&& 63)))) _ _ _ _ (rfl) (by rw [hdd, nI_clamp (by omega)]; exact ⟨rfl, fun _ => rfl, fun z => absurd z (by decide)⟩) (hP.sub [0, 1, 2] rfl) (hD.sub [0, 1, 2] (by decide) rfl) hS zdX_flip_35
      · have hdd : (si_isW (nI j) && si_isB q2) = false := by
          have : si_isB q2 = false := decide_eq_false (fun z => h14 z.2)
          rw [this, Bool.and_false]
        refine lv_iconst (v := nI 0) hx hb zdX_flip_17 (by decide) ?_
        exact hret (nI 0) fw _ _ _ _ (rfl) (by rw [hdd]; exact ⟨rfl, fun z => absurd z (by decide), fun _ => rfl⟩) (hP.sub [0, 1, 2] rfl) (hD.sub [0, 1, 2] (by decide) rfl) hS zdX_flip_18

set_option maxHeartbeats 4000000 in
set_option maxRecDepth 100000 in
/-- draw -/
theorem cX_draw (l : Launch) (g : si_G) (x0 xw xp xd xe xb xl xt : Nat) (tt tz tsr tsp b1 b2 b3 b4 : Nat) (trt ta ba : Int32) (fr fp fc fo fn ff : Nat → Int32) (h1 a1 h3 a3 : Nat) (f : Nat → Int32) (fw : Nat → Int64) (t : List Nat) (sr : Nat) (hok : si_ok t) (hf : si_ln t f) (hs1 : 1 ≤ sr) (hs2 : sr ≤ 16) : si_Mv (S := (Nat → Int32) × (Nat → Int32) × (Nat → Int32) × (Nat → Int32) × (Nat → Int32) × (Nat → Int64)) l g vwCl zyX_draw zwX_draw ({ frames := 4, cells := 0, slots := 0, locals := 92 } : Room) [.ref x0, .ref h1, .int (nI sr), .ref h3] [(x0, .inr (5, [.ref xw, .ref xp, .ref xd, .ref xe, .ref xb, .ref xl, .ref xt])), (xt, .inr (3, [.ref tt, .ref tz, .int trt])), (h1, .inr (2, [.ref a1, .int (nI t.length)])), (a1, .inl (g.2.1, 60, .inl f)), (tz, .inr (4, [.ref tsr, .ref tsp, .int ta])), (tsr, .inl (g.2.1, 61, .inl fr)), (tsp, .inl (g.2.1, 61, .inl fp)), (xb, .inr (0, [.ref b1, .ref b2, .ref b3, .ref b4, .int ba])), (b1, .inl (g.2.1, 61, .inl fc)), (b2, .inl (g.2.1, 61, .inl fo)), (b3, .inl (g.2.1, 61, .inl fn)), (b4, .inl (g.2.1, 61, .inl ff)), (h3, .inr (1, [.ref a3])), (a3, .inl (g.2.2, 23, .inr (.inl fw)))] (fun u => si_su t u.1 u.2.1 ∧ ∀ k, k < 23 → u.2.2.2.2.2 k = si_im t sr k) (fun u => [(x0, .inr (5, [.ref xw, .ref xp, .ref xd, .ref xe, .ref xb, .ref xl, .ref xt])), (xt, .inr (3, [.ref tt, .ref tz, .int trt])), (h1, .inr (2, [.ref a1, .int (nI t.length)])), (a1, .inl (g.2.1, 60, .inl f)), (tz, .inr (4, [.ref tsr, .ref tsp, .int (nI t.length)])), (tsr, .inl (g.2.1, 61, .inl u.1)), (tsp, .inl (g.2.1, 61, .inl u.2.1)), (xb, .inr (0, [.ref b1, .ref b2, .ref b3, .ref b4, .int (nI t.length)])), (b1, .inl (g.2.1, 61, .inl u.2.2.1)), (b2, .inl (g.2.1, 61, .inl u.2.2.2.1)), (b3, .inl (g.2.1, 61, .inl u.2.2.2.2.1)), (b4, .inl (g.2.1, 61, .inl ff)), (h3, .inr (1, [.ref a3])), (a3, .inl (g.2.2, 23, .inr (.inl u.2.2.2.2.2)))]) := by
  refine si_Mv.of (cc := zkX_draw) (maxL := 4) (by decide) rfl (Nat.le_of_ble_eq_true rfl) ?_
  intro p e s m args below meth c A Q ls hF0 hin hK hN hP hD hA hS hl hret
  obtain ⟨hx, hb, hml, hown, hts0⟩ := hF0
  have hts : ∀ w ∈ si_tbl, w.before args s = true := fun w hw => hts0 w (List.mem_cons_of_mem _ hw)
  have hF : CallFix p m c zkX_draw 4 s args si_tbl zRX := ⟨hx, hb, hml, hown, hts⟩
  have hl : lv_has ls 4 [(0, .ref x0), (1, .ref h1), (2, .int (nI sr)), (3, .ref h3)] := hl
  have hn := hok.1
  refine lv_aload_n hx hb zdX_draw_0 rfl (lv_at hl 0 rfl) ?_
  refine va_get (D := g.1) (ci := 5) (v := .ref xt) (C := zRX) (T := zTX) (N := 7) hx hb hts ziX hown hK hP 0 rfl rfl 6 (by decide) (hts _ zlX_45) (fun _ h => h) rfl zdX_draw_1 ?_
  refine va_getN (D := g.1) (ci := 3) (v := .ref tz) (C := zRR) (T := zTR) (N := 3) hx hb hts ziR hown hK hP 1 rfl rfl 1 (by decide) (va_Nw.use rfl (hN _ zlX_98)) (fun _ h => h) rfl zdX_draw_4 ?_
  refine lv_aload_n hx hb zdX_draw_7 rfl (lv_at hl 1 rfl) ?_
  refine (cS_sort l g tz tsr tsp fr fp ta h1 a1 60 f t (by decide) hn hok hf).callV (wr := [(x0, .inr (5, [.ref xw, .ref xp, .ref xd, .ref xe, .ref xb, .ref xl, .ref xt])), (xt, .inr (3, [.ref tt, .ref tz, .int trt])), (xb, .inr (0, [.ref b1, .ref b2, .ref b3, .ref b4, .int ba])), (b1, .inl (g.2.1, 61, .inl fc)), (b2, .inl (g.2.1, 61, .inl fo)), (b3, .inl (g.2.1, 61, .inl fn)), (b4, .inl (g.2.1, 61, .inl ff)), (h3, .inr (1, [.ref a3])), (a3, .inl (g.2.2, 23, .inr (.inl fw)))]) (As := [.ref h1]) (rest := []) hF (si_cV 1 hts zcS_sort zlX_129 zimS_sort zseS_sort ziniS zhS_sort ⟨Nat.le_of_ble_eq_true rfl, Nat.le_of_ble_eq_true rfl⟩) hK hN hP hD hS hA [4, 5, 6, 2, 3] [0, 1, 7, 8, 9, 10, 11, 12, 13] rfl rfl (by decide) (by decide) (va_recv (q := (zRS, zTS, 3)) hK hP (ci := 4) (q0 := 4) rfl rfl) rfl hl.1 rfl (Nat.le_of_ble_eq_true rfl) zdX_draw_8 ⟨Nat.le_of_ble_eq_true rfl, Nat.le_of_ble_eq_true rfl⟩ rfl rfl (fun u_ H locs hsu hP hD hS => ?_)
  obtain ⟨fr2, fp2⟩ := u_
  have hsu : si_su t fr2 fp2 := hsu
  have hP : va_P g.1 vwCl [(x0, .inr (5, [.ref xw, .ref xp, .ref xd, .ref xe, .ref xb, .ref xl, .ref xt])), (xt, .inr (3, [.ref tt, .ref tz, .int trt])), (xb, .inr (0, [.ref b1, .ref b2, .ref b3, .ref b4, .int ba])), (b1, .inl (g.2.1, 61, .inl fc)), (b2, .inl (g.2.1, 61, .inl fo)), (b3, .inl (g.2.1, 61, .inl fn)), (b4, .inl (g.2.1, 61, .inl ff)), (h3, .inr (1, [.ref a3])), (a3, .inl (g.2.2, 23, .inr (.inl fw))), (tz, .inr (4, [.ref tsr, .ref tsp, .int (nI t.length)])), (tsr, .inl (g.2.1, 61, .inl fr2)), (tsp, .inl (g.2.1, 61, .inl fp2)), (h1, .inr (2, [.ref a1, .int (nI t.length)])), (a1, .inl (g.2.1, 60, .inl f))] H := hP
  have hD : va_D A [(x0, .inr (5, [.ref xw, .ref xp, .ref xd, .ref xe, .ref xb, .ref xl, .ref xt])), (xt, .inr (3, [.ref tt, .ref tz, .int trt])), (xb, .inr (0, [.ref b1, .ref b2, .ref b3, .ref b4, .int ba])), (b1, .inl (g.2.1, 61, .inl fc)), (b2, .inl (g.2.1, 61, .inl fo)), (b3, .inl (g.2.1, 61, .inl fn)), (b4, .inl (g.2.1, 61, .inl ff)), (h3, .inr (1, [.ref a3])), (a3, .inl (g.2.2, 23, .inr (.inl fw))), (tz, .inr (4, [.ref tsr, .ref tsp, .int (nI t.length)])), (tsr, .inl (g.2.1, 61, .inl fr2)), (tsp, .inl (g.2.1, 61, .inl fp2)), (h1, .inr (2, [.ref a1, .int (nI t.length)])), (a1, .inl (g.2.1, 60, .inl f))] := hD
  refine lv_aload_n hx hb zdX_draw_11 rfl (lv_at hl 0 rfl) ?_
  refine va_get (D := g.1) (ci := 5) (v := .ref xb) (C := zRX) (T := zTX) (N := 7) hx hb hts ziX hown hK hP 0 rfl rfl 4 (by decide) (hts _ zlX_34) (fun _ h => h) rfl zdX_draw_12 ?_
  refine lv_aload_n hx hb zdX_draw_15 rfl (lv_at hl 1 rfl) ?_
  refine lv_aload_n hx hb zdX_draw_16 rfl (lv_at hl 0 rfl) ?_
  refine va_get (D := g.1) (ci := 5) (v := .ref xt) (C := zRX) (T := zTX) (N := 7) hx hb hts ziX hown hK hP 0 rfl rfl 6 (by decide) (hts _ zlX_45) (fun _ h => h) rfl zdX_draw_17 ?_
  refine va_getN (D := g.1) (ci := 3) (v := .ref tz) (C := zRR) (T := zTR) (N := 3) hx hb hts ziR hown hK hP 1 rfl rfl 1 (by decide) (va_Nw.use rfl (hN _ zlX_98)) (fun _ h => h) rfl zdX_draw_20 ?_
  refine (cB_takeFrom l g xb b1 b2 b3 b4 tz tsr tsp ba fc fp2 h1 a1 60 f t (by decide) hn hok hf hsu.2).callV (wr := [(x0, .inr (5, [.ref xw, .ref xp, .ref xd, .ref xe, .ref xb, .ref xl, .ref xt])), (xt, .inr (3, [.ref tt, .ref tz, .int trt])), (b2, .inl (g.2.1, 61, .inl fo)), (b3, .inl (g.2.1, 61, .inl fn)), (b4, .inl (g.2.1, 61, .inl ff)), (h3, .inr (1, [.ref a3])), (a3, .inl (g.2.2, 23, .inr (.inl fw))), (tsr, .inl (g.2.1, 61, .inl fr2))]) (As := [.ref h1, .ref tz]) (rest := []) hF (si_cV 2 hts zcB_takeFrom zlX_133 zimB_takeFrom zseB_takeFrom ziniB zhB_takeFrom ⟨Nat.le_of_ble_eq_true rfl, Nat.le_of_ble_eq_true rfl⟩) hK hN hP hD hS hA [2, 3, 12, 13, 9, 11] [0, 1, 4, 5, 6, 7, 8, 10] rfl rfl (by decide) (by decide) (va_recv (q := (zRB, zTB, 5)) hK hP (ci := 0) (q0 := 2) rfl rfl) rfl hl.1 rfl (Nat.le_of_ble_eq_true rfl) zdX_draw_23 ⟨Nat.le_of_ble_eq_true rfl, Nat.le_of_ble_eq_true rfl⟩ rfl rfl (fun fc2 H locs hfc hP hD hS => ?_)
  have hP : va_P g.1 vwCl [(x0, .inr (5, [.ref xw, .ref xp, .ref xd, .ref xe, .ref xb, .ref xl, .ref xt])), (xt, .inr (3, [.ref tt, .ref tz, .int trt])), (b2, .inl (g.2.1, 61, .inl fo)), (b3, .inl (g.2.1, 61, .inl fn)), (b4, .inl (g.2.1, 61, .inl ff)), (h3, .inr (1, [.ref a3])), (a3, .inl (g.2.2, 23, .inr (.inl fw))), (tsr, .inl (g.2.1, 61, .inl fr2)), (xb, .inr (0, [.ref b1, .ref b2, .ref b3, .ref b4, .int (nI t.length)])), (b1, .inl (g.2.1, 61, .inl fc2)), (h1, .inr (2, [.ref a1, .int (nI t.length)])), (a1, .inl (g.2.1, 60, .inl f)), (tz, .inr (4, [.ref tsr, .ref tsp, .int (nI t.length)])), (tsp, .inl (g.2.1, 61, .inl fp2))] H := hP
  have hD : va_D A [(x0, .inr (5, [.ref xw, .ref xp, .ref xd, .ref xe, .ref xb, .ref xl, .ref xt])), (xt, .inr (3, [.ref tt, .ref tz, .int trt])), (b2, .inl (g.2.1, 61, .inl fo)), (b3, .inl (g.2.1, 61, .inl fn)), (b4, .inl (g.2.1, 61, .inl ff)), (h3, .inr (1, [.ref a3])), (a3, .inl (g.2.2, 23, .inr (.inl fw))), (tsr, .inl (g.2.1, 61, .inl fr2)), (xb, .inr (0, [.ref b1, .ref b2, .ref b3, .ref b4, .int (nI t.length)])), (b1, .inl (g.2.1, 61, .inl fc2)), (h1, .inr (2, [.ref a1, .int (nI t.length)])), (a1, .inl (g.2.1, 60, .inl f)), (tz, .inr (4, [.ref tsr, .ref tsp, .int (nI t.length)])), (tsp, .inl (g.2.1, 61, .inl fp2))] := hD
  refine lv_aload_n hx hb zdX_draw_26 rfl (lv_at hl 3 rfl) ?_
  refine lv_aload_n hx hb zdX_draw_27 rfl (lv_at hl 0 rfl) ?_
  refine va_get (D := g.1) (ci := 5) (v := .ref xb) (C := zRX) (T := zTX) (N := 7) hx hb hts ziX hown hK hP 0 rfl rfl 4 (by decide) (hts _ zlX_34) (fun _ h => h) rfl zdX_draw_28 ?_
  refine lv_aload_n hx hb zdX_draw_31 rfl (lv_at hl 0 rfl) ?_
  refine va_get (D := g.1) (ci := 5) (v := .ref xt) (C := zRX) (T := zTX) (N := 7) hx hb hts ziX hown hK hP 0 rfl rfl 6 (by decide) (hts _ zlX_45) (fun _ h => h) rfl zdX_draw_32 ?_
  refine va_getN (D := g.1) (ci := 3) (v := .ref tz) (C := zRR) (T := zTR) (N := 3) hx hb hts ziR hown hK hP 1 rfl rfl 1 (by decide) (va_Nw.use rfl (hN _ zlX_98)) (fun _ h => h) rfl zdX_draw_35 ?_
  refine lv_iload_n hx hb zdX_draw_38 rfl (lv_at hl 2 rfl) ?_
  refine (cI_draw l g h3 a3 xb b1 b2 b3 b4 tz tsr tsp fw fc2 fo fn fr2 fp2 t sr hok hs1 hs2 hfc hsu).callV (wr := [(x0, .inr (5, [.ref xw, .ref xp, .ref xd, .ref xe, .ref xb, .ref xl, .ref xt])), (xt, .inr (3, [.ref tt, .ref tz, .int trt])), (b4, .inl (g.2.1, 61, .inl ff)), (h1, .inr (2, [.ref a1, .int (nI t.length)])), (a1, .inl (g.2.1, 60, .inl f))]) (As := [.ref xb, .ref tz, .int (nI sr)]) (rest := []) hF (si_cV 3 hts zcI_draw zlX_137 zimI_draw zseI_draw ziniI zhI_draw ⟨Nat.le_of_ble_eq_true rfl, Nat.le_of_ble_eq_true rfl⟩) hK hN hP hD hS hA [5, 6, 8, 9, 2, 3, 12, 7, 13] [0, 1, 4, 10, 11] rfl rfl (by decide) (by decide) (va_recv (q := (zRI, zTI, 1)) hK hP (ci := 1) (q0 := 5) rfl rfl) rfl hl.1 rfl (Nat.le_of_ble_eq_true rfl) zdX_draw_39 ⟨Nat.le_of_ble_eq_true rfl, Nat.le_of_ble_eq_true rfl⟩ rfl rfl (fun u_ H locs hw2 hP hD hS => ?_)
  obtain ⟨o2, n2, w2⟩ := u_
  have hP : va_P g.1 vwCl [(x0, .inr (5, [.ref xw, .ref xp, .ref xd, .ref xe, .ref xb, .ref xl, .ref xt])), (xt, .inr (3, [.ref tt, .ref tz, .int trt])), (b4, .inl (g.2.1, 61, .inl ff)), (h1, .inr (2, [.ref a1, .int (nI t.length)])), (a1, .inl (g.2.1, 60, .inl f)), (h3, .inr (1, [.ref a3])), (a3, .inl (g.2.2, 23, .inr (.inl w2))), (xb, .inr (0, [.ref b1, .ref b2, .ref b3, .ref b4, .int (nI t.length)])), (b1, .inl (g.2.1, 61, .inl fc2)), (b2, .inl (g.2.1, 61, .inl o2)), (b3, .inl (g.2.1, 61, .inl n2)), (tz, .inr (4, [.ref tsr, .ref tsp, .int (nI t.length)])), (tsr, .inl (g.2.1, 61, .inl fr2)), (tsp, .inl (g.2.1, 61, .inl fp2))] H := hP
  have hD : va_D A [(x0, .inr (5, [.ref xw, .ref xp, .ref xd, .ref xe, .ref xb, .ref xl, .ref xt])), (xt, .inr (3, [.ref tt, .ref tz, .int trt])), (b4, .inl (g.2.1, 61, .inl ff)), (h1, .inr (2, [.ref a1, .int (nI t.length)])), (a1, .inl (g.2.1, 60, .inl f)), (h3, .inr (1, [.ref a3])), (a3, .inl (g.2.2, 23, .inr (.inl w2))), (xb, .inr (0, [.ref b1, .ref b2, .ref b3, .ref b4, .int (nI t.length)])), (b1, .inl (g.2.1, 61, .inl fc2)), (b2, .inl (g.2.1, 61, .inl o2)), (b3, .inl (g.2.1, 61, .inl n2)), (tz, .inr (4, [.ref tsr, .ref tsp, .int (nI t.length)])), (tsr, .inl (g.2.1, 61, .inl fr2)), (tsp, .inl (g.2.1, 61, .inl fp2))] := hD
  exact hret (fr2, fp2, fc2, o2, n2, w2) _ _ _ _ (⟨hsu, hw2⟩) (hP.sub [0, 1, 3, 4, 11, 12, 13, 7, 8, 9, 10, 2, 5, 6] rfl) (hD.sub [0, 1, 3, 4, 11, 12, 13, 7, 8, 9, 10, 2, 5, 6] (by decide) rfl) hS zdX_draw_42

set_option maxHeartbeats 4000000 in
set_option maxRecDepth 100000 in
/-- build -/
theorem cX_build (l : Launch) (g : si_G) (x0 xw xp xd xe xb xl xt : Nat) (tt tz tsr tsp b1 b2 b3 b4 : Nat) (trt ta ba : Int32) (fr fp fc fo fn ff : Nat → Int32) (xwa xda : Nat) (f : Nat → Int32) (fw : Nat → Int64) (t : List Nat) (q : Int32) (hok : si_ok t) (hf : si_ln t f) : si_Mi (S := (Nat → Int32) × (Nat → Int32) × Int32 × (Nat → Int32) × (Nat → Int32) × (Nat → Int32) × Int32 × (Nat → Int64)) l g vwCl zyX_build zwX_build ({ frames := 5, cells := 0, slots := 0, locals := 115 } : Room) [.ref x0, .int q] [(x0, .inr (5, [.ref xw, .ref xp, .ref xd, .ref xe, .ref xb, .ref xl, .ref xt])), (xt, .inr (3, [.ref tt, .ref tz, .int trt])), (xw, .inr (2, [.ref xwa, .int (nI t.length)])), (xwa, .inl (g.2.1, 60, .inl f)), (tz, .inr (4, [.ref tsr, .ref tsp, .int ta])), (tsr, .inl (g.2.1, 61, .inl fr)), (tsp, .inl (g.2.1, 61, .inl fp)), (xb, .inr (0, [.ref b1, .ref b2, .ref b3, .ref b4, .int ba])), (b1, .inl (g.2.1, 61, .inl fc)), (b2, .inl (g.2.1, 61, .inl fo)), (b3, .inl (g.2.1, 61, .inl fn)), (b4, .inl (g.2.1, 61, .inl ff)), (xd, .inr (1, [.ref xda])), (xda, .inl (g.2.2, 23, .inr (.inl fw)))] (fun r u => r = nI (si_isR q.toInt64).toNat ∧ (si_isR q.toInt64 = true → ∃ sr, 1 ≤ sr ∧ sr ≤ 16 ∧ q = nI sr ∧ ∀ k, k < 23 → u.2.2.2.2.2.2.2 k = si_im t sr k) ∧ (si_isR q.toInt64 = false → u.2.2.2.2.2.2.2 = fw)) (fun u => [(x0, .inr (5, [.ref xw, .ref xp, .ref xd, .ref xe, .ref xb, .ref xl, .ref xt])), (xt, .inr (3, [.ref tt, .ref tz, .int trt])), (xw, .inr (2, [.ref xwa, .int (nI t.length)])), (xwa, .inl (g.2.1, 60, .inl f)), (tz, .inr (4, [.ref tsr, .ref tsp, .int u.2.2.1])), (tsr, .inl (g.2.1, 61, .inl u.1)), (tsp, .inl (g.2.1, 61, .inl u.2.1)), (xb, .inr (0, [.ref b1, .ref b2, .ref b3, .ref b4, .int u.2.2.2.2.2.2.1])), (b1, .inl (g.2.1, 61, .inl u.2.2.2.1)), (b2, .inl (g.2.1, 61, .inl u.2.2.2.2.1)), (b3, .inl (g.2.1, 61, .inl u.2.2.2.2.2.1)), (b4, .inl (g.2.1, 61, .inl ff)), (xd, .inr (1, [.ref xda])), (xda, .inl (g.2.2, 23, .inr (.inl u.2.2.2.2.2.2.2)))]) := by
  refine si_Mi.of (cc := zkX_build) (maxL := 2) (by decide) rfl (Nat.le_of_ble_eq_true rfl) ?_
  intro p e s m args below meth c A Q ls hF0 hin hK hN hP hD hA hS hl hret
  obtain ⟨hx, hb, hml, hown, hts0⟩ := hF0
  have hts : ∀ w ∈ si_tbl, w.before args s = true := fun w hw => hts0 w (List.mem_cons_of_mem _ hw)
  have hF : CallFix p m c zkX_build 2 s args si_tbl zRX := ⟨hx, hb, hml, hown, hts⟩
  have hl : lv_has ls 2 [(0, .ref x0), (1, .int q)] := hl
  refine lv_iload_n hx hb zdX_build_0 rfl (lv_at hl 1 rfl) ?_
  refine lv_i2l (v := q.toInt64) hx hb zdX_build_1 (rfl) ?_
  refine (cX_isRate l g q.toInt64).callS (wr := [(x0, .inr (5, [.ref xw, .ref xp, .ref xd, .ref xe, .ref xb, .ref xl, .ref xt])), (xt, .inr (3, [.ref tt, .ref tz, .int trt])), (xw, .inr (2, [.ref xwa, .int (nI t.length)])), (xwa, .inl (g.2.1, 60, .inl f)), (tz, .inr (4, [.ref tsr, .ref tsp, .int ta])), (tsr, .inl (g.2.1, 61, .inl fr)), (tsp, .inl (g.2.1, 61, .inl fp)), (xb, .inr (0, [.ref b1, .ref b2, .ref b3, .ref b4, .int ba])), (b1, .inl (g.2.1, 61, .inl fc)), (b2, .inl (g.2.1, 61, .inl fo)), (b3, .inl (g.2.1, 61, .inl fn)), (b4, .inl (g.2.1, 61, .inl ff)), (xd, .inr (1, [.ref xda])), (xda, .inl (g.2.2, 23, .inr (.inl fw)))]) (As := [.long q.toInt64]) (rest := []) hF (si_cS 1 hts zcX_isRate zlX_55 zstX_isRate ziniX zhX_isRate ⟨Nat.le_of_ble_eq_true rfl, Nat.le_of_ble_eq_true rfl⟩) hK hN hP hD hS hA [] [0, 1, 2, 3, 4, 5, 6, 7, 8, 9, 10, 11, 12, 13] rfl rfl (by decide) (by decide) rfl hl.1 rfl (Nat.le_of_ble_eq_true rfl) zdX_build_2 ⟨Nat.le_of_ble_eq_true rfl, Nat.le_of_ble_eq_true rfl⟩ rfl rfl (fun r_ _u H locs hq hP hD hS => ?_)
  subst hq
  have hP : va_P g.1 vwCl [(x0, .inr (5, [.ref xw, .ref xp, .ref xd, .ref xe, .ref xb, .ref xl, .ref xt])), (xt, .inr (3, [.ref tt, .ref tz, .int trt])), (xw, .inr (2, [.ref xwa, .int (nI t.length)])), (xwa, .inl (g.2.1, 60, .inl f)), (tz, .inr (4, [.ref tsr, .ref tsp, .int ta])), (tsr, .inl (g.2.1, 61, .inl fr)), (tsp, .inl (g.2.1, 61, .inl fp)), (xb, .inr (0, [.ref b1, .ref b2, .ref b3, .ref b4, .int ba])), (b1, .inl (g.2.1, 61, .inl fc)), (b2, .inl (g.2.1, 61, .inl fo)), (b3, .inl (g.2.1, 61, .inl fn)), (b4, .inl (g.2.1, 61, .inl ff)), (xd, .inr (1, [.ref xda])), (xda, .inl (g.2.2, 23, .inr (.inl fw)))] H := hP
  have hD : va_D A [(x0, .inr (5, [.ref xw, .ref xp, .ref xd, .ref xe, .ref xb, .ref xl, .ref xt])), (xt, .inr (3, [.ref tt, .ref tz, .int trt])), (xw, .inr (2, [.ref xwa, .int (nI t.length)])), (xwa, .inl (g.2.1, 60, .inl f)), (tz, .inr (4, [.ref tsr, .ref tsp, .int ta])), (tsr, .inl (g.2.1, 61, .inl fr)), (tsp, .inl (g.2.1, 61, .inl fp)), (xb, .inr (0, [.ref b1, .ref b2, .ref b3, .ref b4, .int ba])), (b1, .inl (g.2.1, 61, .inl fc)), (b2, .inl (g.2.1, 61, .inl fo)), (b3, .inl (g.2.1, 61, .inl fn)), (b4, .inl (g.2.1, 61, .inl ff)), (xd, .inr (1, [.ref xda])), (xda, .inl (g.2.2, 23, .inr (.inl fw)))] := hD
  refine si_if_ne (tgt := 10) hx hb zdX_build_5 rfl (si_bn _) (fun h5 => ?_) (fun h5 => ?_)
  · have hd := si_b1 h5
    obtain ⟨sr, hs1, hs2, rfl⟩ := si_isRi_t hd
    refine lv_aload_n hx hb zdX_build_10 rfl (lv_at hl 0 rfl) ?_
    refine lv_aload_n hx hb zdX_build_11 rfl (lv_at hl 0 rfl) ?_
    refine va_get (D := g.1) (ci := 5) (v := .ref xw) (C := zRX) (T := zTX) (N := 7) hx hb hts ziX hown hK hP 0 rfl rfl 0 (by decide) (hts _ zlX_14) (fun _ h => h) rfl zdX_build_12 ?_
    refine lv_iload_n hx hb zdX_build_15 rfl (lv_at hl 1 rfl) ?_
    refine lv_aload_n hx hb zdX_build_16 rfl (lv_at hl 0 rfl) ?_
    refine va_get (D := g.1) (ci := 5) (v := .ref xd) (C := zRX) (T := zTX) (N := 7) hx hb hts ziX hown hK hP 0 rfl rfl 2 (by decide) (hts _ zlX_24) (fun _ h => h) rfl zdX_build_17 ?_
    refine (cX_draw l g x0 xw xp xd xe xb xl xt tt tz tsr tsp b1 b2 b3 b4 trt ta ba fr fp fc fo fn ff xw xwa xd xda f fw t sr hok hf hs1 hs2).callV (wr := []) (As := [.ref xw, .int (nI sr), .ref xd]) (rest := []) hF (si_cV 3 hts zcX_draw zlX_59 zimX_draw zseX_draw ziniX zhX_draw ⟨Nat.le_of_ble_eq_true rfl, Nat.le_of_ble_eq_true rfl⟩) hK hN hP hD hS hA [0, 1, 2, 3, 4, 5, 6, 7, 8, 9, 10, 11, 12, 13] [] rfl rfl (by decide) (by decide) (va_recv (q := (zRX, zTX, 7)) hK hP (ci := 5) (q0 := 0) rfl rfl) rfl hl.1 rfl (Nat.le_of_ble_eq_true rfl) zdX_build_20 ⟨Nat.le_of_ble_eq_true rfl, Nat.le_of_ble_eq_true rfl⟩ rfl rfl (fun u_ H locs hq_ hP hD hS => ?_)
    obtain ⟨fr2, fp2, fc2, o2, n2, w2⟩ := u_
    obtain ⟨hsu, hw2⟩ := hq_
    have hP : va_P g.1 vwCl [(x0, .inr (5, [.ref xw, .ref xp, .ref xd, .ref xe, .ref xb, .ref xl, .ref xt])), (xt, .inr (3, [.ref tt, .ref tz, .int trt])), (xw, .inr (2, [.ref xwa, .int (nI t.length)])), (xwa, .inl (g.2.1, 60, .inl f)), (tz, .inr (4, [.ref tsr, .ref tsp, .int (nI t.length)])), (tsr, .inl (g.2.1, 61, .inl fr2)), (tsp, .inl (g.2.1, 61, .inl fp2)), (xb, .inr (0, [.ref b1, .ref b2, .ref b3, .ref b4, .int (nI t.length)])), (b1, .inl (g.2.1, 61, .inl fc2)), (b2, .inl (g.2.1, 61, .inl o2)), (b3, .inl (g.2.1, 61, .inl n2)), (b4, .inl (g.2.1, 61, .inl ff)), (xd, .inr (1, [.ref xda])), (xda, .inl (g.2.2, 23, .inr (.inl w2)))] H := hP
    have hD : va_D A [(x0, .inr (5, [.ref xw, .ref xp, .ref xd, .ref xe, .ref xb, .ref xl, .ref xt])), (xt, .inr (3, [.ref tt, .ref tz, .int trt])), (xw, .inr (2, [.ref xwa, .int (nI t.length)])), (xwa, .inl (g.2.1, 60, .inl f)), (tz, .inr (4, [.ref tsr, .ref tsp, .int (nI t.length)])), (tsr, .inl (g.2.1, 61, .inl fr2)), (tsp, .inl (g.2.1, 61, .inl fp2)), (xb, .inr (0, [.ref b1, .ref b2, .ref b3, .ref b4, .int (nI t.length)])), (b1, .inl (g.2.1, 61, .inl fc2)), (b2, .inl (g.2.1, 61, .inl o2)), (b3, .inl (g.2.1, 61, .inl n2)), (b4, .inl (g.2.1, 61, .inl ff)), (xd, .inr (1, [.ref xda])), (xda, .inl (g.2.2, 23, .inr (.inl w2)))] := hD
    refine lv_iconst (v := nI 1) hx hb zdX_build_23 (by decide) ?_
    exact hret (nI 1) (fr2, fp2, nI t.length, fc2, o2, n2, nI t.length, w2) _ _ _ _ (rfl) (by rw [hd]; exact ⟨rfl, fun _ => ⟨sr, hs1, hs2, rfl, hw2⟩, fun z => absurd z (by decide)⟩) (hP.sub [0, 1, 2, 3, 4, 5, 6, 7, 8, 9, 10, 11, 12, 13] rfl) (hD.sub [0, 1, 2, 3, 4, 5, 6, 7, 8, 9, 10, 11, 12, 13] (by decide) rfl) hS zdX_build_24
  · have hd := si_b0 h5
    refine lv_iconst (v := nI 0) hx hb zdX_build_8 (by decide) ?_
    exact hret (nI 0) (fr, fp, ta, fc, fo, fn, ba, fw) _ _ _ _ (rfl) (by rw [hd]; exact ⟨rfl, fun z => absurd z (by decide), fun _ => rfl⟩) (hP.sub [0, 1, 2, 3, 4, 5, 6, 7, 8, 9, 10, 11, 12, 13] rfl) (hD.sub [0, 1, 2, 3, 4, 5, 6, 7, 8, 9, 10, 11, 12, 13] (by decide) rfl) hS zdX_build_9

theorem si_rd_no {f : Nat → Int64} {hd : Nat} (h : si_hd f hd) (h1 : 60 < lN (hd % 256)) : ∀ v k, ¬ si_is f v k := by
  intro v k hv
  have h2 := (si_is_rate h hv).2
  have e : (60 : Int64) = lN 60 := rfl
  rw [e] at h1
  have := (pk_lLT (a := 60) (b := hd % 256) (by decide) (by omega)).mp h1
  have := hv.1.1
  omega
theorem si_rd_no2 {f : Nat → Int64} {hd : Nat} (h : si_hd f hd) (h1 : si_isR (lN hd / 256) = false) : ∀ v k, ¬ si_is f v k := by
  intro v k hv
  rw [(si_is_rate h hv).1, si_isR_n hv.2.1 hv.2.2.1] at h1
  cases h1
theorem si_rd_is {f : Nat → Int64} {hd s0 : Nat} (h : si_hd f hd) (hs : s0 ≤ 16) (h1 : lN hd / 256 = lN s0) {v : List Nat} {k : Nat} (hv : si_is f v k) : v.length = hd % 256 ∧ k = s0 ∧ ∀ x, x < hd % 256 + 1 → si_rc (si_db f) (hd % 256 + 1) 7 x = si_B v x := by
  have h2 := si_is_rate h hv
  have h3 := h2.1
  rw [h1] at h3
  have h4 := (pk_lEQ (a := s0) (b := k) (by omega) (by have := hv.2.2.1; omega)).mp h3
  refine ⟨h2.2.symm, h4.symm, fun x hx => ?_⟩
  rw [h2.2] at hx ⊢
  exact si_is_codes hv hx
theorem si_rd_60 {k : Nat} (hk : k < 256) (h : ¬ 60 < lN k) : k ≤ 60 := by
  apply Classical.byContradiction
  intro z
  have e : (60 : Int64) = lN 60 := rfl
  rw [e] at h
  exact h ((pk_lLT (a := 60) (b := k) (by decide) (by omega)).mpr (by omega))
set_option maxHeartbeats 4000000 in
set_option maxRecDepth 100000 in
/-- readDesk -/
theorem cX_readDesk (l : Launch) (g : si_G) (x0 xw xp xd xe xb xl xt : Nat) (tt tz tta xda b1 b2 b3 b4 sz : Nat) (trt ba : Int32) (f fc fo fn ff : Nat → Int32) (fw : Nat → Int64)  : si_Mi (S := Int32 × (Nat → Int32) × Nat × (Nat → Int32) × (Nat → Int32) × (Nat → Int32) × (Nat → Int32) × Int32) l g vwCl zyX_readDesk zwX_readDesk ({ frames := 2, cells := 0, slots := 0, locals := 52 } : Room) [.ref x0] [(x0, .inr (5, [.ref xw, .ref xp, .ref xd, .ref xe, .ref xb, .ref xl, .ref xt])), (xt, .inr (3, [.ref tt, .ref tz, .int trt])), (tt, .inr (2, [.ref tta, .int (nI sz)])), (tta, .inl (g.2.1, 60, .inl f)), (xb, .inr (0, [.ref b1, .ref b2, .ref b3, .ref b4, .int ba])), (b1, .inl (g.2.1, 61, .inl fc)), (b2, .inl (g.2.1, 61, .inl fo)), (b3, .inl (g.2.1, 61, .inl fn)), (b4, .inl (g.2.1, 61, .inl ff)), (xd, .inr (1, [.ref xda])), (xda, .inl (g.2.2, 23, .inr (.inl fw)))] (fun r u => (r = nI 1 ∧ ∃ t sr, si_ok t ∧ 1 ≤ sr ∧ sr ≤ 16 ∧ u.1 = nI sr ∧ u.2.2.1 = t.length ∧ si_ln t u.2.1 ∧ ∀ v k, si_is fw v k → v = t ∧ k = sr) ∨ (r = nI 0 ∧ ∀ v k, ¬ si_is fw v k)) (fun u => [(x0, .inr (5, [.ref xw, .ref xp, .ref xd, .ref xe, .ref xb, .ref xl, .ref xt])), (xt, .inr (3, [.ref tt, .ref tz, .int u.1])), (tt, .inr (2, [.ref tta, .int (nI u.2.2.1)])), (tta, .inl (g.2.1, 60, .inl u.2.1)), (xb, .inr (0, [.ref b1, .ref b2, .ref b3, .ref b4, .int u.2.2.2.2.2.2.2])), (b1, .inl (g.2.1, 61, .inl u.2.2.2.1)), (b2, .inl (g.2.1, 61, .inl u.2.2.2.2.1)), (b3, .inl (g.2.1, 61, .inl u.2.2.2.2.2.1)), (b4, .inl (g.2.1, 61, .inl u.2.2.2.2.2.2.1)), (xd, .inr (1, [.ref xda])), (xda, .inl (g.2.2, 23, .inr (.inl fw)))]) := by
  refine si_Mi.of (cc := zkX_readDesk) (maxL := 7) (by decide) rfl (Nat.le_of_ble_eq_true rfl) ?_
  intro p e s m args below meth c A Q ls hF0 hin hK hN hP hD hA hS hl hret
  obtain ⟨hx, hb, hml, hown, hts0⟩ := hF0
  have hts : ∀ w ∈ si_tbl, w.before args s = true := fun w hw => hts0 w (List.mem_cons_of_mem _ hw)
  have hF : CallFix p m c zkX_readDesk 7 s args si_tbl zRX := ⟨hx, hb, hml, hown, hts⟩
  have hl : lv_has ls 7 [(0, .ref x0)] := hl
  obtain ⟨hd, hhd⟩ := si_hd_of fw
  refine lv_aload_n hx hb zdX_readDesk_0 rfl (lv_at hl 0 rfl) ?_
  refine va_get (D := g.1) (ci := 5) (v := .ref xd) (C := zRX) (T := zTX) (N := 7) hx hb hts ziX hown hK hP 0 rfl rfl 2 (by decide) (hts _ zlX_24) (fun _ h => h) rfl zdX_readDesk_1 ?_
  refine va_getN (D := g.1) (ci := 1) (v := .ref xda) (C := zRI) (T := zTI) (N := 1) hx hb hts ziI hown hK hP 9 rfl rfl 0 (by decide) (va_Nw.use rfl (hN _ zlX_66)) (fun _ h => h) rfl zdX_readDesk_4 ?_
  refine lv_iconst (v := nI 0) hx hb zdX_readDesk_7 (by decide) ?_
  refine si_lald (v := lN hd) hx hb hK hP 10 1 rfl rfl (by decide) (by omega) (hhd.1) zdX_readDesk_8 ?_
  refine lv_lstore_n (lv' := [(1, .long (lN hd)), (0, .ref x0)]) hx hb zdX_readDesk_9 rfl hl (Nat.le_of_ble_eq_true rfl) rfl (fun ls hl => ?_)
  refine lv_lload_n hx hb zdX_readDesk_10 rfl (lv_at hl 0 rfl) ?_
  refine lv_ldc2 (v := 255) hx hb hown (hts (.constantLong zRX 140 255) (by decide +kernel)) zdX_readDesk_11 ?_
  refine si_land (v := lN (hd % 256)) hx hb zdX_readDesk_14 (wb_mask (k := 8) hhd.2 (by decide)) ?_
  refine lv_lstore_n (lv' := [(3, .long (lN (hd % 256))), (1, .long (lN hd)), (0, .ref x0)]) hx hb zdX_readDesk_15 rfl hl (Nat.le_of_ble_eq_true rfl) rfl (fun ls hl => ?_)
  refine lv_lload_n hx hb zdX_readDesk_16 rfl (lv_at hl 1 rfl) ?_
  refine lv_ldc2 (v := 256) hx hb hown (hts (.constantLong zRX 142 256) (by decide +kernel)) zdX_readDesk_17 ?_
  refine si_ldiv (v := lN hd / 256) hx hb zdX_readDesk_20 (by decide) (rfl) ?_
  refine lv_lstore (lv' := [(5, .long (lN hd / 256)), (3, .long (lN (hd % 256))), (1, .long (lN hd)), (0, .ref x0)]) hx hb zdX_readDesk_21 hl (Nat.le_of_ble_eq_true rfl) rfl (fun ls hl => ?_)
  refine lv_lload_n hx hb zdX_readDesk_23 rfl (lv_at hl 1 rfl) ?_
  refine lv_ldc2 (v := 60) hx hb hown (hts (.constantLong zRX 144 60) (by decide +kernel)) zdX_readDesk_24 ?_
  refine W.lcmp hx hb zdX_readDesk_27 ?_
  refine lv_if_gt (tgt := 39) hx hb zdX_readDesk_28 rfl (fun h28 => ?_) (fun h28 => ?_)
  · have hno := si_rd_no hhd ((si_lcG _ _).mp h28)
    refine lv_iconst (v := nI 0) hx hb zdX_readDesk_39 (by decide) ?_
    exact hret (nI 0) (trt, f, sz, fc, fo, fn, ff, ba) _ _ _ _ (rfl) (Or.inr ⟨rfl, hno⟩) (hP.sub [0, 1, 2, 3, 4, 5, 6, 7, 8, 9, 10] rfl) (hD.sub [0, 1, 2, 3, 4, 5, 6, 7, 8, 9, 10] (by decide) rfl) hS zdX_readDesk_40
  · have hn := si_rd_60 (k := hd % 256) (by omega) (fun z => h28 ((si_lcG _ _).mpr z))
    refine lv_lload hx hb zdX_readDesk_31 (lv_at hl 0 rfl) ?_
    refine (cX_isRate l g (lN hd / 256)).callS (wr := [(x0, .inr (5, [.ref xw, .ref xp, .ref xd, .ref xe, .ref xb, .ref xl, .ref xt])), (xt, .inr (3, [.ref tt, .ref tz, .int trt])), (tt, .inr (2, [.ref tta, .int (nI sz)])), (tta, .inl (g.2.1, 60, .inl f)), (xb, .inr (0, [.ref b1, .ref b2, .ref b3, .ref b4, .int ba])), (b1, .inl (g.2.1, 61, .inl fc)), (b2, .inl (g.2.1, 61, .inl fo)), (b3, .inl (g.2.1, 61, .inl fn)), (b4, .inl (g.2.1, 61, .inl ff)), (xd, .inr (1, [.ref xda])), (xda, .inl (g.2.2, 23, .inr (.inl fw)))]) (As := [.long (lN hd / 256)]) (rest := []) hF (si_cS 1 hts zcX_isRate zlX_55 zstX_isRate ziniX zhX_isRate ⟨Nat.le_of_ble_eq_true rfl, Nat.le_of_ble_eq_true rfl⟩) hK hN hP hD hS hA [] [0, 1, 2, 3, 4, 5, 6, 7, 8, 9, 10] rfl rfl (by decide) (by decide) rfl hl.1 rfl (Nat.le_of_ble_eq_true rfl) zdX_readDesk_33 ⟨Nat.le_of_ble_eq_true rfl, Nat.le_of_ble_eq_true rfl⟩ rfl rfl (fun r_ _u H locs hq hP hD hS => ?_)
    subst hq
    have hP : va_P g.1 vwCl [(x0, .inr (5, [.ref xw, .ref xp, .ref xd, .ref xe, .ref xb, .ref xl, .ref xt])), (xt, .inr (3, [.ref tt, .ref tz, .int trt])), (tt, .inr (2, [.ref tta, .int (nI sz)])), (tta, .inl (g.2.1, 60, .inl f)), (xb, .inr (0, [.ref b1, .ref b2, .ref b3, .ref b4, .int ba])), (b1, .inl (g.2.1, 61, .inl fc)), (b2, .inl (g.2.1, 61, .inl fo)), (b3, .inl (g.2.1, 61, .inl fn)), (b4, .inl (g.2.1, 61, .inl ff)), (xd, .inr (1, [.ref xda])), (xda, .inl (g.2.2, 23, .inr (.inl fw)))] H := hP
    have hD : va_D A [(x0, .inr (5, [.ref xw, .ref xp, .ref xd, .ref xe, .ref xb, .ref xl, .ref xt])), (xt, .inr (3, [.ref tt, .ref tz, .int trt])), (tt, .inr (2, [.ref tta, .int (nI sz)])), (tta, .inl (g.2.1, 60, .inl f)), (xb, .inr (0, [.ref b1, .ref b2, .ref b3, .ref b4, .int ba])), (b1, .inl (g.2.1, 61, .inl fc)), (b2, .inl (g.2.1, 61, .inl fo)), (b3, .inl (g.2.1, 61, .inl fn)), (b4, .inl (g.2.1, 61, .inl ff)), (xd, .inr (1, [.ref xda])), (xda, .inl (g.2.2, 23, .inr (.inl fw)))] := hD
    refine si_if_ne (tgt := 41) hx hb zdX_readDesk_36 rfl (si_bn _) (fun h36 => ?_) (fun h36 => ?_)
    · obtain ⟨s0, hs1, hs2, hxs⟩ := si_isR_t (si_b1 h36)
      refine lv_aload_n hx hb zdX_readDesk_41 rfl (lv_at hl 3 rfl) ?_
      refine va_get (D := g.1) (ci := 5) (v := .ref xb) (C := zRX) (T := zTX) (N := 7) hx hb hts ziX hown hK hP 0 rfl rfl 4 (by decide) (hts _ zlX_34) (fun _ h => h) rfl zdX_readDesk_42 ?_
      refine lv_aload_n hx hb zdX_readDesk_45 rfl (lv_at hl 3 rfl) ?_
      refine va_get (D := g.1) (ci := 5) (v := .ref xd) (C := zRX) (T := zTX) (N := 7) hx hb hts ziX hown hK hP 0 rfl rfl 2 (by decide) (hts _ zlX_24) (fun _ h => h) rfl zdX_readDesk_46 ?_
      refine lv_lload_n hx hb zdX_readDesk_49 rfl (lv_at hl 1 rfl) ?_
      refine lv_l2i (v := nI (hd % 256)) hx hb zdX_readDesk_50 (lN_i _) ?_
      refine (cB_readLevels l g xb b1 b2 b3 b4 (hd % 256) xd xda ba fc fo fn fw hn).callV (wr := [(x0, .inr (5, [.ref xw, .ref xp, .ref xd, .ref xe, .ref xb, .ref xl, .ref xt])), (xt, .inr (3, [.ref tt, .ref tz, .int trt])), (tt, .inr (2, [.ref tta, .int (nI sz)])), (tta, .inl (g.2.1, 60, .inl f)), (b4, .inl (g.2.1, 61, .inl ff))]) (As := [.ref xd, .int (nI (hd % 256))]) (rest := []) hF (si_cV 2 hts zcB_readLevels zlX_146 zimB_readLevels zseB_readLevels ziniB zhB_readLevels ⟨Nat.le_of_ble_eq_true rfl, Nat.le_of_ble_eq_true rfl⟩) hK hN hP hD hS hA [4, 5, 6, 7, 9, 10] [0, 1, 2, 3, 8] rfl rfl (by decide) (by decide) (va_recv (q := (zRB, zTB, 5)) hK hP (ci := 0) (q0 := 4) rfl rfl) rfl hl.1 rfl (Nat.le_of_ble_eq_true rfl) zdX_readDesk_51 ⟨Nat.le_of_ble_eq_true rfl, Nat.le_of_ble_eq_true rfl⟩ rfl rfl (fun u_ H locs hc2 hP hD hS => ?_)
      obtain ⟨c2, o2, n2⟩ := u_
      have hc2 : ∀ x, x < hd % 256 + 1 → c2 x = nI (si_rc (si_db fw) (hd % 256 + 1) 7 x) := hc2
      have hP : va_P g.1 vwCl [(x0, .inr (5, [.ref xw, .ref xp, .ref xd, .ref xe, .ref xb, .ref xl, .ref xt])), (xt, .inr (3, [.ref tt, .ref tz, .int trt])), (tt, .inr (2, [.ref tta, .int (nI sz)])), (tta, .inl (g.2.1, 60, .inl f)), (b4, .inl (g.2.1, 61, .inl ff)), (xb, .inr (0, [.ref b1, .ref b2, .ref b3, .ref b4, .int (nI (hd % 256))])), (b1, .inl (g.2.1, 61, .inl c2)), (b2, .inl (g.2.1, 61, .inl o2)), (b3, .inl (g.2.1, 61, .inl n2)), (xd, .inr (1, [.ref xda])), (xda, .inl (g.2.2, 23, .inr (.inl fw)))] H := hP
      have hD : va_D A [(x0, .inr (5, [.ref xw, .ref xp, .ref xd, .ref xe, .ref xb, .ref xl, .ref xt])), (xt, .inr (3, [.ref tt, .ref tz, .int trt])), (tt, .inr (2, [.ref tta, .int (nI sz)])), (tta, .inl (g.2.1, 60, .inl f)), (b4, .inl (g.2.1, 61, .inl ff)), (xb, .inr (0, [.ref b1, .ref b2, .ref b3, .ref b4, .int (nI (hd % 256))])), (b1, .inl (g.2.1, 61, .inl c2)), (b2, .inl (g.2.1, 61, .inl o2)), (b3, .inl (g.2.1, 61, .inl n2)), (xd, .inr (1, [.ref xda])), (xda, .inl (g.2.2, 23, .inr (.inl fw)))] := hD
      refine lv_aload_n hx hb zdX_readDesk_54 rfl (lv_at hl 3 rfl) ?_
      refine va_get (D := g.1) (ci := 5) (v := .ref xt) (C := zRX) (T := zTX) (N := 7) hx hb hts ziX hown hK hP 0 rfl rfl 6 (by decide) (hts _ zlX_45) (fun _ h => h) rfl zdX_readDesk_55 ?_
      refine lv_lload hx hb zdX_readDesk_58 (lv_at hl 0 rfl) ?_
      refine lv_l2i (v := nI s0) hx hb zdX_readDesk_60 (by rw [hxs]; exact lN_i _) ?_
      refine va_putN (D := g.1) (ci := 3) (v := .int (nI s0)) (ty := .int) (C := zRR) (T := zTR) (N := 3) hx hb hts ziR ztR ztoR znR hown hK hP hD hS 1 rfl rfl 2 (by decide) (va_Nw.use rfl (hN _ zlX_77)) (fun _ h => h) rfl (by decide +kernel) rfl rfl (Nat.le_of_ble_eq_true rfl) zdX_readDesk_61 (fun H locs hP hD hS => ?_)
      have hP : va_P g.1 vwCl [(x0, .inr (5, [.ref xw, .ref xp, .ref xd, .ref xe, .ref xb, .ref xl, .ref xt])), (xt, .inr (3, [.ref tt, .ref tz, .int (nI s0)])), (tt, .inr (2, [.ref tta, .int (nI sz)])), (tta, .inl (g.2.1, 60, .inl f)), (b4, .inl (g.2.1, 61, .inl ff)), (xb, .inr (0, [.ref b1, .ref b2, .ref b3, .ref b4, .int (nI (hd % 256))])), (b1, .inl (g.2.1, 61, .inl c2)), (b2, .inl (g.2.1, 61, .inl o2)), (b3, .inl (g.2.1, 61, .inl n2)), (xd, .inr (1, [.ref xda])), (xda, .inl (g.2.2, 23, .inr (.inl fw)))] H := hP
      have hD : va_D A [(x0, .inr (5, [.ref xw, .ref xp, .ref xd, .ref xe, .ref xb, .ref xl, .ref xt])), (xt, .inr (3, [.ref tt, .ref tz, .int (nI s0)])), (tt, .inr (2, [.ref tta, .int (nI sz)])), (tta, .inl (g.2.1, 60, .inl f)), (b4, .inl (g.2.1, 61, .inl ff)), (xb, .inr (0, [.ref b1, .ref b2, .ref b3, .ref b4, .int (nI (hd % 256))])), (b1, .inl (g.2.1, 61, .inl c2)), (b2, .inl (g.2.1, 61, .inl o2)), (b3, .inl (g.2.1, 61, .inl n2)), (xd, .inr (1, [.ref xda])), (xda, .inl (g.2.2, 23, .inr (.inl fw)))] := hD
      refine lv_aload_n hx hb zdX_readDesk_64 rfl (lv_at hl 3 rfl) ?_
      refine va_get (D := g.1) (ci := 5) (v := .ref xb) (C := zRX) (T := zTX) (N := 7) hx hb hts ziX hown hK hP 0 rfl rfl 4 (by decide) (hts _ zlX_34) (fun _ h => h) rfl zdX_readDesk_65 ?_
      refine lv_aload_n hx hb zdX_readDesk_68 rfl (lv_at hl 3 rfl) ?_
      refine va_get (D := g.1) (ci := 5) (v := .ref xt) (C := zRX) (T := zTX) (N := 7) hx hb hts ziX hown hK hP 0 rfl rfl 6 (by decide) (hts _ zlX_45) (fun _ h => h) rfl zdX_readDesk_69 ?_
      refine va_getN (D := g.1) (ci := 3) (v := .ref tt) (C := zRR) (T := zTR) (N := 3) hx hb hts ziR hown hK hP 1 rfl rfl 0 (by decide) (va_Nw.use rfl (hN _ zlX_74)) (fun _ h => h) rfl zdX_readDesk_72 ?_
      refine (cB_spell l g xb b1 b2 b3 b4 (hd % 256) tt tta c2 ff f (nI sz) (si_rc (si_db fw) (hd % 256 + 1) 7) hn hc2 (fun x _ => si_rc_lt _ _ 7 x)).callV (wr := [(x0, .inr (5, [.ref xw, .ref xp, .ref xd, .ref xe, .ref xb, .ref xl, .ref xt])), (xt, .inr (3, [.ref tt, .ref tz, .int (nI s0)])), (b2, .inl (g.2.1, 61, .inl o2)), (b3, .inl (g.2.1, 61, .inl n2)), (xd, .inr (1, [.ref xda])), (xda, .inl (g.2.2, 23, .inr (.inl fw)))]) (As := [.ref tt]) (rest := []) hF (si_cV 1 hts zcB_spell zlX_150 zimB_spell zseB_spell ziniB zhB_spell ⟨Nat.le_of_ble_eq_true rfl, Nat.le_of_ble_eq_true rfl⟩) hK hN hP hD hS hA [5, 6, 4, 2, 3] [0, 1, 7, 8, 9, 10] rfl rfl (by decide) (by decide) (va_recv (q := (zRB, zTB, 5)) hK hP (ci := 0) (q0 := 5) rfl rfl) rfl hl.1 rfl (Nat.le_of_ble_eq_true rfl) zdX_readDesk_75 ⟨Nat.le_of_ble_eq_true rfl, Nat.le_of_ble_eq_true rfl⟩ rfl rfl (fun r_ u_ H locs hq hP hD hS => ?_)
      obtain ⟨ff2, f2, z2⟩ := u_
      have hP : va_P g.1 vwCl [(x0, .inr (5, [.ref xw, .ref xp, .ref xd, .ref xe, .ref xb, .ref xl, .ref xt])), (xt, .inr (3, [.ref tt, .ref tz, .int (nI s0)])), (b2, .inl (g.2.1, 61, .inl o2)), (b3, .inl (g.2.1, 61, .inl n2)), (xd, .inr (1, [.ref xda])), (xda, .inl (g.2.2, 23, .inr (.inl fw))), (xb, .inr (0, [.ref b1, .ref b2, .ref b3, .ref b4, .int (nI (hd % 256))])), (b1, .inl (g.2.1, 61, .inl c2)), (b4, .inl (g.2.1, 61, .inl ff2)), (tt, .inr (2, [.ref tta, .int (nI z2)])), (tta, .inl (g.2.1, 60, .inl f2))] H := hP
      have hD : va_D A [(x0, .inr (5, [.ref xw, .ref xp, .ref xd, .ref xe, .ref xb, .ref xl, .ref xt])), (xt, .inr (3, [.ref tt, .ref tz, .int (nI s0)])), (b2, .inl (g.2.1, 61, .inl o2)), (b3, .inl (g.2.1, 61, .inl n2)), (xd, .inr (1, [.ref xda])), (xda, .inl (g.2.2, 23, .inr (.inl fw))), (xb, .inr (0, [.ref b1, .ref b2, .ref b3, .ref b4, .int (nI (hd % 256))])), (b1, .inl (g.2.1, 61, .inl c2)), (b4, .inl (g.2.1, 61, .inl ff2)), (tt, .inr (2, [.ref tta, .int (nI z2)])), (tta, .inl (g.2.1, 60, .inl f2))] := hD
      have hpost : (r_ = nI 1 ∧ ∃ t sr, si_ok t ∧ 1 ≤ sr ∧ sr ≤ 16 ∧ nI s0 = nI sr ∧ z2 = t.length ∧ si_ln t f2 ∧ ∀ v k, si_is fw v k → v = t ∧ k = sr) ∨ (r_ = nI 0 ∧ ∀ v k, ¬ si_is fw v k) := by
        rcases hq with ⟨hr, hz, t, ho, hl2, hln, hall⟩ | ⟨hr, hall⟩
        · refine Or.inl ⟨hr, t, s0, ho, hs1, hs2, rfl, (show z2 = _ from hz).trans hl2.symm, hln, fun v k hv => ?_⟩
          obtain ⟨e1, e2, e3⟩ := si_rd_is hhd hs2 hxs hv
          exact ⟨hall v hv.1 e1 e3, e2⟩
        · refine Or.inr ⟨hr, fun v k hv => ?_⟩
          obtain ⟨e1, e2, e3⟩ := si_rd_is hhd hs2 hxs hv
          exact hall v hv.1 e1 e3
      exact hret r_ (nI s0, f2, z2, c2, o2, n2, ff2, nI (hd % 256)) _ _ _ _ (by rcases hq with ⟨h, _⟩ | ⟨h, _⟩ <;> (rw [h]; rfl)) (hpost) (hP.sub [0, 1, 9, 10, 6, 7, 2, 3, 8, 4, 5] rfl) (hD.sub [0, 1, 9, 10, 6, 7, 2, 3, 8, 4, 5] (by decide) rfl) hS zdX_readDesk_78
    · have hno := si_rd_no2 hhd (si_b0 h36)
      refine lv_iconst (v := nI 0) hx hb zdX_readDesk_39 (by decide) ?_
      exact hret (nI 0) (trt, f, sz, fc, fo, fn, ff, ba) _ _ _ _ (rfl) (Or.inr ⟨rfl, hno⟩) (hP.sub [0, 1, 2, 3, 4, 5, 6, 7, 8, 9, 10] rfl) (hD.sub [0, 1, 2, 3, 4, 5, 6, 7, 8, 9, 10] (by decide) rfl) hS zdX_readDesk_40

set_option maxHeartbeats 4000000 in
set_option maxRecDepth 100000 in
/-- load -/
theorem cX_load (l : Launch) (g : si_G) (x0 xw xp xd xe xb xl xt : Nat) (tt tz tsr tsp b1 b2 b3 b4 : Nat) (trt ta ba : Int32) (fr fp fc fo fn ff : Nat → Int32) (tta xda xea sz : Nat) (f : Nat → Int32) (fw fe : Nat → Int64)  : si_Mi (S := Nat × Nat × Int32 × (Nat → Int32) × Nat × (Nat → Int32) × (Nat → Int32) × Int32 × (Nat → Int32) × (Nat → Int32) × (Nat → Int32) × (Nat → Int32) × Int32 × (Nat → Int64)) l g vwCl zyX_load zwX_load ({ frames := 5, cells := 0, slots := 0, locals := 115 } : Room) [.ref x0] [(x0, .inr (5, [.ref xw, .ref xp, .ref xd, .ref xe, .ref xb, .ref xl, .ref xt])), (xt, .inr (3, [.ref tt, .ref tz, .int trt])), (tt, .inr (2, [.ref tta, .int (nI sz)])), (tta, .inl (g.2.1, 60, .inl f)), (tz, .inr (4, [.ref tsr, .ref tsp, .int ta])), (tsr, .inl (g.2.1, 61, .inl fr)), (tsp, .inl (g.2.1, 61, .inl fp)), (xb, .inr (0, [.ref b1, .ref b2, .ref b3, .ref b4, .int ba])), (b1, .inl (g.2.1, 61, .inl fc)), (b2, .inl (g.2.1, 61, .inl fo)), (b3, .inl (g.2.1, 61, .inl fn)), (b4, .inl (g.2.1, 61, .inl ff)), (xd, .inr (1, [.ref xda])), (xda, .inl (g.2.2, 23, .inr (.inl fw))), (xe, .inr (1, [.ref xea])), (xea, .inl (g.2.2, 23, .inr (.inl fe)))] (fun r u => (r = nI 1 ∧ u.1 = xt ∧ u.2.1 = xl ∧ ∃ t sr, si_is fw t sr ∧ u.2.2.1 = nI sr ∧ u.2.2.2.2.1 = t.length ∧ si_ln t u.2.2.2.1 ∧ si_su t u.2.2.2.2.2.1 u.2.2.2.2.2.2.1) ∨ (r = nI 0 ∧ u.1 = xl ∧ u.2.1 = xt ∧ ∀ v k, ¬ si_is fw v k)) (fun u => [(x0, .inr (5, [.ref xw, .ref xp, .ref xd, .ref xe, .ref xb, .ref u.1, .ref u.2.1])), (xt, .inr (3, [.ref tt, .ref tz, .int u.2.2.1])), (tt, .inr (2, [.ref tta, .int (nI u.2.2.2.2.1)])), (tta, .inl (g.2.1, 60, .inl u.2.2.2.1)), (tz, .inr (4, [.ref tsr, .ref tsp, .int u.2.2.2.2.2.2.2.1])), (tsr, .inl (g.2.1, 61, .inl u.2.2.2.2.2.1)), (tsp, .inl (g.2.1, 61, .inl u.2.2.2.2.2.2.1)), (xb, .inr (0, [.ref b1, .ref b2, .ref b3, .ref b4, .int u.2.2.2.2.2.2.2.2.2.2.2.2.1])), (b1, .inl (g.2.1, 61, .inl u.2.2.2.2.2.2.2.2.1)), (b2, .inl (g.2.1, 61, .inl u.2.2.2.2.2.2.2.2.2.1)), (b3, .inl (g.2.1, 61, .inl u.2.2.2.2.2.2.2.2.2.2.1)), (b4, .inl (g.2.1, 61, .inl u.2.2.2.2.2.2.2.2.2.2.2.1)), (xd, .inr (1, [.ref xda])), (xda, .inl (g.2.2, 23, .inr (.inl fw))), (xe, .inr (1, [.ref xea])), (xea, .inl (g.2.2, 23, .inr (.inl u.2.2.2.2.2.2.2.2.2.2.2.2.2)))]) := by
  refine si_Mi.of (cc := zkX_load) (maxL := 2) (by decide) rfl (Nat.le_of_ble_eq_true rfl) ?_
  intro p e s m args below meth c A Q ls hF0 hin hK hN hP hD hA hS hl hret
  obtain ⟨hx, hb, hml, hown, hts0⟩ := hF0
  have hts : ∀ w ∈ si_tbl, w.before args s = true := fun w hw => hts0 w (List.mem_cons_of_mem _ hw)
  have hF : CallFix p m c zkX_load 2 s args si_tbl zRX := ⟨hx, hb, hml, hown, hts⟩
  have hl : lv_has ls 2 [(0, .ref x0)] := hl
  refine lv_aload_n hx hb zdX_load_0 rfl (lv_at hl 0 rfl) ?_
  refine (cX_readDesk l g x0 xw xp xd xe xb xl xt tt tz tta xda b1 b2 b3 b4 sz trt ba f fc fo fn ff fw).callV (wr := [(tz, .inr (4, [.ref tsr, .ref tsp, .int ta])), (tsr, .inl (g.2.1, 61, .inl fr)), (tsp, .inl (g.2.1, 61, .inl fp)), (xe, .inr (1, [.ref xea])), (xea, .inl (g.2.2, 23, .inr (.inl fe)))]) (As := []) (rest := []) hF (si_cV 0 hts zcX_readDesk zlX_70 zimX_readDesk zseX_readDesk ziniX zhX_readDesk ⟨Nat.le_of_ble_eq_true rfl, Nat.le_of_ble_eq_true rfl⟩) hK hN hP hD hS hA [0, 1, 2, 3, 7, 8, 9, 10, 11, 12, 13] [4, 5, 6, 14, 15] rfl rfl (by decide) (by decide) (va_recv (q := (zRX, zTX, 7)) hK hP (ci := 5) (q0 := 0) rfl rfl) rfl hl.1 rfl (Nat.le_of_ble_eq_true rfl) zdX_load_1 ⟨Nat.le_of_ble_eq_true rfl, Nat.le_of_ble_eq_true rfl⟩ rfl rfl (fun r_ u_ H locs hq hP hD hS => ?_)
  obtain ⟨rt2, f2, z2, c2, o2, n2, ff2, lb2⟩ := u_
  have hP : va_P g.1 vwCl [(tz, .inr (4, [.ref tsr, .ref tsp, .int ta])), (tsr, .inl (g.2.1, 61, .inl fr)), (tsp, .inl (g.2.1, 61, .inl fp)), (xe, .inr (1, [.ref xea])), (xea, .inl (g.2.2, 23, .inr (.inl fe))), (x0, .inr (5, [.ref xw, .ref xp, .ref xd, .ref xe, .ref xb, .ref xl, .ref xt])), (xt, .inr (3, [.ref tt, .ref tz, .int rt2])), (tt, .inr (2, [.ref tta, .int (nI z2)])), (tta, .inl (g.2.1, 60, .inl f2)), (xb, .inr (0, [.ref b1, .ref b2, .ref b3, .ref b4, .int lb2])), (b1, .inl (g.2.1, 61, .inl c2)), (b2, .inl (g.2.1, 61, .inl o2)), (b3, .inl (g.2.1, 61, .inl n2)), (b4, .inl (g.2.1, 61, .inl ff2)), (xd, .inr (1, [.ref xda])), (xda, .inl (g.2.2, 23, .inr (.inl fw)))] H := hP
  have hD : va_D A [(tz, .inr (4, [.ref tsr, .ref tsp, .int ta])), (tsr, .inl (g.2.1, 61, .inl fr)), (tsp, .inl (g.2.1, 61, .inl fp)), (xe, .inr (1, [.ref xea])), (xea, .inl (g.2.2, 23, .inr (.inl fe))), (x0, .inr (5, [.ref xw, .ref xp, .ref xd, .ref xe, .ref xb, .ref xl, .ref xt])), (xt, .inr (3, [.ref tt, .ref tz, .int rt2])), (tt, .inr (2, [.ref tta, .int (nI z2)])), (tta, .inl (g.2.1, 60, .inl f2)), (xb, .inr (0, [.ref b1, .ref b2, .ref b3, .ref b4, .int lb2])), (b1, .inl (g.2.1, 61, .inl c2)), (b2, .inl (g.2.1, 61, .inl o2)), (b3, .inl (g.2.1, 61, .inl n2)), (b4, .inl (g.2.1, 61, .inl ff2)), (xd, .inr (1, [.ref xda])), (xda, .inl (g.2.2, 23, .inr (.inl fw)))] := hD
  refine lv_if_ne (tgt := 9) hx hb zdX_load_4 rfl (fun h4 => ?_) (fun h4 => ?_)
  · obtain ⟨-, t, sr, ho, hs1, hs2, e1, e2, hln, hall⟩ := si_or_l hq (fun z => h4 (z.1.trans nI_0))
    have e1 : rt2 = nI sr := e1
    have e2 : z2 = t.length := e2
    subst e1 e2
    refine lv_aload_n hx hb zdX_load_9 rfl (lv_at hl 0 rfl) ?_
    refine lv_aload_n hx hb zdX_load_10 rfl (lv_at hl 0 rfl) ?_
    refine va_get (D := g.1) (ci := 5) (v := .ref xt) (C := zRX) (T := zTX) (N := 7) hx hb hts ziX hown hK hP 5 rfl rfl 6 (by decide) (hts _ zlX_45) (fun _ h => h) rfl zdX_load_11 ?_
    refine va_getN (D := g.1) (ci := 3) (v := .ref tt) (C := zRR) (T := zTR) (N := 3) hx hb hts ziR hown hK hP 6 rfl rfl 0 (by decide) (va_Nw.use rfl (hN _ zlX_74)) (fun _ h => h) rfl zdX_load_14 ?_
    refine lv_aload_n hx hb zdX_load_17 rfl (lv_at hl 0 rfl) ?_
    refine va_get (D := g.1) (ci := 5) (v := .ref xt) (C := zRX) (T := zTX) (N := 7) hx hb hts ziX hown hK hP 5 rfl rfl 6 (by decide) (hts _ zlX_45) (fun _ h => h) rfl zdX_load_18 ?_
    refine va_getN (D := g.1) (ci := 3) (v := .int (nI sr)) (C := zRR) (T := zTR) (N := 3) hx hb hts ziR hown hK hP 6 rfl rfl 2 (by decide) (va_Nw.use rfl (hN _ zlX_77)) (fun _ h => h) rfl zdX_load_21 ?_
    refine lv_aload_n hx hb zdX_load_24 rfl (lv_at hl 0 rfl) ?_
    refine va_get (D := g.1) (ci := 5) (v := .ref xe) (C := zRX) (T := zTX) (N := 7) hx hb hts ziX hown hK hP 5 rfl rfl 3 (by decide) (hts _ zlX_28) (fun _ h => h) rfl zdX_load_25 ?_
    refine (cX_draw l g x0 xw xp xd xe xb xl xt tt tz tsr tsp b1 b2 b3 b4 (nI sr) ta lb2 fr fp c2 o2 n2 ff2 tt tta xe xea f2 fe t sr ho hln hs1 hs2).callV (wr := [(xd, .inr (1, [.ref xda])), (xda, .inl (g.2.2, 23, .inr (.inl fw)))]) (As := [.ref tt, .int (nI sr), .ref xe]) (rest := []) hF (si_cV 3 hts zcX_draw zlX_59 zimX_draw zseX_draw ziniX zhX_draw ⟨Nat.le_of_ble_eq_true rfl, Nat.le_of_ble_eq_true rfl⟩) hK hN hP hD hS hA [5, 6, 7, 8, 0, 1, 2, 9, 10, 11, 12, 13, 3, 4] [14, 15] rfl rfl (by decide) (by decide) (va_recv (q := (zRX, zTX, 7)) hK hP (ci := 5) (q0 := 5) rfl rfl) rfl hl.1 rfl (Nat.le_of_ble_eq_true rfl) zdX_load_28 ⟨Nat.le_of_ble_eq_true rfl, Nat.le_of_ble_eq_true rfl⟩ rfl rfl (fun u_ H locs hq_ hP hD hS => ?_)
    obtain ⟨fr3, fp3, c3, o3, n3, w3⟩ := u_
    obtain ⟨hsu, hw3⟩ := hq_
    have hsu : si_su t fr3 fp3 := hsu
    have hw3 : ∀ k, k < 23 → w3 k = si_im t sr k := hw3
    have hP : va_P g.1 vwCl [(xd, .inr (1, [.ref xda])), (xda, .inl (g.2.2, 23, .inr (.inl fw))), (x0, .inr (5, [.ref xw, .ref xp, .ref xd, .ref xe, .ref xb, .ref xl, .ref xt])), (xt, .inr (3, [.ref tt, .ref tz, .int (nI sr)])), (tt, .inr (2, [.ref tta, .int (nI t.length)])), (tta, .inl (g.2.1, 60, .inl f2)), (tz, .inr (4, [.ref tsr, .ref tsp, .int (nI t.length)])), (tsr, .inl (g.2.1, 61, .inl fr3)), (tsp, .inl (g.2.1, 61, .inl fp3)), (xb, .inr (0, [.ref b1, .ref b2, .ref b3, .ref b4, .int (nI t.length)])), (b1, .inl (g.2.1, 61, .inl c3)), (b2, .inl (g.2.1, 61, .inl o3)), (b3, .inl (g.2.1, 61, .inl n3)), (b4, .inl (g.2.1, 61, .inl ff2)), (xe, .inr (1, [.ref xea])), (xea, .inl (g.2.2, 23, .inr (.inl w3)))] H := hP
    have hD : va_D A [(xd, .inr (1, [.ref xda])), (xda, .inl (g.2.2, 23, .inr (.inl fw))), (x0, .inr (5, [.ref xw, .ref xp, .ref xd, .ref xe, .ref xb, .ref xl, .ref xt])), (xt, .inr (3, [.ref tt, .ref tz, .int (nI sr)])), (tt, .inr (2, [.ref tta, .int (nI t.length)])), (tta, .inl (g.2.1, 60, .inl f2)), (tz, .inr (4, [.ref tsr, .ref tsp, .int (nI t.length)])), (tsr, .inl (g.2.1, 61, .inl fr3)), (tsp, .inl (g.2.1, 61, .inl fp3)), (xb, .inr (0, [.ref b1, .ref b2, .ref b3, .ref b4, .int (nI t.length)])), (b1, .inl (g.2.1, 61, .inl c3)), (b2, .inl (g.2.1, 61, .inl o3)), (b3, .inl (g.2.1, 61, .inl n3)), (b4, .inl (g.2.1, 61, .inl ff2)), (xe, .inr (1, [.ref xea])), (xea, .inl (g.2.2, 23, .inr (.inl w3)))] := hD
    refine lv_aload_n hx hb zdX_load_31 rfl (lv_at hl 0 rfl) ?_
    refine va_get (D := g.1) (ci := 5) (v := .ref xe) (C := zRX) (T := zTX) (N := 7) hx hb hts ziX hown hK hP 2 rfl rfl 3 (by decide) (hts _ zlX_28) (fun _ h => h) rfl zdX_load_32 ?_
    refine lv_aload_n hx hb zdX_load_35 rfl (lv_at hl 0 rfl) ?_
    refine va_get (D := g.1) (ci := 5) (v := .ref xd) (C := zRX) (T := zTX) (N := 7) hx hb hts ziX hown hK hP 2 rfl rfl 2 (by decide) (hts _ zlX_24) (fun _ h => h) rfl zdX_load_36 ?_
    refine (cI_isSameAs l g xe xea xd xda w3 fw).callV (wr := [(x0, .inr (5, [.ref xw, .ref xp, .ref xd, .ref xe, .ref xb, .ref xl, .ref xt])), (xt, .inr (3, [.ref tt, .ref tz, .int (nI sr)])), (tt, .inr (2, [.ref tta, .int (nI t.length)])), (tta, .inl (g.2.1, 60, .inl f2)), (tz, .inr (4, [.ref tsr, .ref tsp, .int (nI t.length)])), (tsr, .inl (g.2.1, 61, .inl fr3)), (tsp, .inl (g.2.1, 61, .inl fp3)), (xb, .inr (0, [.ref b1, .ref b2, .ref b3, .ref b4, .int (nI t.length)])), (b1, .inl (g.2.1, 61, .inl c3)), (b2, .inl (g.2.1, 61, .inl o3)), (b3, .inl (g.2.1, 61, .inl n3)), (b4, .inl (g.2.1, 61, .inl ff2))]) (As := [.ref xd]) (rest := []) hF (si_cV 1 hts zcI_isSameAs zlX_81 zimI_isSameAs zseI_isSameAs ziniI zhI_isSameAs ⟨Nat.le_of_ble_eq_true rfl, Nat.le_of_ble_eq_true rfl⟩) hK hN hP hD hS hA [14, 15, 0, 1] [2, 3, 4, 5, 6, 7, 8, 9, 10, 11, 12, 13] rfl rfl (by decide) (by decide) (va_recv (q := (zRI, zTI, 1)) hK hP (ci := 1) (q0 := 14) rfl rfl) rfl hl.1 rfl (Nat.le_of_ble_eq_true rfl) zdX_load_39 ⟨Nat.le_of_ble_eq_true rfl, Nat.le_of_ble_eq_true rfl⟩ rfl rfl (fun r_ ub H locs hq_ hP hD hS => ?_)
    obtain ⟨hq5, hiff⟩ := hq_
    subst hq5
    have hP : va_P g.1 vwCl [(x0, .inr (5, [.ref xw, .ref xp, .ref xd, .ref xe, .ref xb, .ref xl, .ref xt])), (xt, .inr (3, [.ref tt, .ref tz, .int (nI sr)])), (tt, .inr (2, [.ref tta, .int (nI t.length)])), (tta, .inl (g.2.1, 60, .inl f2)), (tz, .inr (4, [.ref tsr, .ref tsp, .int (nI t.length)])), (tsr, .inl (g.2.1, 61, .inl fr3)), (tsp, .inl (g.2.1, 61, .inl fp3)), (xb, .inr (0, [.ref b1, .ref b2, .ref b3, .ref b4, .int (nI t.length)])), (b1, .inl (g.2.1, 61, .inl c3)), (b2, .inl (g.2.1, 61, .inl o3)), (b3, .inl (g.2.1, 61, .inl n3)), (b4, .inl (g.2.1, 61, .inl ff2)), (xe, .inr (1, [.ref xea])), (xea, .inl (g.2.2, 23, .inr (.inl w3))), (xd, .inr (1, [.ref xda])), (xda, .inl (g.2.2, 23, .inr (.inl fw)))] H := hP
    have hD : va_D A [(x0, .inr (5, [.ref xw, .ref xp, .ref xd, .ref xe, .ref xb, .ref xl, .ref xt])), (xt, .inr (3, [.ref tt, .ref tz, .int (nI sr)])), (tt, .inr (2, [.ref tta, .int (nI t.length)])), (tta, .inl (g.2.1, 60, .inl f2)), (tz, .inr (4, [.ref tsr, .ref tsp, .int (nI t.length)])), (tsr, .inl (g.2.1, 61, .inl fr3)), (tsp, .inl (g.2.1, 61, .inl fp3)), (xb, .inr (0, [.ref b1, .ref b2, .ref b3, .ref b4, .int (nI t.length)])), (b1, .inl (g.2.1, 61, .inl c3)), (b2, .inl (g.2.1, 61, .inl o3)), (b3, .inl (g.2.1, 61, .inl n3)), (b4, .inl (g.2.1, 61, .inl ff2)), (xe, .inr (1, [.ref xea])), (xea, .inl (g.2.2, 23, .inr (.inl w3))), (xd, .inr (1, [.ref xda])), (xda, .inl (g.2.2, 23, .inr (.inl fw)))] := hD
    refine si_if_ne (tgt := 47) hx hb zdX_load_42 rfl (si_bn _) (fun h42 => ?_) (fun h42 => ?_)
    · have hb1 := si_b1 h42
      have his : si_is fw t sr := ⟨ho, hs1, hs2, fun k9 hk9 => by rw [← hiff.mp hb1 k9 hk9, hw3 k9 hk9]⟩
      refine lv_aload_n hx hb zdX_load_47 rfl (lv_at hl 0 rfl) ?_
      refine va_get (D := g.1) (ci := 5) (v := .ref xl) (C := zRX) (T := zTX) (N := 7) hx hb hts ziX hown hK hP 0 rfl rfl 5 (by decide) (hts _ zlX_41) (fun _ h => h) rfl zdX_load_48 ?_
      refine lv_astore_n (lv' := [(1, .ref xl), (0, .ref x0)]) hx hb zdX_load_51 rfl hl (Nat.le_of_ble_eq_true rfl) rfl (fun ls hl => ?_)
      refine lv_aload_n hx hb zdX_load_52 rfl (lv_at hl 1 rfl) ?_
      refine lv_aload_n hx hb zdX_load_53 rfl (lv_at hl 1 rfl) ?_
      refine va_get (D := g.1) (ci := 5) (v := .ref xt) (C := zRX) (T := zTX) (N := 7) hx hb hts ziX hown hK hP 0 rfl rfl 6 (by decide) (hts _ zlX_45) (fun _ h => h) rfl zdX_load_54 ?_
      refine va_put (D := g.1) (ci := 5) (v := .ref xt) (ty := (.object "SelfIndexImage$Reading")) (C := zRX) (T := zTX) (N := 7) hx hb hts ziX ztX ztoX znX hown hK hP hD hS 0 rfl rfl 5 (by decide) (hts _ zlX_41) (fun _ h => h) rfl (by decide +kernel) rfl rfl (Nat.le_of_ble_eq_true rfl) zdX_load_57 (fun H locs hP hD hS => ?_)
      have hP : va_P g.1 vwCl [(x0, .inr (5, [.ref xw, .ref xp, .ref xd, .ref xe, .ref xb, .ref xt, .ref xt])), (xt, .inr (3, [.ref tt, .ref tz, .int (nI sr)])), (tt, .inr (2, [.ref tta, .int (nI t.length)])), (tta, .inl (g.2.1, 60, .inl f2)), (tz, .inr (4, [.ref tsr, .ref tsp, .int (nI t.length)])), (tsr, .inl (g.2.1, 61, .inl fr3)), (tsp, .inl (g.2.1, 61, .inl fp3)), (xb, .inr (0, [.ref b1, .ref b2, .ref b3, .ref b4, .int (nI t.length)])), (b1, .inl (g.2.1, 61, .inl c3)), (b2, .inl (g.2.1, 61, .inl o3)), (b3, .inl (g.2.1, 61, .inl n3)), (b4, .inl (g.2.1, 61, .inl ff2)), (xe, .inr (1, [.ref xea])), (xea, .inl (g.2.2, 23, .inr (.inl w3))), (xd, .inr (1, [.ref xda])), (xda, .inl (g.2.2, 23, .inr (.inl fw)))] H := hP
      have hD : va_D A [(x0, .inr (5, [.ref xw, .ref xp, .ref xd, .ref xe, .ref xb, .ref xt, .ref xt])), (xt, .inr (3, [.ref tt, .ref tz, .int (nI sr)])), (tt, .inr (2, [.ref tta, .int (nI t.length)])), (tta, .inl (g.2.1, 60, .inl f2)), (tz, .inr (4, [.ref tsr, .ref tsp, .int (nI t.length)])), (tsr, .inl (g.2.1, 61, .inl fr3)), (tsp, .inl (g.2.1, 61, .inl fp3)), (xb, .inr (0, [.ref b1, .ref b2, .ref b3, .ref b4, .int (nI t.length)])), (b1, .inl (g.2.1, 61, .inl c3)), (b2, .inl (g.2.1, 61, .inl o3)), (b3, .inl (g.2.1, 61, .inl n3)), (b4, .inl (g.2.1, 61, .inl ff2)), (xe, .inr (1, [.ref xea])), (xea, .inl (g.2.2, 23, .inr (.inl w3))), (xd, .inr (1, [.ref xda])), (xda, .inl (g.2.2, 23, .inr (.inl fw)))] := hD
      refine lv_aload_n hx hb zdX_load_60 rfl (lv_at hl 1 rfl) ?_
      refine lv_aload_n hx hb zdX_load_61 rfl (lv_at hl 0 rfl) ?_
      refine va_put (D := g.1) (ci := 5) (v := .ref xl) (ty := (.object "SelfIndexImage$Reading")) (C := zRX) (T := zTX) (N := 7) hx hb hts ziX ztX ztoX znX hown hK hP hD hS 0 rfl rfl 6 (by decide) (hts _ zlX_45) (fun _ h => h) rfl (by decide +kernel) rfl rfl (Nat.le_of_ble_eq_true rfl) zdX_load_62 (fun H locs hP hD hS => ?_)
      have hP : va_P g.1 vwCl [(x0, .inr (5, [.ref xw, .ref xp, .ref xd, .ref xe, .ref xb, .ref xt, .ref xl])), (xt, .inr (3, [.ref tt, .ref tz, .int (nI sr)])), (tt, .inr (2, [.ref tta, .int (nI t.length)])), (tta, .inl (g.2.1, 60, .inl f2)), (tz, .inr (4, [.ref tsr, .ref tsp, .int (nI t.length)])), (tsr, .inl (g.2.1, 61, .inl fr3)), (tsp, .inl (g.2.1, 61, .inl fp3)), (xb, .inr (0, [.ref b1, .ref b2, .ref b3, .ref b4, .int (nI t.length)])), (b1, .inl (g.2.1, 61, .inl c3)), (b2, .inl (g.2.1, 61, .inl o3)), (b3, .inl (g.2.1, 61, .inl n3)), (b4, .inl (g.2.1, 61, .inl ff2)), (xe, .inr (1, [.ref xea])), (xea, .inl (g.2.2, 23, .inr (.inl w3))), (xd, .inr (1, [.ref xda])), (xda, .inl (g.2.2, 23, .inr (.inl fw)))] H := hP
      have hD : va_D A [(x0, .inr (5, [.ref xw, .ref xp, .ref xd, .ref xe, .ref xb, .ref xt, .ref xl])), (xt, .inr (3, [.ref tt, .ref tz, .int (nI sr)])), (tt, .inr (2, [.ref tta, .int (nI t.length)])), (tta, .inl (g.2.1, 60, .inl f2)), (tz, .inr (4, [.ref tsr, .ref tsp, .int (nI t.length)])), (tsr, .inl (g.2.1, 61, .inl fr3)), (tsp, .inl (g.2.1, 61, .inl fp3)), (xb, .inr (0, [.ref b1, .ref b2, .ref b3, .ref b4, .int (nI t.length)])), (b1, .inl (g.2.1, 61, .inl c3)), (b2, .inl (g.2.1, 61, .inl o3)), (b3, .inl (g.2.1, 61, .inl n3)), (b4, .inl (g.2.1, 61, .inl ff2)), (xe, .inr (1, [.ref xea])), (xea, .inl (g.2.2, 23, .inr (.inl w3))), (xd, .inr (1, [.ref xda])), (xda, .inl (g.2.2, 23, .inr (.inl fw)))] := hD
      refine lv_iconst (v := nI 1) hx hb zdX_load_65 (by decide) ?_
      exact hret (nI 1) (xt, xl, nI sr, f2, t.length, fr3, fp3, nI t.length, c3, o3, n3, ff2, nI t.length, w3) _ _ _ _ (rfl) (Or.inl ⟨rfl, rfl, rfl, t, sr, his, rfl, rfl, hln, hsu⟩) (hP.sub [0, 1, 2, 3, 4, 5, 6, 7, 8, 9, 10, 11, 14, 15, 12, 13] rfl) (hD.sub [0, 1, 2, 3, 4, 5, 6, 7, 8, 9, 10, 11, 14, 15, 12, 13] (by decide) rfl) hS zdX_load_66
    · have hb0 := si_b0 h42
      have hno : ∀ v k, ¬ si_is fw v k := by
        intro v k hv
        obtain ⟨e3, e4⟩ := hall v k hv
        subst e3 e4
        rw [hiff.mpr (fun k9 hk9 => by rw [hw3 k9 hk9, hv.2.2.2 k9 hk9])] at hb0
        cases hb0
      refine lv_iconst (v := nI 0) hx hb zdX_load_45 (by decide) ?_
      exact hret (nI 0) (xl, xt, nI sr, f2, t.length, fr3, fp3, nI t.length, c3, o3, n3, ff2, nI t.length, w3) _ _ _ _ (rfl) (Or.inr ⟨rfl, rfl, rfl, hno⟩) (hP.sub [0, 1, 2, 3, 4, 5, 6, 7, 8, 9, 10, 11, 14, 15, 12, 13] rfl) (hD.sub [0, 1, 2, 3, 4, 5, 6, 7, 8, 9, 10, 11, 14, 15, 12, 13] (by decide) rfl) hS zdX_load_46
  · have hno := (si_or_r hq (fun z => absurd (h4.symm.trans z.1) (by decide))).2
    refine lv_iconst (v := nI 0) hx hb zdX_load_7 (by decide) ?_
    exact hret (nI 0) (xl, xt, rt2, f2, z2, fr, fp, ta, c2, o2, n2, ff2, lb2, fe) _ _ _ _ (rfl) (Or.inr ⟨rfl, rfl, rfl, hno⟩) (hP.sub [5, 6, 7, 8, 0, 1, 2, 9, 10, 11, 12, 13, 14, 15, 3, 4] rfl) (hD.sub [5, 6, 7, 8, 0, 1, 2, 9, 10, 11, 12, 13, 14, 15, 3, 4] (by decide) rfl) hS zdX_load_8

