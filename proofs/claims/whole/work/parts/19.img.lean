/-! Contracts of the Image. Written by wip/draft/p19.py -/
theorem si_dnE {f F : Nat → Int64} {fw i v : Nat} (h : ∀ x, 8 ≤ x → x < 23 → f x = F x) (hf : 8 ≤ fw) : ∀ x, 8 ≤ x → x < 23 → vp_updL f (fw + i / 10) (f (fw + i / 10) ||| (lN v <<< ((nI (6 * (i % 10))).toInt64 &&& 63))) x = si_dn F fw i v x := by
  intro x h8 h23
  unfold si_dn
  by_cases e : x = fw + i / 10
  · rw [← e, pk_uLs, pk_uLs, h x h8 h23]
  · rw [pk_uLn e, pk_uLn e]; exact h x h8 h23
theorem si_mkE {f F : Nat → Int64} {w : Int64} (h : ∀ x, 8 ≤ x → x < 23 → f x = F x) : ∀ x, 8 ≤ x → x < 23 → vp_updL f 8 (f 8 ||| w) x = vp_updL F 8 (F 8 ||| w) x := by
  intro x h8 h23
  by_cases e : x = 8
  · subst e; rw [pk_uLs, pk_uLs, h 8 h8 h23]
  · rw [pk_uLn e, pk_uLn e]; exact h x h8 h23
theorem si_lo8 {f f0 : Nat → Int64} {k : Nat} {w : Int64} (hk : 8 ≤ k) (h : ∀ x, x < 8 → f x = f0 x) : ∀ x, x < 8 → vp_updL f k w x = f0 x := fun x hx => by
  rw [pk_uLn (by omega)]; exact h x hx
set_option maxHeartbeats 4000000 in
set_option maxRecDepth 100000 in
/-- isSameAs -/
theorem cI_isSameAs (l : Launch) (g : si_G) (h0 a0 h1 a1 : Nat) (f f1 : Nat → Int64)  : si_Mi (S := Bool) l g vwCl zyI_isSameAs zwI_isSameAs ({ frames := 0, cells := 0, slots := 0, locals := 0 } : Room) [.ref h0, .ref h1] [(h0, .inr (1, [.ref a0])), (a0, .inl (g.2.2, 23, .inr (.inl f))), (h1, .inr (1, [.ref a1])), (a1, .inl (g.2.2, 23, .inr (.inl f1)))] (fun r u => r = nI u.toNat ∧ (u = true ↔ ∀ k, k < 23 → f k = f1 k)) (fun u => [(h0, .inr (1, [.ref a0])), (a0, .inl (g.2.2, 23, .inr (.inl f))), (h1, .inr (1, [.ref a1])), (a1, .inl (g.2.2, 23, .inr (.inl f1)))]) := by
  refine si_Mi.of (cc := zkI_isSameAs) (maxL := 3) (by decide) rfl (Nat.le_of_ble_eq_true rfl) ?_
  intro p e s m args below meth c A Q ls hF0 hin hK hN hP hD hA hS hl hret
  obtain ⟨hx, hb, hml, hown, hts0⟩ := hF0
  have hts : ∀ w ∈ si_tbl, w.before args s = true := fun w hw => hts0 w (List.mem_cons_of_mem _ hw)
  have hF : CallFix p m c zkI_isSameAs 3 s args si_tbl zRI := ⟨hx, hb, hml, hown, hts⟩
  have hl : lv_has ls 3 [(0, .ref h0), (1, .ref h1)] := hl
  refine lv_iconst (v := nI 0) hx hb zdI_isSameAs_0 (by decide) ?_
  refine lv_istore_n (lv' := [(2, .int (nI 0)), (0, .ref h0), (1, .ref h1)]) hx hb zdI_isSameAs_1 rfl hl (Nat.le_of_ble_eq_true rfl) rfl (fun ls hl => ?_)
  have L2 : ∀ (N : Nat) (k : Nat) (H : Heap) (locs : List Loc) (ls : Array Slot), 23 - k < N → (k ≤ 23) → (∀ x, x < k → f x = f1 x) → lv_has ls 3 [(0, .ref h0), (1, .ref h1), (2, .int (nI k))] → va_P g.1 vwCl [(h0, .inr (1, [.ref a0])), (a0, .inl (g.2.2, 23, .inr (.inl f))), (h1, .inr (1, [.ref a1])), (a1, .inl (g.2.2, 23, .inr (.inl f1)))] H → va_D A [(h0, .inr (1, [.ref a0])), (a0, .inl (g.2.2, 23, .inr (.inl f))), (h1, .inr (1, [.ref a1])), (a1, .inl (g.2.2, 23, .inr (.inl f1)))] → va_S A s.heap H locs → W p l e ({ frames := 0, cells := 0, slots := 0, locals := 0 } : Room) s m args below meth c H locs 0 0 Q (F0 m 2 ls []) := by
    intro N
    induction N with
    | zero => intro k H locs ls hMs; exact absurd hMs (Nat.not_lt_zero _)
    | succ N ih2 =>
      intro k H locs ls hMs hk hE hl hP hD hS
      refine lv_iload_n hx hb zdI_isSameAs_2 rfl (lv_at hl 2 rfl) ?_
      refine lv_bipush (v := nI 23) hx hb zdI_isSameAs_3 (by decide) ?_
      refine si_icmp_ge (tgt := 32) hx hb zdI_isSameAs_5 rfl (by omega) (by decide) (fun h5 => ?_) (fun h5 => ?_)
      · refine lv_iconst (v := nI 1) hx hb zdI_isSameAs_32 (by decide) ?_
        exact hret (nI 1) true _ _ _ _ (rfl) (⟨rfl, fun _ x hx => hE x (by omega), fun _ => rfl⟩) (hP.sub [0, 1, 2, 3] rfl) (hD.sub [0, 1, 2, 3] (by decide) rfl) hS zdI_isSameAs_33
      · refine lv_aload_n hx hb zdI_isSameAs_8 rfl (lv_at hl 0 rfl) ?_
        refine va_get (D := g.1) (ci := 1) (v := .ref a0) (C := zRI) (T := zTI) (N := 1) hx hb hts ziI hown hK hP 0 rfl rfl 0 (by decide) (hts _ zlI_9) (fun _ h => h) rfl zdI_isSameAs_9 ?_
        refine lv_iload_n hx hb zdI_isSameAs_12 rfl (lv_at hl 2 rfl) ?_
        refine si_lald (v := f k) hx hb hK hP 1 1 rfl rfl (by decide) (by omega) (rfl) zdI_isSameAs_13 ?_
        refine lv_aload_n hx hb zdI_isSameAs_14 rfl (lv_at hl 1 rfl) ?_
        refine va_get (D := g.1) (ci := 1) (v := .ref a1) (C := zRI) (T := zTI) (N := 1) hx hb hts ziI hown hK hP 2 rfl rfl 0 (by decide) (hts _ zlI_9) (fun _ h => h) rfl zdI_isSameAs_15 ?_
        refine lv_iload_n hx hb zdI_isSameAs_18 rfl (lv_at hl 2 rfl) ?_
        refine si_lald (v := f1 k) hx hb hK hP 3 1 rfl rfl (by decide) (by omega) (rfl) zdI_isSameAs_19 ?_
        refine W.lcmp hx hb zdI_isSameAs_20 ?_
        refine lv_if_eq (tgt := 26) hx hb zdI_isSameAs_21 rfl (fun h21 => ?_) (fun h21 => ?_)
        · refine lv_iinc (k := 2) (v := nI (k + 1)) (lv' := [(2, .int (nI (k + 1))), (0, .ref h0), (1, .ref h1)]) hx hb zdI_isSameAs_26 hl rfl (si_inc _) (Nat.le_of_ble_eq_true rfl) rfl (fun ls hl => ?_)
          refine lv_goto (tgt := 2) hx hb zdI_isSameAs_29 rfl ?_
          exact ih2 (k + 1) _ _ _ (by omega) (by omega) (lt_s hE ((si_lc0 _ _).mp h21)) (lv_sub hl [1, 2, 0] rfl) (hP.sub [0, 1, 2, 3] rfl) (hD.sub [0, 1, 2, 3] (by decide) rfl) hS
        · refine lv_iconst (v := nI 0) hx hb zdI_isSameAs_24 (by decide) ?_
          exact hret (nI 0) false _ _ _ _ (rfl) (⟨rfl, fun z => absurd z (by decide), fun z => absurd ((si_lc0 _ _).mpr (z k (by omega))) h21⟩) (hP.sub [0, 1, 2, 3] rfl) (hD.sub [0, 1, 2, 3] (by decide) rfl) hS zdI_isSameAs_25
  exact L2 (23 - 0 + 1) 0 _ _ _ (by omega) (by omega) (fun x hx => absurd hx (Nat.not_lt_zero _)) (lv_sub hl [1, 2, 0] rfl) (hP.sub [0, 1, 2, 3] rfl) (hD.sub [0, 1, 2, 3] (by decide) rfl) hS

set_option maxHeartbeats 4000000 in
set_option maxRecDepth 100000 in
/-- drawNumber -/
theorem cI_drawNumber (l : Launch) (g : si_G) (h0 a0 nf ni : Nat) (f : Nat → Int64) (num : Int64) (hni : ni < 2 ^ 20) (hnf : nf + ni / 10 < 23) : si_Mv (S := Unit) l g vwCl zyI_drawNumber zwI_drawNumber ({ frames := 0, cells := 0, slots := 0, locals := 0 } : Room) [.ref h0, .int (nI nf), .int (nI ni), .long num] [(h0, .inr (1, [.ref a0])), (a0, .inl (g.2.2, 23, .inr (.inl f)))] (fun u => True) (fun u => [(h0, .inr (1, [.ref a0])), (a0, .inl (g.2.2, 23, .inr (.inl (vp_updL f (nf + ni / 10) (f (nf + ni / 10) ||| (num <<< ((nI (6 * (ni % 10))).toInt64 &&& 63)))))))]) := by
  refine si_Mv.of (cc := zkI_drawNumber) (maxL := 6) (by decide) rfl (Nat.le_of_ble_eq_true rfl) ?_
  intro p e s m args below meth c A Q ls hF0 hin hK hN hP hD hA hS hl hret
  obtain ⟨hx, hb, hml, hown, hts0⟩ := hF0
  have hts : ∀ w ∈ si_tbl, w.before args s = true := fun w hw => hts0 w (List.mem_cons_of_mem _ hw)
  have hF : CallFix p m c zkI_drawNumber 6 s args si_tbl zRI := ⟨hx, hb, hml, hown, hts⟩
  have hl : lv_has ls 6 [(0, .ref h0), (1, .int (nI nf)), (2, .int (nI ni)), (3, .long num)] := hl
  refine lv_bipush (v := nI 6) hx hb zdI_drawNumber_0 (by decide) ?_
  refine lv_iload_n hx hb zdI_drawNumber_2 rfl (lv_at hl 2 rfl) ?_
  refine lv_bipush (v := nI 10) hx hb zdI_drawNumber_3 (by decide) ?_
  refine si_irem (v := nI (ni % 10)) hx hb zdI_drawNumber_5 (nI_ne0 (by omega) (by omega)) (pk_rem (by omega) (by omega) (by omega)) ?_
  refine si_imul (v := nI (6 * (ni % 10))) hx hb zdI_drawNumber_6 (pk_mul _ _) ?_
  refine lv_istore (lv' := [(5, .int (nI (6 * (ni % 10)))), (0, .ref h0), (1, .int (nI nf)), (2, .int (nI ni)), (3, .long num)]) hx hb zdI_drawNumber_7 hl (Nat.le_of_ble_eq_true rfl) rfl (fun ls hl => ?_)
  refine lv_aload_n hx hb zdI_drawNumber_9 rfl (lv_at hl 1 rfl) ?_
  refine va_get (D := g.1) (ci := 1) (v := .ref a0) (C := zRI) (T := zTI) (N := 1) hx hb hts ziI hown hK hP 0 rfl rfl 0 (by decide) (hts _ zlI_9) (fun _ h => h) rfl zdI_drawNumber_10 ?_
  refine lv_iload_n hx hb zdI_drawNumber_13 rfl (lv_at hl 2 rfl) ?_
  refine lv_iload_n hx hb zdI_drawNumber_14 rfl (lv_at hl 3 rfl) ?_
  refine lv_bipush (v := nI 10) hx hb zdI_drawNumber_15 (by decide) ?_
  refine si_idiv (v := nI (ni / 10)) hx hb zdI_drawNumber_17 (nI_ne0 (by omega) (by omega)) (pk_div (by omega) (by omega) (by omega)) ?_
  refine si_iadd (v := nI (nf + (ni / 10))) hx hb zdI_drawNumber_18 (nI_add _ _) ?_
  refine lv_dup2_11 hx hb zdI_drawNumber_19 rfl rfl ?_
  refine si_lald (v := f (nf + (ni / 10))) hx hb hK hP 1 1 rfl rfl (by decide) (by omega) (rfl) zdI_drawNumber_20 ?_
  refine lv_lload_n hx hb zdI_drawNumber_21 rfl (lv_at hl 4 rfl) ?_
  refine lv_iload hx hb zdI_drawNumber_22 (lv_at hl 0 rfl) ?_
  refine lv_lshl (v := num <<< ((nI (6 * (ni % 10))).toInt64 &&& 63)) hx hb zdI_drawNumber_24 (rfl) ?_
  refine si_lor (v := (f (nf + (ni / 10))) ||| (num <<< ((nI (6 * (ni % 10))).toInt64 &&& 63))) hx hb zdI_drawNumber_25 (rfl) ?_
  refine si_last hx hb hK hP hD hS 1 1 rfl rfl (by decide) (by omega) zdI_drawNumber_26 (fun H locs hP hD hS => ?_)
  have hP : va_P g.1 vwCl [(h0, .inr (1, [.ref a0])), (a0, .inl (g.2.2, 23, .inr (.inl (vp_updL f (nf + (ni / 10)) ((f (nf + (ni / 10))) ||| (num <<< ((nI (6 * (ni % 10))).toInt64 &&& 63)))))))] H := hP
  have hD : va_D A [(h0, .inr (1, [.ref a0])), (a0, .inl (g.2.2, 23, .inr (.inl (vp_updL f (nf + (ni / 10)) ((f (nf + (ni / 10))) ||| (num <<< ((nI (6 * (ni % 10))).toInt64 &&& 63)))))))] := hD
  exact hret () _ _ _ _ (trivial) (hP.sub [0, 1] rfl) (hD.sub [0, 1] (by decide) rfl) hS zdI_drawNumber_27

set_option maxHeartbeats 4000000 in
set_option maxRecDepth 100000 in
/-- drawMarkedRows -/
theorem cI_drawMarkedRows (l : Launch) (g : si_G) (h0 a0 h2 a2 a3 : Nat) (f : Nat → Int64) (fp : Nat → Int32) (t : List Nat) (sr : Nat) (hn : t.length ≤ 60) (hs1 : 1 ≤ sr) (hs2 : sr ≤ 16) (hpl : ∀ x, x < t.length + 1 → fp x = nI (si_pl t x)) (hf0 : ∀ x, 8 ≤ x → x < 23 → f x = 0) : si_Mv (S := Nat → Int64) l g vwCl zyI_drawMarkedRows zwI_drawMarkedRows ({ frames := 1, cells := 0, slots := 0, locals := 25 } : Room) [.ref h0, .ref h2, .int (nI sr)] [(h0, .inr (1, [.ref a0])), (a0, .inl (g.2.2, 23, .inr (.inl f))), (h2, .inr (4, [.ref a2, .ref a3, .int (nI t.length)])), (a3, .inl (g.2.1, 61, .inl fp))] (fun u => (∀ x, x < 8 → u x = f x) ∧ ∀ x, 8 ≤ x → x < 23 → u x = (si_mr t sr (t.length + 1)).1 x) (fun u => [(h0, .inr (1, [.ref a0])), (a0, .inl (g.2.2, 23, .inr (.inl u))), (h2, .inr (4, [.ref a2, .ref a3, .int (nI t.length)])), (a3, .inl (g.2.1, 61, .inl fp))]) := by
  refine si_Mv.of (cc := zkI_drawMarkedRows) (maxL := 6) (by decide) rfl (Nat.le_of_ble_eq_true rfl) ?_
  intro p e s m args below meth c A Q ls hF0 hin hK hN hP hD hA hS hl hret
  obtain ⟨hx, hb, hml, hown, hts0⟩ := hF0
  have hts : ∀ w ∈ si_tbl, w.before args s = true := fun w hw => hts0 w (List.mem_cons_of_mem _ hw)
  have hF : CallFix p m c zkI_drawMarkedRows 6 s args si_tbl zRI := ⟨hx, hb, hml, hown, hts⟩
  have hl : lv_has ls 6 [(0, .ref h0), (1, .ref h2), (2, .int (nI sr))] := hl
  refine lv_iconst (v := nI 0) hx hb zdI_drawMarkedRows_0 (by decide) ?_
  refine lv_istore_n (lv' := [(3, .int (nI 0)), (0, .ref h0), (1, .ref h2), (2, .int (nI sr))]) hx hb zdI_drawMarkedRows_1 rfl hl (Nat.le_of_ble_eq_true rfl) rfl (fun ls hl => ?_)
  refine lv_iconst (v := nI 0) hx hb zdI_drawMarkedRows_2 (by decide) ?_
  refine lv_istore (lv' := [(4, .int (nI 0)), (3, .int (nI 0)), (0, .ref h0), (1, .ref h2), (2, .int (nI sr))]) hx hb zdI_drawMarkedRows_3 hl (Nat.le_of_ble_eq_true rfl) rfl (fun ls hl => ?_)
  have L5 : ∀ (N : Nat) (k : Nat) (mk : Nat) (f2 : Nat → Int64) (H : Heap) (locs : List Loc) (ls : Array Slot), t.length + 1 - k < N → (k ≤ t.length + 1) → (mk = (si_mr t sr k).2) → (∀ x, x < 8 → f2 x = f x) → (∀ x, 8 ≤ x → x < 23 → f2 x = (si_mr t sr k).1 x) → lv_has ls 6 [(0, .ref h0), (1, .ref h2), (2, .int (nI sr)), (3, .int (nI mk)), (4, .int (nI k))] → va_P g.1 vwCl [(h0, .inr (1, [.ref a0])), (a0, .inl (g.2.2, 23, .inr (.inl f2))), (h2, .inr (4, [.ref a2, .ref a3, .int (nI t.length)])), (a3, .inl (g.2.1, 61, .inl fp))] H → va_D A [(h0, .inr (1, [.ref a0])), (a0, .inl (g.2.2, 23, .inr (.inl f2))), (h2, .inr (4, [.ref a2, .ref a3, .int (nI t.length)])), (a3, .inl (g.2.1, 61, .inl fp))] → va_S A s.heap H locs → W p l e ({ frames := 1, cells := 0, slots := 0, locals := 25 } : Room) s m args below meth c H locs 0 0 Q (F0 m 5 ls []) := by
    intro N
    induction N with
    | zero => intro k mk f2 H locs ls hMs; exact absurd hMs (Nat.not_lt_zero _)
    | succ N ih5 =>
      intro k mk f2 H locs ls hMs hk hm hLo hB hl hP hD hS
      refine lv_iload hx hb zdI_drawMarkedRows_5 (lv_at hl 4 rfl) ?_
      refine lv_aload_n hx hb zdI_drawMarkedRows_7 rfl (lv_at hl 1 rfl) ?_
      refine va_getN (D := g.1) (ci := 4) (v := .int (nI t.length)) (C := zRS) (T := zTS) (N := 3) hx hb hts ziS hown hK hP 2 rfl rfl 2 (by decide) (va_Nw.use rfl (hN _ zlI_15)) (fun _ h => h) rfl zdI_drawMarkedRows_8 ?_
      refine si_icmp_gt (tgt := 65) hx hb zdI_drawMarkedRows_11 rfl (by omega) (by omega) (fun h11 => ?_) (fun h11 => ?_)
      · exact hret f2 _ _ _ _ (⟨hLo, fun x h8 h23 => by rw [hB x h8 h23, show k = t.length + 1 by omega]⟩) (hP.sub [0, 1, 2, 3] rfl) (hD.sub [0, 1, 2, 3] (by decide) rfl) hS zdI_drawMarkedRows_65
      · have hpk := (si_pl_ok (t := t) (r := k) (by omega)).1
        have hmk : mk ≤ k := by rw [hm]; exact si_mr_le t sr k
        have hpd : si_pl t k / sr ≤ si_pl t k := Nat.div_le_self _ _
        have hpm : si_pl t k % sr ≤ si_pl t k := Nat.mod_le _ _
        refine lv_aload_n hx hb zdI_drawMarkedRows_14 rfl (lv_at hl 1 rfl) ?_
        refine va_getN (D := g.1) (ci := 4) (v := .ref a3) (C := zRS) (T := zTS) (N := 3) hx hb hts ziS hown hK hP 2 rfl rfl 1 (by decide) (va_Nw.use rfl (hN _ zlI_34)) (fun _ h => h) rfl zdI_drawMarkedRows_15 ?_
        refine lv_iload hx hb zdI_drawMarkedRows_18 (lv_at hl 4 rfl) ?_
        refine si_iald (v := nI (si_pl t k)) hx hb hK hP 3 0 rfl rfl (by decide) (by omega) (hpl k (by omega)) zdI_drawMarkedRows_20 ?_
        refine lv_istore (lv' := [(5, .int (nI (si_pl t k))), (0, .ref h0), (1, .ref h2), (2, .int (nI sr)), (3, .int (nI mk)), (4, .int (nI k))]) hx hb zdI_drawMarkedRows_21 hl (Nat.le_of_ble_eq_true rfl) rfl (fun ls hl => ?_)
        refine lv_iload hx hb zdI_drawMarkedRows_23 (lv_at hl 0 rfl) ?_
        refine lv_iload_n hx hb zdI_drawMarkedRows_25 rfl (lv_at hl 3 rfl) ?_
        refine si_irem (v := nI ((si_pl t k) % sr)) hx hb zdI_drawMarkedRows_26 (nI_ne0 (by omega) (by omega)) (pk_rem (by omega) (by omega) (by omega)) ?_
        refine si_if_ne (tgt := 59) hx hb zdI_drawMarkedRows_27 rfl (by omega) (fun h27 => ?_) (fun h27 => ?_)
        · refine lv_iinc (k := 5) (v := nI (k + 1)) (lv' := [(4, .int (nI (k + 1))), (5, .int (nI (si_pl t k))), (0, .ref h0), (1, .ref h2), (2, .int (nI sr)), (3, .int (nI mk))]) hx hb zdI_drawMarkedRows_59 hl rfl (si_inc _) (Nat.le_of_ble_eq_true rfl) rfl (fun ls hl => ?_)
          refine lv_goto (tgt := 5) hx hb zdI_drawMarkedRows_62 rfl ?_
          exact ih5 (k + 1) mk f2 _ _ _ (by omega) (by omega) (by first | (rw [si_mr_t h27, hm]; done) | (rw [si_mr_f h27, hm]; done)) (by first | exact hLo | exact si_lo8 (by omega) (si_lo8 (by omega) hLo)) (by first | (rw [si_mr_f h27]; exact hB) | (rw [si_mr_t h27, hm]; exact si_dnE (si_mkE hB) (by omega))) (lv_sub hl [2, 3, 4, 5, 0] rfl) (hP.sub [0, 1, 2, 3] rfl) (hD.sub [0, 1, 2, 3] (by decide) rfl) hS
        · refine lv_aload_n hx hb zdI_drawMarkedRows_30 rfl (lv_at hl 1 rfl) ?_
          refine va_get (D := g.1) (ci := 1) (v := .ref a0) (C := zRI) (T := zTI) (N := 1) hx hb hts ziI hown hK hP 0 rfl rfl 0 (by decide) (hts _ zlI_9) (fun _ h => h) rfl zdI_drawMarkedRows_31 ?_
          refine lv_bipush (v := nI 8) hx hb zdI_drawMarkedRows_34 (by decide) ?_
          refine lv_dup2_11 hx hb zdI_drawMarkedRows_36 rfl rfl ?_
          refine si_lald (v := f2 8) hx hb hK hP 1 1 rfl rfl (by decide) (by omega) (rfl) zdI_drawMarkedRows_37 ?_
          refine lv_lconst (v := 1) hx hb zdI_drawMarkedRows_38 (by decide) ?_
          refine lv_iload hx hb zdI_drawMarkedRows_39 (lv_at hl 5 rfl) ?_
          refine lv_lshl (v := (1 : Int64) <<< ((nI k).toInt64 &&& 63)) hx hb zdI_drawMarkedRows_41 (rfl) ?_
          refine si_lor (v := (f2 8) ||| ((1 : Int64) <<< ((nI k).toInt64 &&& 63))) hx hb zdI_drawMarkedRows_42 (rfl) ?_
          refine si_last hx hb hK hP hD hS 1 1 rfl rfl (by decide) (by omega) zdI_drawMarkedRows_43 (fun H locs hP hD hS => ?_)
          have hP : va_P g.1 vwCl [(h0, .inr (1, [.ref a0])), (a0, .inl (g.2.2, 23, .inr (.inl (vp_updL f2 8 ((f2 8) ||| ((1 : Int64) <<< ((nI k).toInt64 &&& 63))))))), (h2, .inr (4, [.ref a2, .ref a3, .int (nI t.length)])), (a3, .inl (g.2.1, 61, .inl fp))] H := hP
          have hD : va_D A [(h0, .inr (1, [.ref a0])), (a0, .inl (g.2.2, 23, .inr (.inl (vp_updL f2 8 ((f2 8) ||| ((1 : Int64) <<< ((nI k).toInt64 &&& 63))))))), (h2, .inr (4, [.ref a2, .ref a3, .int (nI t.length)])), (a3, .inl (g.2.1, 61, .inl fp))] := hD
          refine lv_aload_n hx hb zdI_drawMarkedRows_44 rfl (lv_at hl 1 rfl) ?_
          refine lv_bipush (v := nI 9) hx hb zdI_drawMarkedRows_45 (by decide) ?_
          refine lv_iload_n hx hb zdI_drawMarkedRows_47 rfl (lv_at hl 4 rfl) ?_
          refine lv_iload hx hb zdI_drawMarkedRows_48 (lv_at hl 0 rfl) ?_
          refine lv_iload_n hx hb zdI_drawMarkedRows_50 rfl (lv_at hl 3 rfl) ?_
          refine si_idiv (v := nI ((si_pl t k) / sr)) hx hb zdI_drawMarkedRows_51 (nI_ne0 (by omega) (by omega)) (pk_div (by omega) (by omega) (by omega)) ?_
          refine lv_i2l (v := lN ((si_pl t k) / sr)) hx hb zdI_drawMarkedRows_52 (nI_l (by omega)) ?_
          refine (cI_drawNumber l g h0 a0 9 mk (vp_updL f2 8 (f2 8 ||| ((1 : Int64) <<< ((nI k).toInt64 &&& 63)))) (lN (si_pl t k / sr)) (by omega) (by omega)).callV (wr := [(h2, .inr (4, [.ref a2, .ref a3, .int (nI t.length)])), (a3, .inl (g.2.1, 61, .inl fp))]) (As := [.int (nI 9), .int (nI mk), .long (lN ((si_pl t k) / sr))]) (rest := []) hF (si_cV 3 hts zcI_drawNumber zlI_38 zimI_drawNumber zseI_drawNumber ziniI zhI_drawNumber ⟨Nat.le_of_ble_eq_true rfl, Nat.le_of_ble_eq_true rfl⟩) hK hN hP hD hS hA [0, 1] [2, 3] rfl rfl (by decide) (by decide) (va_recv (q := (zRI, zTI, 1)) hK hP (ci := 1) (q0 := 0) rfl rfl) rfl hl.1 rfl (Nat.le_of_ble_eq_true rfl) zdI_drawMarkedRows_53 ⟨Nat.le_of_ble_eq_true rfl, Nat.le_of_ble_eq_true rfl⟩ rfl rfl (fun _u H locs _hq hP hD hS => ?_)
          have hP : va_P g.1 vwCl [(h2, .inr (4, [.ref a2, .ref a3, .int (nI t.length)])), (a3, .inl (g.2.1, 61, .inl fp)), (h0, .inr (1, [.ref a0])), (a0, .inl (g.2.2, 23, .inr (.inl (vp_updL (vp_updL f2 8 (f2 8 ||| ((1 : Int64) <<< ((nI k).toInt64 &&& 63)))) (9 + mk / 10) ((vp_updL f2 8 (f2 8 ||| ((1 : Int64) <<< ((nI k).toInt64 &&& 63)))) (9 + mk / 10) ||| (lN (si_pl t k / sr) <<< ((nI (6 * (mk % 10))).toInt64 &&& 63)))))))] H := hP
          have hD : va_D A [(h2, .inr (4, [.ref a2, .ref a3, .int (nI t.length)])), (a3, .inl (g.2.1, 61, .inl fp)), (h0, .inr (1, [.ref a0])), (a0, .inl (g.2.2, 23, .inr (.inl (vp_updL (vp_updL f2 8 (f2 8 ||| ((1 : Int64) <<< ((nI k).toInt64 &&& 63)))) (9 + mk / 10) ((vp_updL f2 8 (f2 8 ||| ((1 : Int64) <<< ((nI k).toInt64 &&& 63)))) (9 + mk / 10) ||| (lN (si_pl t k / sr) <<< ((nI (6 * (mk % 10))).toInt64 &&& 63)))))))] := hD
          refine lv_iinc (k := 4) (v := nI (mk + 1)) (lv' := [(3, .int (nI (mk + 1))), (5, .int (nI (si_pl t k))), (0, .ref h0), (1, .ref h2), (2, .int (nI sr)), (4, .int (nI k))]) hx hb zdI_drawMarkedRows_56 hl rfl (si_inc _) (Nat.le_of_ble_eq_true rfl) rfl (fun ls hl => ?_)
          refine lv_iinc (k := 5) (v := nI (k + 1)) (lv' := [(4, .int (nI (k + 1))), (3, .int (nI (mk + 1))), (5, .int (nI (si_pl t k))), (0, .ref h0), (1, .ref h2), (2, .int (nI sr))]) hx hb zdI_drawMarkedRows_59 hl rfl (si_inc _) (Nat.le_of_ble_eq_true rfl) rfl (fun ls hl => ?_)
          refine lv_goto (tgt := 5) hx hb zdI_drawMarkedRows_62 rfl ?_
          exact ih5 (k + 1) (mk + 1) (vp_updL (vp_updL f2 8 (f2 8 ||| ((1 : Int64) <<< ((nI k).toInt64 &&& 63)))) (9 + mk / 10) ((vp_updL f2 8 (f2 8 ||| ((1 : Int64) <<< ((nI k).toInt64 &&& 63)))) (9 + mk / 10) ||| (lN (si_pl t k / sr) <<< ((nI (6 * (mk % 10))).toInt64 &&& 63)))) _ _ _ (by omega) (by omega) (by first | (rw [si_mr_t h27, hm]; done) | (rw [si_mr_f h27, hm]; done)) (by first | exact hLo | exact si_lo8 (by omega) (si_lo8 (by omega) hLo)) (by first | (rw [si_mr_f h27]; exact hB) | (rw [si_mr_t h27, hm]; exact si_dnE (si_mkE hB) (by omega))) (lv_sub hl [3, 4, 5, 1, 0] rfl) (hP.sub [2, 3, 0, 1] rfl) (hD.sub [2, 3, 0, 1] (by decide) rfl) hS
  exact L5 (t.length + 1 - 0 + 1) 0 0 f _ _ _ (by omega) (by omega) (rfl) (fun x _ => rfl) (hf0) (lv_sub hl [2, 3, 4, 1, 0] rfl) (hP.sub [0, 1, 2, 3] rfl) (hD.sub [0, 1, 2, 3] (by decide) rfl) hS

set_option maxHeartbeats 4000000 in
set_option maxRecDepth 100000 in
/-- drawRowsOfPlaces -/
theorem cI_drawRowsOfPlaces (l : Launch) (g : si_G) (h0 a0 h2 a2 a3 : Nat) (f : Nat → Int64) (fr : Nat → Int32) (t : List Nat) (sr : Nat) (hn : t.length ≤ 60) (hs1 : 1 ≤ sr) (hs2 : sr ≤ 16) (hrk : ∀ x, x < t.length + 1 → fr x = nI (si_rk t x)) (hf0 : ∀ x, 8 ≤ x → x < 23 → f x = (si_mr t sr (t.length + 1)).1 x) : si_Mv (S := Nat → Int64) l g vwCl zyI_drawRowsOfPlaces zwI_drawRowsOfPlaces ({ frames := 1, cells := 0, slots := 0, locals := 25 } : Room) [.ref h0, .ref h2, .int (nI sr)] [(h0, .inr (1, [.ref a0])), (a0, .inl (g.2.2, 23, .inr (.inl f))), (h2, .inr (4, [.ref a2, .ref a3, .int (nI t.length)])), (a2, .inl (g.2.1, 61, .inl fr))] (fun u => (∀ x, x < 8 → u x = f x) ∧ ∀ x, 8 ≤ x → x < 23 → u x = si_rw t sr (t.length / sr + 1) x) (fun u => [(h0, .inr (1, [.ref a0])), (a0, .inl (g.2.2, 23, .inr (.inl u))), (h2, .inr (4, [.ref a2, .ref a3, .int (nI t.length)])), (a2, .inl (g.2.1, 61, .inl fr))]) := by
  refine si_Mv.of (cc := zkI_drawRowsOfPlaces) (maxL := 5) (by decide) rfl (Nat.le_of_ble_eq_true rfl) ?_
  intro p e s m args below meth c A Q ls hF0 hin hK hN hP hD hA hS hl hret
  obtain ⟨hx, hb, hml, hown, hts0⟩ := hF0
  have hts : ∀ w ∈ si_tbl, w.before args s = true := fun w hw => hts0 w (List.mem_cons_of_mem _ hw)
  have hF : CallFix p m c zkI_drawRowsOfPlaces 5 s args si_tbl zRI := ⟨hx, hb, hml, hown, hts⟩
  have hl : lv_has ls 5 [(0, .ref h0), (1, .ref h2), (2, .int (nI sr))] := hl
  obtain ⟨gr, hgr⟩ : ∃ z, z = t.length / sr := ⟨_, rfl⟩
  have hdl : gr ≤ t.length := by rw [hgr]; exact Nat.div_le_self _ _
  refine lv_aload_n hx hb zdI_drawRowsOfPlaces_0 rfl (lv_at hl 1 rfl) ?_
  refine va_getN (D := g.1) (ci := 4) (v := .int (nI t.length)) (C := zRS) (T := zTS) (N := 3) hx hb hts ziS hown hK hP 2 rfl rfl 2 (by decide) (va_Nw.use rfl (hN _ zlI_15)) (fun _ h => h) rfl zdI_drawRowsOfPlaces_1 ?_
  refine lv_iload_n hx hb zdI_drawRowsOfPlaces_4 rfl (lv_at hl 2 rfl) ?_
  refine si_idiv (v := nI gr) hx hb zdI_drawRowsOfPlaces_5 (nI_ne0 (by omega) (by omega)) (by rw [hgr]; exact pk_div (by omega) (by omega) (by omega)) ?_
  refine lv_istore_n (lv' := [(3, .int (nI gr)), (0, .ref h0), (1, .ref h2), (2, .int (nI sr))]) hx hb zdI_drawRowsOfPlaces_6 rfl hl (Nat.le_of_ble_eq_true rfl) rfl (fun ls hl => ?_)
  refine lv_iconst (v := nI 0) hx hb zdI_drawRowsOfPlaces_7 (by decide) ?_
  refine lv_istore (lv' := [(4, .int (nI 0)), (3, .int (nI gr)), (0, .ref h0), (1, .ref h2), (2, .int (nI sr))]) hx hb zdI_drawRowsOfPlaces_8 hl (Nat.le_of_ble_eq_true rfl) rfl (fun ls hl => ?_)
  have L10 : ∀ (N : Nat) (q : Nat) (f2 : Nat → Int64) (H : Heap) (locs : List Loc) (ls : Array Slot), gr + 1 - q < N → (q ≤ gr + 1) → (∀ x, x < 8 → f2 x = f x) → (∀ x, 8 ≤ x → x < 23 → f2 x = si_rw t sr q x) → lv_has ls 5 [(0, .ref h0), (1, .ref h2), (2, .int (nI sr)), (3, .int (nI gr)), (4, .int (nI q))] → va_P g.1 vwCl [(h0, .inr (1, [.ref a0])), (a0, .inl (g.2.2, 23, .inr (.inl f2))), (h2, .inr (4, [.ref a2, .ref a3, .int (nI t.length)])), (a2, .inl (g.2.1, 61, .inl fr))] H → va_D A [(h0, .inr (1, [.ref a0])), (a0, .inl (g.2.2, 23, .inr (.inl f2))), (h2, .inr (4, [.ref a2, .ref a3, .int (nI t.length)])), (a2, .inl (g.2.1, 61, .inl fr))] → va_S A s.heap H locs → W p l e ({ frames := 1, cells := 0, slots := 0, locals := 25 } : Room) s m args below meth c H locs 0 0 Q (F0 m 10 ls []) := by
    intro N
    induction N with
    | zero => intro q f2 H locs ls hMs; exact absurd hMs (Nat.not_lt_zero _)
    | succ N ih10 =>
      intro q f2 H locs ls hMs hq hLo hB hl hP hD hS
      refine lv_iload hx hb zdI_drawRowsOfPlaces_10 (lv_at hl 4 rfl) ?_
      refine lv_iload_n hx hb zdI_drawRowsOfPlaces_12 rfl (lv_at hl 3 rfl) ?_
      refine si_icmp_gt (tgt := 40) hx hb zdI_drawRowsOfPlaces_13 rfl (by omega) (by omega) (fun h13 => ?_) (fun h13 => ?_)
      · exact hret f2 _ _ _ _ (⟨hLo, fun x h8 h23 => by rw [hB x h8 h23, show q = t.length / sr + 1 by rw [← hgr]; omega]⟩) (hP.sub [0, 1, 2, 3] rfl) (hD.sub [0, 1, 2, 3] (by decide) rfl) hS zdI_drawRowsOfPlaces_40
      · have hqs : q * sr ≤ t.length := by
          have z1 := Nat.div_mul_le_self t.length sr
          rw [← hgr] at z1
          have z2 := Nat.mul_le_mul_right sr (show q ≤ gr by omega)
          omega
        have hrl := si_rk_le (t := t) (p := q * sr) hqs
        refine lv_aload_n hx hb zdI_drawRowsOfPlaces_16 rfl (lv_at hl 0 rfl) ?_
        refine lv_bipush (v := nI 16) hx hb zdI_drawRowsOfPlaces_17 (by decide) ?_
        refine lv_iload hx hb zdI_drawRowsOfPlaces_19 (lv_at hl 4 rfl) ?_
        refine lv_aload_n hx hb zdI_drawRowsOfPlaces_21 rfl (lv_at hl 1 rfl) ?_
        refine va_getN (D := g.1) (ci := 4) (v := .ref a2) (C := zRS) (T := zTS) (N := 3) hx hb hts ziS hown hK hP 2 rfl rfl 0 (by decide) (va_Nw.use rfl (hN _ zlI_42)) (fun _ h => h) rfl zdI_drawRowsOfPlaces_22 ?_
        refine lv_iload hx hb zdI_drawRowsOfPlaces_25 (lv_at hl 4 rfl) ?_
        refine lv_iload_n hx hb zdI_drawRowsOfPlaces_27 rfl (lv_at hl 2 rfl) ?_
        refine si_imul (v := nI (q * sr)) hx hb zdI_drawRowsOfPlaces_28 (pk_mul _ _) ?_
        refine si_iald (v := nI (si_rk t (q * sr))) hx hb hK hP 3 0 rfl rfl (by decide) (by omega) (hrk (q * sr) (by omega)) zdI_drawRowsOfPlaces_29 ?_
        refine lv_i2l (v := lN (si_rk t (q * sr))) hx hb zdI_drawRowsOfPlaces_30 (nI_l (by omega)) ?_
        refine (cI_drawNumber l g h0 a0 16 q f2 (lN (si_rk t (q * sr))) (by omega) (by omega)).callV (wr := [(h2, .inr (4, [.ref a2, .ref a3, .int (nI t.length)])), (a2, .inl (g.2.1, 61, .inl fr))]) (As := [.int (nI 16), .int (nI q), .long (lN (si_rk t (q * sr)))]) (rest := []) hF (si_cV 3 hts zcI_drawNumber zlI_38 zimI_drawNumber zseI_drawNumber ziniI zhI_drawNumber ⟨Nat.le_of_ble_eq_true rfl, Nat.le_of_ble_eq_true rfl⟩) hK hN hP hD hS hA [0, 1] [2, 3] rfl rfl (by decide) (by decide) (va_recv (q := (zRI, zTI, 1)) hK hP (ci := 1) (q0 := 0) rfl rfl) rfl hl.1 rfl (Nat.le_of_ble_eq_true rfl) zdI_drawRowsOfPlaces_31 ⟨Nat.le_of_ble_eq_true rfl, Nat.le_of_ble_eq_true rfl⟩ rfl rfl (fun _u H locs _hq hP hD hS => ?_)
        have hP : va_P g.1 vwCl [(h2, .inr (4, [.ref a2, .ref a3, .int (nI t.length)])), (a2, .inl (g.2.1, 61, .inl fr)), (h0, .inr (1, [.ref a0])), (a0, .inl (g.2.2, 23, .inr (.inl (vp_updL f2 (16 + q / 10) (f2 (16 + q / 10) ||| (lN (si_rk t (q * sr)) <<< ((nI (6 * (q % 10))).toInt64 &&& 63)))))))] H := hP
        have hD : va_D A [(h2, .inr (4, [.ref a2, .ref a3, .int (nI t.length)])), (a2, .inl (g.2.1, 61, .inl fr)), (h0, .inr (1, [.ref a0])), (a0, .inl (g.2.2, 23, .inr (.inl (vp_updL f2 (16 + q / 10) (f2 (16 + q / 10) ||| (lN (si_rk t (q * sr)) <<< ((nI (6 * (q % 10))).toInt64 &&& 63)))))))] := hD
        refine lv_iinc (k := 4) (v := nI (q + 1)) (lv' := [(4, .int (nI (q + 1))), (0, .ref h0), (1, .ref h2), (2, .int (nI sr)), (3, .int (nI gr))]) hx hb zdI_drawRowsOfPlaces_34 hl rfl (si_inc _) (Nat.le_of_ble_eq_true rfl) rfl (fun ls hl => ?_)
        refine lv_goto (tgt := 10) hx hb zdI_drawRowsOfPlaces_37 rfl ?_
        exact ih10 (q + 1) (vp_updL f2 (16 + q / 10) (f2 (16 + q / 10) ||| (lN (si_rk t (q * sr)) <<< ((nI (6 * (q % 10))).toInt64 &&& 63)))) _ _ _ (by omega) (by omega) (si_lo8 (by omega) hLo) (si_dnE hB (by omega)) (lv_sub hl [1, 2, 3, 4, 0] rfl) (hP.sub [2, 3, 0, 1] rfl) (hD.sub [2, 3, 0, 1] (by decide) rfl) hS
  exact L10 (gr + 1 - 0 + 1) 0 f _ _ _ (by omega) (by omega) (fun x _ => rfl) (hf0) (lv_sub hl [2, 3, 4, 1, 0] rfl) (hP.sub [0, 1, 2, 3] rfl) (hD.sub [0, 1, 2, 3] (by decide) rfl) hS

set_option maxHeartbeats 4000000 in
set_option maxRecDepth 100000 in
/-- draw -/
theorem cI_draw (l : Launch) (g : si_G) (h0 a0 h1 b1 b2 b3 b4 h2 a2 a3 : Nat) (f : Nat → Int64) (fc fo fn fr fp : Nat → Int32) (t : List Nat) (sr : Nat) (hok : si_ok t) (hs1 : 1 ≤ sr) (hs2 : sr ≤ 16) (hfc : ∀ x, x < t.length + 1 → fc x = nI (si_B t x)) (hsu : si_su t fr fp) : si_Mv (S := (Nat → Int32) × (Nat → Int32) × (Nat → Int64)) l g vwCl zyI_draw zwI_draw ({ frames := 2, cells := 0, slots := 0, locals := 52 } : Room) [.ref h0, .ref h1, .ref h2, .int (nI sr)] [(h0, .inr (1, [.ref a0])), (a0, .inl (g.2.2, 23, .inr (.inl f))), (h1, .inr (0, [.ref b1, .ref b2, .ref b3, .ref b4, .int (nI t.length)])), (b1, .inl (g.2.1, 61, .inl fc)), (b2, .inl (g.2.1, 61, .inl fo)), (b3, .inl (g.2.1, 61, .inl fn)), (h2, .inr (4, [.ref a2, .ref a3, .int (nI t.length)])), (a2, .inl (g.2.1, 61, .inl fr)), (a3, .inl (g.2.1, 61, .inl fp))] (fun u => ∀ k, k < 23 → u.2.2 k = si_im t sr k) (fun u => [(h0, .inr (1, [.ref a0])), (a0, .inl (g.2.2, 23, .inr (.inl u.2.2))), (h1, .inr (0, [.ref b1, .ref b2, .ref b3, .ref b4, .int (nI t.length)])), (b1, .inl (g.2.1, 61, .inl fc)), (b2, .inl (g.2.1, 61, .inl u.1)), (b3, .inl (g.2.1, 61, .inl u.2.1)), (h2, .inr (4, [.ref a2, .ref a3, .int (nI t.length)])), (a2, .inl (g.2.1, 61, .inl fr)), (a3, .inl (g.2.1, 61, .inl fp))]) := by
  refine si_Mv.of (cc := zkI_draw) (maxL := 5) (by decide) rfl (Nat.le_of_ble_eq_true rfl) ?_
  intro p e s m args below meth c A Q ls hF0 hin hK hN hP hD hA hS hl hret
  obtain ⟨hx, hb, hml, hown, hts0⟩ := hF0
  have hts : ∀ w ∈ si_tbl, w.before args s = true := fun w hw => hts0 w (List.mem_cons_of_mem _ hw)
  have hF : CallFix p m c zkI_draw 5 s args si_tbl zRI := ⟨hx, hb, hml, hown, hts⟩
  have hl : lv_has ls 5 [(0, .ref h0), (1, .ref h1), (2, .ref h2), (3, .int (nI sr))] := hl
  have hn := hok.1
  refine lv_iconst (v := nI 0) hx hb zdI_draw_0 (by decide) ?_
  refine lv_istore (lv' := [(4, .int (nI 0)), (0, .ref h0), (1, .ref h1), (2, .ref h2), (3, .int (nI sr))]) hx hb zdI_draw_1 hl (Nat.le_of_ble_eq_true rfl) rfl (fun ls hl => ?_)
  have L3 : ∀ (N : Nat) (k : Nat) (f2 : Nat → Int64) (H : Heap) (locs : List Loc) (ls : Array Slot), 23 - k < N → (k ≤ 23) → (∀ x, x < k → f2 x = 0) → lv_has ls 5 [(0, .ref h0), (1, .ref h1), (2, .ref h2), (3, .int (nI sr)), (4, .int (nI k))] → va_P g.1 vwCl [(h0, .inr (1, [.ref a0])), (a0, .inl (g.2.2, 23, .inr (.inl f2))), (h1, .inr (0, [.ref b1, .ref b2, .ref b3, .ref b4, .int (nI t.length)])), (b1, .inl (g.2.1, 61, .inl fc)), (b2, .inl (g.2.1, 61, .inl fo)), (b3, .inl (g.2.1, 61, .inl fn)), (h2, .inr (4, [.ref a2, .ref a3, .int (nI t.length)])), (a2, .inl (g.2.1, 61, .inl fr)), (a3, .inl (g.2.1, 61, .inl fp))] H → va_D A [(h0, .inr (1, [.ref a0])), (a0, .inl (g.2.2, 23, .inr (.inl f2))), (h1, .inr (0, [.ref b1, .ref b2, .ref b3, .ref b4, .int (nI t.length)])), (b1, .inl (g.2.1, 61, .inl fc)), (b2, .inl (g.2.1, 61, .inl fo)), (b3, .inl (g.2.1, 61, .inl fn)), (h2, .inr (4, [.ref a2, .ref a3, .int (nI t.length)])), (a2, .inl (g.2.1, 61, .inl fr)), (a3, .inl (g.2.1, 61, .inl fp))] → va_S A s.heap H locs → W p l e ({ frames := 2, cells := 0, slots := 0, locals := 52 } : Room) s m args below meth c H locs 0 0 Q (F0 m 3 ls []) := by
    intro N
    induction N with
    | zero => intro k f2 H locs ls hMs; exact absurd hMs (Nat.not_lt_zero _)
    | succ N ih3 =>
      intro k f2 H locs ls hMs hk hZ hl hP hD hS
      refine lv_iload hx hb zdI_draw_3 (lv_at hl 4 rfl) ?_
      refine lv_bipush (v := nI 23) hx hb zdI_draw_5 (by decide) ?_
      refine si_icmp_ge (tgt := 24) hx hb zdI_draw_7 rfl (by omega) (by decide) (fun h7 => ?_) (fun h7 => ?_)
      · refine lv_aload_n hx hb zdI_draw_24 rfl (lv_at hl 0 rfl) ?_
        refine va_get (D := g.1) (ci := 1) (v := .ref a0) (C := zRI) (T := zTI) (N := 1) hx hb hts ziI hown hK hP 0 rfl rfl 0 (by decide) (hts _ zlI_9) (fun _ h => h) rfl zdI_draw_25 ?_
        refine lv_iconst (v := nI 0) hx hb zdI_draw_28 (by decide) ?_
        refine lv_aload_n hx hb zdI_draw_29 rfl (lv_at hl 2 rfl) ?_
        refine va_getN (D := g.1) (ci := 4) (v := .int (nI t.length)) (C := zRS) (T := zTS) (N := 3) hx hb hts ziS hown hK hP 6 rfl rfl 2 (by decide) (va_Nw.use rfl (hN _ zlI_15)) (fun _ h => h) rfl zdI_draw_30 ?_
        refine lv_sipush (v := nI 256) hx hb zdI_draw_33 (by decide) ?_
        refine lv_iload_n hx hb zdI_draw_36 rfl (lv_at hl 3 rfl) ?_
        refine si_imul (v := nI (256 * sr)) hx hb zdI_draw_37 (pk_mul _ _) ?_
        refine si_iadd (v := nI (t.length + (256 * sr))) hx hb zdI_draw_38 (nI_add _ _) ?_
        refine lv_i2l (v := lN (t.length + (256 * sr))) hx hb zdI_draw_39 (nI_l (by omega)) ?_
        refine si_last hx hb hK hP hD hS 1 1 rfl rfl (by decide) (by omega) zdI_draw_40 (fun H locs hP hD hS => ?_)
        have hP : va_P g.1 vwCl [(h0, .inr (1, [.ref a0])), (a0, .inl (g.2.2, 23, .inr (.inl (vp_updL f2 0 (lN (t.length + (256 * sr))))))), (h1, .inr (0, [.ref b1, .ref b2, .ref b3, .ref b4, .int (nI t.length)])), (b1, .inl (g.2.1, 61, .inl fc)), (b2, .inl (g.2.1, 61, .inl fo)), (b3, .inl (g.2.1, 61, .inl fn)), (h2, .inr (4, [.ref a2, .ref a3, .int (nI t.length)])), (a2, .inl (g.2.1, 61, .inl fr)), (a3, .inl (g.2.1, 61, .inl fp))] H := hP
        have hD : va_D A [(h0, .inr (1, [.ref a0])), (a0, .inl (g.2.2, 23, .inr (.inl (vp_updL f2 0 (lN (t.length + (256 * sr))))))), (h1, .inr (0, [.ref b1, .ref b2, .ref b3, .ref b4, .int (nI t.length)])), (b1, .inl (g.2.1, 61, .inl fc)), (b2, .inl (g.2.1, 61, .inl fo)), (b3, .inl (g.2.1, 61, .inl fn)), (h2, .inr (4, [.ref a2, .ref a3, .int (nI t.length)])), (a2, .inl (g.2.1, 61, .inl fr)), (a3, .inl (g.2.1, 61, .inl fp))] := hD
        refine lv_aload_n hx hb zdI_draw_41 rfl (lv_at hl 1 rfl) ?_
        refine lv_aload_n hx hb zdI_draw_42 rfl (lv_at hl 0 rfl) ?_
        refine (cB_drawLevels l g h1 b1 b2 b3 b4 t.length h0 a0 fc fo fn (vp_updL f2 0 (lN (t.length + 256 * sr))) (si_B t) hn hfc (fun x _ => by have := si_B_le hok x; omega)).callV (wr := [(h2, .inr (4, [.ref a2, .ref a3, .int (nI t.length)])), (a2, .inl (g.2.1, 61, .inl fr)), (a3, .inl (g.2.1, 61, .inl fp))]) (As := [.ref h0]) (rest := []) hF (si_cV 1 hts zcB_drawLevels zlI_21 zimB_drawLevels zseB_drawLevels ziniB zhB_drawLevels ⟨Nat.le_of_ble_eq_true rfl, Nat.le_of_ble_eq_true rfl⟩) hK hN hP hD hS hA [2, 3, 4, 5, 0, 1] [6, 7, 8] rfl rfl (by decide) (by decide) (va_recv (q := (zRB, zTB, 5)) hK hP (ci := 0) (q0 := 2) rfl rfl) rfl hl.1 rfl (Nat.le_of_ble_eq_true rfl) zdI_draw_43 ⟨Nat.le_of_ble_eq_true rfl, Nat.le_of_ble_eq_true rfl⟩ rfl rfl (fun u_ H locs hq_ hP hD hS => ?_)
        obtain ⟨o3, n3, w3⟩ := u_
        obtain ⟨hq1, hq2⟩ := hq_
        have hq2 : ∀ k, k = 0 ∨ 8 ≤ k → w3 k = vp_updL f2 0 (lN (t.length + 256 * sr)) k := hq2
        have hq1 : ∀ k, k < 7 → w3 (1 + k) = si_wd (t.length + 1) (si_lb (si_B t) (t.length + 1) k) := hq1
        have hP : va_P g.1 vwCl [(h2, .inr (4, [.ref a2, .ref a3, .int (nI t.length)])), (a2, .inl (g.2.1, 61, .inl fr)), (a3, .inl (g.2.1, 61, .inl fp)), (h1, .inr (0, [.ref b1, .ref b2, .ref b3, .ref b4, .int (nI t.length)])), (b1, .inl (g.2.1, 61, .inl fc)), (b2, .inl (g.2.1, 61, .inl o3)), (b3, .inl (g.2.1, 61, .inl n3)), (h0, .inr (1, [.ref a0])), (a0, .inl (g.2.2, 23, .inr (.inl w3)))] H := hP
        have hD : va_D A [(h2, .inr (4, [.ref a2, .ref a3, .int (nI t.length)])), (a2, .inl (g.2.1, 61, .inl fr)), (a3, .inl (g.2.1, 61, .inl fp)), (h1, .inr (0, [.ref b1, .ref b2, .ref b3, .ref b4, .int (nI t.length)])), (b1, .inl (g.2.1, 61, .inl fc)), (b2, .inl (g.2.1, 61, .inl o3)), (b3, .inl (g.2.1, 61, .inl n3)), (h0, .inr (1, [.ref a0])), (a0, .inl (g.2.2, 23, .inr (.inl w3)))] := hD
        refine lv_aload_n hx hb zdI_draw_46 rfl (lv_at hl 0 rfl) ?_
        refine lv_aload_n hx hb zdI_draw_47 rfl (lv_at hl 2 rfl) ?_
        refine lv_iload_n hx hb zdI_draw_48 rfl (lv_at hl 3 rfl) ?_
        refine (cI_drawMarkedRows l g h0 a0 h2 a2 a3 w3 fp t sr hn hs1 hs2 hsu.2 (fun x h8 h23 => by rw [hq2 x (Or.inr h8), pk_uLn (by omega)]; exact hZ x (by omega))).callV (wr := [(a2, .inl (g.2.1, 61, .inl fr)), (h1, .inr (0, [.ref b1, .ref b2, .ref b3, .ref b4, .int (nI t.length)])), (b1, .inl (g.2.1, 61, .inl fc)), (b2, .inl (g.2.1, 61, .inl o3)), (b3, .inl (g.2.1, 61, .inl n3))]) (As := [.ref h2, .int (nI sr)]) (rest := []) hF (si_cV 2 hts zcI_drawMarkedRows zlI_27 zimI_drawMarkedRows zseI_drawMarkedRows ziniI zhI_drawMarkedRows ⟨Nat.le_of_ble_eq_true rfl, Nat.le_of_ble_eq_true rfl⟩) hK hN hP hD hS hA [7, 8, 0, 2] [1, 3, 4, 5, 6] rfl rfl (by decide) (by decide) (va_recv (q := (zRI, zTI, 1)) hK hP (ci := 1) (q0 := 7) rfl rfl) rfl hl.1 rfl (Nat.le_of_ble_eq_true rfl) zdI_draw_49 ⟨Nat.le_of_ble_eq_true rfl, Nat.le_of_ble_eq_true rfl⟩ rfl rfl (fun w4 H locs hq_ hP hD hS => ?_)
        obtain ⟨hu1, hu2⟩ := hq_
        have hP : va_P g.1 vwCl [(a2, .inl (g.2.1, 61, .inl fr)), (h1, .inr (0, [.ref b1, .ref b2, .ref b3, .ref b4, .int (nI t.length)])), (b1, .inl (g.2.1, 61, .inl fc)), (b2, .inl (g.2.1, 61, .inl o3)), (b3, .inl (g.2.1, 61, .inl n3)), (h0, .inr (1, [.ref a0])), (a0, .inl (g.2.2, 23, .inr (.inl w4))), (h2, .inr (4, [.ref a2, .ref a3, .int (nI t.length)])), (a3, .inl (g.2.1, 61, .inl fp))] H := hP
        have hD : va_D A [(a2, .inl (g.2.1, 61, .inl fr)), (h1, .inr (0, [.ref b1, .ref b2, .ref b3, .ref b4, .int (nI t.length)])), (b1, .inl (g.2.1, 61, .inl fc)), (b2, .inl (g.2.1, 61, .inl o3)), (b3, .inl (g.2.1, 61, .inl n3)), (h0, .inr (1, [.ref a0])), (a0, .inl (g.2.2, 23, .inr (.inl w4))), (h2, .inr (4, [.ref a2, .ref a3, .int (nI t.length)])), (a3, .inl (g.2.1, 61, .inl fp))] := hD
        refine lv_aload_n hx hb zdI_draw_52 rfl (lv_at hl 0 rfl) ?_
        refine lv_aload_n hx hb zdI_draw_53 rfl (lv_at hl 2 rfl) ?_
        refine lv_iload_n hx hb zdI_draw_54 rfl (lv_at hl 3 rfl) ?_
        refine (cI_drawRowsOfPlaces l g h0 a0 h2 a2 a3 w4 fr t sr hn hs1 hs2 hsu.1 hu2).callV (wr := [(h1, .inr (0, [.ref b1, .ref b2, .ref b3, .ref b4, .int (nI t.length)])), (b1, .inl (g.2.1, 61, .inl fc)), (b2, .inl (g.2.1, 61, .inl o3)), (b3, .inl (g.2.1, 61, .inl n3)), (a3, .inl (g.2.1, 61, .inl fp))]) (As := [.ref h2, .int (nI sr)]) (rest := []) hF (si_cV 2 hts zcI_drawRowsOfPlaces zlI_31 zimI_drawRowsOfPlaces zseI_drawRowsOfPlaces ziniI zhI_drawRowsOfPlaces ⟨Nat.le_of_ble_eq_true rfl, Nat.le_of_ble_eq_true rfl⟩) hK hN hP hD hS hA [5, 6, 7, 0] [1, 2, 3, 4, 8] rfl rfl (by decide) (by decide) (va_recv (q := (zRI, zTI, 1)) hK hP (ci := 1) (q0 := 5) rfl rfl) rfl hl.1 rfl (Nat.le_of_ble_eq_true rfl) zdI_draw_55 ⟨Nat.le_of_ble_eq_true rfl, Nat.le_of_ble_eq_true rfl⟩ rfl rfl (fun w5 H locs hq_ hP hD hS => ?_)
        obtain ⟨hv1, hv2⟩ := hq_
        have hP : va_P g.1 vwCl [(h1, .inr (0, [.ref b1, .ref b2, .ref b3, .ref b4, .int (nI t.length)])), (b1, .inl (g.2.1, 61, .inl fc)), (b2, .inl (g.2.1, 61, .inl o3)), (b3, .inl (g.2.1, 61, .inl n3)), (a3, .inl (g.2.1, 61, .inl fp)), (h0, .inr (1, [.ref a0])), (a0, .inl (g.2.2, 23, .inr (.inl w5))), (h2, .inr (4, [.ref a2, .ref a3, .int (nI t.length)])), (a2, .inl (g.2.1, 61, .inl fr))] H := hP
        have hD : va_D A [(h1, .inr (0, [.ref b1, .ref b2, .ref b3, .ref b4, .int (nI t.length)])), (b1, .inl (g.2.1, 61, .inl fc)), (b2, .inl (g.2.1, 61, .inl o3)), (b3, .inl (g.2.1, 61, .inl n3)), (a3, .inl (g.2.1, 61, .inl fp)), (h0, .inr (1, [.ref a0])), (a0, .inl (g.2.2, 23, .inr (.inl w5))), (h2, .inr (4, [.ref a2, .ref a3, .int (nI t.length)])), (a2, .inl (g.2.1, 61, .inl fr))] := hD
        have hfin : ∀ k, k < 23 → w5 k = si_im t sr k := by
          intro k hk
          unfold si_im
          by_cases e0 : k = 0
          · subst e0
            rw [if_pos rfl, hv1 0 (by omega), hu1 0 (by omega), hq2 0 (Or.inl rfl), pk_uLs]
          · rw [if_neg e0]
            by_cases e8 : k < 8
            · rw [if_pos e8, hv1 k e8, hu1 k e8]
              have := hq1 (k - 1) (by omega)
              rwa [show 1 + (k - 1) = k by omega] at this
            · rw [if_neg e8]; exact hv2 k (by omega) hk
        exact hret (o3, n3, w5) _ _ _ _ (hfin) (hP.sub [5, 6, 0, 1, 2, 3, 7, 8, 4] rfl) (hD.sub [5, 6, 0, 1, 2, 3, 7, 8, 4] (by decide) rfl) hS zdI_draw_58
      · refine lv_aload_n hx hb zdI_draw_10 rfl (lv_at hl 0 rfl) ?_
        refine va_get (D := g.1) (ci := 1) (v := .ref a0) (C := zRI) (T := zTI) (N := 1) hx hb hts ziI hown hK hP 0 rfl rfl 0 (by decide) (hts _ zlI_9) (fun _ h => h) rfl zdI_draw_11 ?_
        refine lv_iload hx hb zdI_draw_14 (lv_at hl 4 rfl) ?_
        refine lv_lconst (v := 0) hx hb zdI_draw_16 (by decide) ?_
        refine si_last hx hb hK hP hD hS 1 1 rfl rfl (by decide) (by omega) zdI_draw_17 (fun H locs hP hD hS => ?_)
        have hP : va_P g.1 vwCl [(h0, .inr (1, [.ref a0])), (a0, .inl (g.2.2, 23, .inr (.inl (vp_updL f2 k (0 : Int64))))), (h1, .inr (0, [.ref b1, .ref b2, .ref b3, .ref b4, .int (nI t.length)])), (b1, .inl (g.2.1, 61, .inl fc)), (b2, .inl (g.2.1, 61, .inl fo)), (b3, .inl (g.2.1, 61, .inl fn)), (h2, .inr (4, [.ref a2, .ref a3, .int (nI t.length)])), (a2, .inl (g.2.1, 61, .inl fr)), (a3, .inl (g.2.1, 61, .inl fp))] H := hP
        have hD : va_D A [(h0, .inr (1, [.ref a0])), (a0, .inl (g.2.2, 23, .inr (.inl (vp_updL f2 k (0 : Int64))))), (h1, .inr (0, [.ref b1, .ref b2, .ref b3, .ref b4, .int (nI t.length)])), (b1, .inl (g.2.1, 61, .inl fc)), (b2, .inl (g.2.1, 61, .inl fo)), (b3, .inl (g.2.1, 61, .inl fn)), (h2, .inr (4, [.ref a2, .ref a3, .int (nI t.length)])), (a2, .inl (g.2.1, 61, .inl fr)), (a3, .inl (g.2.1, 61, .inl fp))] := hD
        refine lv_iinc (k := 4) (v := nI (k + 1)) (lv' := [(4, .int (nI (k + 1))), (0, .ref h0), (1, .ref h1), (2, .ref h2), (3, .int (nI sr))]) hx hb zdI_draw_18 hl rfl (si_inc _) (Nat.le_of_ble_eq_true rfl) rfl (fun ls hl => ?_)
        refine lv_goto (tgt := 3) hx hb zdI_draw_21 rfl ?_
        exact ih3 (k + 1) (vp_updL f2 k (0 : Int64)) _ _ _ (by omega) (by omega) (fun x hx => by by_cases e9 : x = k <;> first | (subst e9; rw [pk_uLs]; done) | (rw [pk_uLn e9]; exact hZ x (by omega))) (lv_sub hl [1, 2, 3, 4, 0] rfl) (hP.sub [0, 1, 2, 3, 4, 5, 6, 7, 8] rfl) (hD.sub [0, 1, 2, 3, 4, 5, 6, 7, 8] (by decide) rfl) hS
  exact L3 (23 - 0 + 1) 0 f _ _ _ (by omega) (by omega) (fun x hx => absurd hx (Nat.not_lt_zero _)) (lv_sub hl [1, 2, 3, 4, 0] rfl) (hP.sub [0, 1, 2, 3, 4, 5, 6, 7, 8] rfl) (hD.sub [0, 1, 2, 3, 4, 5, 6, 7, 8] (by decide) rfl) hS

