/-! Contracts of the Line. Written by wip/draft/p15.py -/
set_option maxHeartbeats 4000000 in
set_option maxRecDepth 100000 in
/-- codeAt -/
theorem cL_codeAt (l : Launch) (g : si_G) (h0 a0 cap sz : Nat) (f : Nat → Int32) (q v : Int32) (hcap : cap < 2 ^ 31) (hsz : sz ≤ cap) (hv : si_ca f sz q v) : si_Mi (S := Unit) l g vwCl zyL_codeAt zwL_codeAt ({ frames := 0, cells := 0, slots := 0, locals := 0 } : Room) [.ref h0, .int q] [(h0, .inr (2, [.ref a0, .int (nI sz)])), (a0, .inl (g.2.1, cap, .inl f))] (fun r u => r = v) (fun u => [(h0, .inr (2, [.ref a0, .int (nI sz)])), (a0, .inl (g.2.1, cap, .inl f))]) := by
  refine si_Mi.of (cc := zkL_codeAt) (maxL := 2) (by decide) rfl (Nat.le_of_ble_eq_true rfl) ?_
  intro p e s m args below meth c A Q ls hF0 hin hK hN hP hD hA hS hl hret
  obtain ⟨hx, hb, hml, hown, hts0⟩ := hF0
  have hts : ∀ w ∈ si_tbl, w.before args s = true := fun w hw => hts0 w (List.mem_cons_of_mem _ hw)
  have hF : CallFix p m c zkL_codeAt 2 s args si_tbl zRL := ⟨hx, hb, hml, hown, hts⟩
  have hl : lv_has ls 2 [(0, .ref h0), (1, .int q)] := hl
  refine lv_iload_n hx hb zdL_codeAt_0 rfl (lv_at hl 1 rfl) ?_
  refine lv_if_lt (tgt := 21) hx hb zdL_codeAt_1 rfl (fun h1 => ?_) (fun h1 => ?_)
  · have hv0 : nI 0 = v := si_ca_lt hv (by omega) h1
    refine lv_iconst (v := nI 0) hx hb zdL_codeAt_21 (by decide) ?_
    exact hret (nI 0) () _ _ _ _ (rfl) (hv0) (hP.sub [0, 1] rfl) (hD.sub [0, 1] (by decide) rfl) hS zdL_codeAt_22
  · refine lv_iload_n hx hb zdL_codeAt_4 rfl (lv_at hl 1 rfl) ?_
    refine lv_aload_n hx hb zdL_codeAt_5 rfl (lv_at hl 0 rfl) ?_
    refine va_get (D := g.1) (ci := 2) (v := .int (nI sz)) (C := zRL) (T := zTL) (N := 2) hx hb hts ziL hown hK hP 0 rfl rfl 1 (by decide) (hts _ zlL_15) (fun _ h => h) rfl zdL_codeAt_6 ?_
    refine lv_icmp_ge (tgt := 21) hx hb zdL_codeAt_9 rfl (fun h9 => ?_) (fun h9 => ?_)
    · have hv0 : nI 0 = v := si_ca_ge hv (by omega) h9
      refine lv_iconst (v := nI 0) hx hb zdL_codeAt_21 (by decide) ?_
      exact hret (nI 0) () _ _ _ _ (rfl) (hv0) (hP.sub [0, 1] rfl) (hD.sub [0, 1] (by decide) rfl) hS zdL_codeAt_22
    · obtain ⟨k, hk, rfl, hvk⟩ := si_ca_in hv h1 h9
      refine lv_aload_n hx hb zdL_codeAt_12 rfl (lv_at hl 0 rfl) ?_
      refine va_get (D := g.1) (ci := 2) (v := .ref a0) (C := zRL) (T := zTL) (N := 2) hx hb hts ziL hown hK hP 0 rfl rfl 0 (by decide) (hts _ zlL_9) (fun _ h => h) rfl zdL_codeAt_13 ?_
      refine lv_iload_n hx hb zdL_codeAt_16 rfl (lv_at hl 1 rfl) ?_
      refine si_iald (v := f k) hx hb hK hP 1 0 rfl rfl (by omega) (by omega) (rfl) zdL_codeAt_17 ?_
      refine lv_goto (tgt := 22) hx hb zdL_codeAt_18 rfl ?_
      exact hret (f k) () _ _ _ _ (rfl) (hvk.symm) (hP.sub [0, 1] rfl) (hD.sub [0, 1] (by decide) rfl) hS zdL_codeAt_22

set_option maxHeartbeats 4000000 in
set_option maxRecDepth 100000 in
/-- add -/
theorem cL_add (l : Launch) (g : si_G) (h0 a0 cap sz : Nat) (f : Nat → Int32) (q : Int32) (hcap : cap < 2 ^ 31) (hsz : sz ≤ cap) : si_Mi (S := (Nat → Int32) × Nat) l g vwCl zyL_add zwL_add ({ frames := 0, cells := 0, slots := 0, locals := 0 } : Room) [.ref h0, .int q] [(h0, .inr (2, [.ref a0, .int (nI sz)])), (a0, .inl (g.2.1, cap, .inl f))] (fun r u => r = nI (decide (si_ch q ∧ sz < cap)).toNat ∧ (decide (si_ch q ∧ sz < cap) = true → u.1 = upd f sz q ∧ u.2 = sz + 1) ∧ (decide (si_ch q ∧ sz < cap) = false → u.1 = f ∧ u.2 = sz)) (fun u => [(h0, .inr (2, [.ref a0, .int (nI u.2)])), (a0, .inl (g.2.1, cap, .inl u.1))]) := by
  refine si_Mi.of (cc := zkL_add) (maxL := 2) (by decide) rfl (Nat.le_of_ble_eq_true rfl) ?_
  intro p e s m args below meth c A Q ls hF0 hin hK hN hP hD hA hS hl hret
  obtain ⟨hx, hb, hml, hown, hts0⟩ := hF0
  have hts : ∀ w ∈ si_tbl, w.before args s = true := fun w hw => hts0 w (List.mem_cons_of_mem _ hw)
  have hF : CallFix p m c zkL_add 2 s args si_tbl zRL := ⟨hx, hb, hml, hown, hts⟩
  have hl : lv_has ls 2 [(0, .ref h0), (1, .int q)] := hl
  refine lv_iload_n hx hb zdL_add_0 rfl (lv_at hl 1 rfl) ?_
  refine lv_bipush (v := nI 32) hx hb zdL_add_1 (by decide) ?_
  refine lv_icmp_lt (tgt := 24) hx hb zdL_add_3 rfl (fun h3 => ?_) (fun h3 => ?_)
  · have hdc : decide (si_ch q ∧ sz < cap) = false := decide_eq_false (fun z => z.1.1 h3)
    refine lv_iconst (v := nI 0) hx hb zdL_add_24 (by decide) ?_
    exact hret (nI 0) (f, sz) _ _ _ _ (rfl) (by rw [hdc]; exact ⟨rfl, fun z => absurd z (by decide), fun _ => ⟨rfl, rfl⟩⟩) (hP.sub [0, 1] rfl) (hD.sub [0, 1] (by decide) rfl) hS zdL_add_25
  · refine lv_iload_n hx hb zdL_add_6 rfl (lv_at hl 1 rfl) ?_
    refine lv_bipush (v := nI 126) hx hb zdL_add_7 (by decide) ?_
    refine lv_icmp_gt (tgt := 24) hx hb zdL_add_9 rfl (fun h9 => ?_) (fun h9 => ?_)
    · have hdc : decide (si_ch q ∧ sz < cap) = false := decide_eq_false (fun z => z.1.2 h9)
      refine lv_iconst (v := nI 0) hx hb zdL_add_24 (by decide) ?_
      exact hret (nI 0) (f, sz) _ _ _ _ (rfl) (by rw [hdc]; exact ⟨rfl, fun z => absurd z (by decide), fun _ => ⟨rfl, rfl⟩⟩) (hP.sub [0, 1] rfl) (hD.sub [0, 1] (by decide) rfl) hS zdL_add_25
    · refine lv_aload_n hx hb zdL_add_12 rfl (lv_at hl 0 rfl) ?_
      refine va_get (D := g.1) (ci := 2) (v := .int (nI sz)) (C := zRL) (T := zTL) (N := 2) hx hb hts ziL hown hK hP 0 rfl rfl 1 (by decide) (hts _ zlL_15) (fun _ h => h) rfl zdL_add_13 ?_
      refine lv_aload_n hx hb zdL_add_16 rfl (lv_at hl 0 rfl) ?_
      refine va_get (D := g.1) (ci := 2) (v := .ref a0) (C := zRL) (T := zTL) (N := 2) hx hb hts ziL hown hK hP 0 rfl rfl 0 (by decide) (hts _ zlL_9) (fun _ h => h) rfl zdL_add_17 ?_
      refine va_alen (v := nI cap) hx hb hK hP 1 0 rfl rfl rfl zdL_add_20 ?_
      refine si_icmp_lt (tgt := 26) hx hb zdL_add_21 rfl (by omega) (by omega) (fun h21 => ?_) (fun h21 => ?_)
      · have hdc : decide (si_ch q ∧ sz < cap) = true := decide_eq_true ⟨⟨h3, h9⟩, h21⟩
        refine lv_aload_n hx hb zdL_add_26 rfl (lv_at hl 0 rfl) ?_
        refine va_get (D := g.1) (ci := 2) (v := .ref a0) (C := zRL) (T := zTL) (N := 2) hx hb hts ziL hown hK hP 0 rfl rfl 0 (by decide) (hts _ zlL_9) (fun _ h => h) rfl zdL_add_27 ?_
        refine lv_aload_n hx hb zdL_add_30 rfl (lv_at hl 0 rfl) ?_
        refine va_get (D := g.1) (ci := 2) (v := .int (nI sz)) (C := zRL) (T := zTL) (N := 2) hx hb hts ziL hown hK hP 0 rfl rfl 1 (by decide) (hts _ zlL_15) (fun _ h => h) rfl zdL_add_31 ?_
        refine lv_iload_n hx hb zdL_add_34 rfl (lv_at hl 1 rfl) ?_
        refine si_iast hx hb hK hP hD hS 1 0 rfl rfl (by omega) (by omega) zdL_add_35 (fun H locs hP hD hS => ?_)
        have hP : va_P g.1 vwCl [(h0, .inr (2, [.ref a0, .int (nI sz)])), (a0, .inl (g.2.1, cap, .inl (upd f sz q)))] H := hP
        have hD : va_D A [(h0, .inr (2, [.ref a0, .int (nI sz)])), (a0, .inl (g.2.1, cap, .inl (upd f sz q)))] := hD
        refine lv_aload_n hx hb zdL_add_36 rfl (lv_at hl 0 rfl) ?_
        refine lv_dup hx hb zdL_add_37 rfl ?_
        refine va_get (D := g.1) (ci := 2) (v := .int (nI sz)) (C := zRL) (T := zTL) (N := 2) hx hb hts ziL hown hK hP 0 rfl rfl 1 (by decide) (hts _ zlL_15) (fun _ h => h) rfl zdL_add_38 ?_
        refine lv_iconst (v := nI 1) hx hb zdL_add_41 (by decide) ?_
        refine si_iadd (v := nI (sz + 1)) hx hb zdL_add_42 (nI_add _ _) ?_
        refine va_put (D := g.1) (ci := 2) (v := .int (nI (sz + 1))) (ty := .int) (C := zRL) (T := zTL) (N := 2) hx hb hts ziL ztL ztoL znL hown hK hP hD hS 0 rfl rfl 1 (by decide) (hts _ zlL_15) (fun _ h => h) rfl (by decide +kernel) rfl rfl (Nat.le_of_ble_eq_true rfl) zdL_add_43 (fun H locs hP hD hS => ?_)
        have hP : va_P g.1 vwCl [(h0, .inr (2, [.ref a0, .int (nI (sz + 1))])), (a0, .inl (g.2.1, cap, .inl (upd f sz q)))] H := hP
        have hD : va_D A [(h0, .inr (2, [.ref a0, .int (nI (sz + 1))])), (a0, .inl (g.2.1, cap, .inl (upd f sz q)))] := hD
        refine lv_iconst (v := nI 1) hx hb zdL_add_46 (by decide) ?_
        exact hret (nI 1) (upd f sz q, sz + 1) _ _ _ _ (rfl) (by rw [hdc]; exact ⟨rfl, fun _ => ⟨rfl, rfl⟩, fun z => absurd z (by decide)⟩) (hP.sub [0, 1] rfl) (hD.sub [0, 1] (by decide) rfl) hS zdL_add_47
      · have hdc : decide (si_ch q ∧ sz < cap) = false := decide_eq_false (fun z => by have := z.2; omega)
        refine lv_iconst (v := nI 0) hx hb zdL_add_24 (by decide) ?_
        exact hret (nI 0) (f, sz) _ _ _ _ (rfl) (by rw [hdc]; exact ⟨rfl, fun z => absurd z (by decide), fun _ => ⟨rfl, rfl⟩⟩) (hP.sub [0, 1] rfl) (hD.sub [0, 1] (by decide) rfl) hS zdL_add_25

set_option maxHeartbeats 4000000 in
set_option maxRecDepth 100000 in
/-- dropLast -/
theorem cL_dropLast (l : Launch) (g : si_G) (h0 a0 cap sz : Nat) (f : Nat → Int32) (hcap : cap < 2 ^ 31) (hsz : sz ≤ cap) : si_Mi (S := Nat) l g vwCl zyL_dropLast zwL_dropLast ({ frames := 0, cells := 0, slots := 0, locals := 0 } : Room) [.ref h0] [(h0, .inr (2, [.ref a0, .int (nI sz)])), (a0, .inl (g.2.1, cap, .inl f))] (fun r u => (r = nI 1 ∧ sz ≠ 0 ∧ u = sz - 1) ∨ (r = nI 0 ∧ sz = 0 ∧ u = 0)) (fun u => [(h0, .inr (2, [.ref a0, .int (nI u)])), (a0, .inl (g.2.1, cap, .inl f))]) := by
  refine si_Mi.of (cc := zkL_dropLast) (maxL := 1) (by decide) rfl (Nat.le_of_ble_eq_true rfl) ?_
  intro p e s m args below meth c A Q ls hF0 hin hK hN hP hD hA hS hl hret
  obtain ⟨hx, hb, hml, hown, hts0⟩ := hF0
  have hts : ∀ w ∈ si_tbl, w.before args s = true := fun w hw => hts0 w (List.mem_cons_of_mem _ hw)
  have hF : CallFix p m c zkL_dropLast 1 s args si_tbl zRL := ⟨hx, hb, hml, hown, hts⟩
  have hl : lv_has ls 1 [(0, .ref h0)] := hl
  refine lv_aload_n hx hb zdL_dropLast_0 rfl (lv_at hl 0 rfl) ?_
  refine va_get (D := g.1) (ci := 2) (v := .int (nI sz)) (C := zRL) (T := zTL) (N := 2) hx hb hts ziL hown hK hP 0 rfl rfl 1 (by decide) (hts _ zlL_15) (fun _ h => h) rfl zdL_dropLast_1 ?_
  refine si_if_ne (tgt := 9) hx hb zdL_dropLast_4 rfl (by omega) (fun h4 => ?_) (fun h4 => ?_)
  · refine lv_aload_n hx hb zdL_dropLast_9 rfl (lv_at hl 0 rfl) ?_
    refine lv_dup hx hb zdL_dropLast_10 rfl ?_
    refine va_get (D := g.1) (ci := 2) (v := .int (nI sz)) (C := zRL) (T := zTL) (N := 2) hx hb hts ziL hown hK hP 0 rfl rfl 1 (by decide) (hts _ zlL_15) (fun _ h => h) rfl zdL_dropLast_11 ?_
    refine lv_iconst (v := nI 1) hx hb zdL_dropLast_14 (by decide) ?_
    refine si_isub (v := nI (sz - 1)) hx hb zdL_dropLast_15 (pk_sub (by omega)) ?_
    refine va_put (D := g.1) (ci := 2) (v := .int (nI (sz - 1))) (ty := .int) (C := zRL) (T := zTL) (N := 2) hx hb hts ziL ztL ztoL znL hown hK hP hD hS 0 rfl rfl 1 (by decide) (hts _ zlL_15) (fun _ h => h) rfl (by decide +kernel) rfl rfl (Nat.le_of_ble_eq_true rfl) zdL_dropLast_16 (fun H locs hP hD hS => ?_)
    have hP : va_P g.1 vwCl [(h0, .inr (2, [.ref a0, .int (nI (sz - 1))])), (a0, .inl (g.2.1, cap, .inl f))] H := hP
    have hD : va_D A [(h0, .inr (2, [.ref a0, .int (nI (sz - 1))])), (a0, .inl (g.2.1, cap, .inl f))] := hD
    refine lv_iconst (v := nI 1) hx hb zdL_dropLast_19 (by decide) ?_
    exact hret (nI 1) (sz - 1) _ _ _ _ (rfl) (Or.inl ⟨rfl, h4, rfl⟩) (hP.sub [0, 1] rfl) (hD.sub [0, 1] (by decide) rfl) hS zdL_dropLast_20
  · subst h4
    refine lv_iconst (v := nI 0) hx hb zdL_dropLast_7 (by decide) ?_
    exact hret (nI 0) 0 _ _ _ _ (rfl) (Or.inr ⟨rfl, rfl, rfl⟩) (hP.sub [0, 1] rfl) (hD.sub [0, 1] (by decide) rfl) hS zdL_dropLast_8

set_option maxHeartbeats 4000000 in
set_option maxRecDepth 100000 in
/-- clear -/
theorem cL_clear (l : Launch) (g : si_G) (h0 a0 cap : Nat) (f : Nat → Int32) (x : Int32)  : si_Mv (S := Unit) l g vwCl zyL_clear zwL_clear ({ frames := 0, cells := 0, slots := 0, locals := 0 } : Room) [.ref h0] [(h0, .inr (2, [.ref a0, .int x])), (a0, .inl (g.2.1, cap, .inl f))] (fun u => True) (fun u => [(h0, .inr (2, [.ref a0, .int (nI 0)])), (a0, .inl (g.2.1, cap, .inl f))]) := by
  refine si_Mv.of (cc := zkL_clear) (maxL := 1) (by decide) rfl (Nat.le_of_ble_eq_true rfl) ?_
  intro p e s m args below meth c A Q ls hF0 hin hK hN hP hD hA hS hl hret
  obtain ⟨hx, hb, hml, hown, hts0⟩ := hF0
  have hts : ∀ w ∈ si_tbl, w.before args s = true := fun w hw => hts0 w (List.mem_cons_of_mem _ hw)
  have hF : CallFix p m c zkL_clear 1 s args si_tbl zRL := ⟨hx, hb, hml, hown, hts⟩
  have hl : lv_has ls 1 [(0, .ref h0)] := hl
  refine lv_aload_n hx hb zdL_clear_0 rfl (lv_at hl 0 rfl) ?_
  refine lv_iconst (v := nI 0) hx hb zdL_clear_1 (by decide) ?_
  refine va_put (D := g.1) (ci := 2) (v := .int (nI 0)) (ty := .int) (C := zRL) (T := zTL) (N := 2) hx hb hts ziL ztL ztoL znL hown hK hP hD hS 0 rfl rfl 1 (by decide) (hts _ zlL_15) (fun _ h => h) rfl (by decide +kernel) rfl rfl (Nat.le_of_ble_eq_true rfl) zdL_clear_2 (fun H locs hP hD hS => ?_)
  have hP : va_P g.1 vwCl [(h0, .inr (2, [.ref a0, .int (nI 0)])), (a0, .inl (g.2.1, cap, .inl f))] H := hP
  have hD : va_D A [(h0, .inr (2, [.ref a0, .int (nI 0)])), (a0, .inl (g.2.1, cap, .inl f))] := hD
  exact hret () _ _ _ _ (trivial) (hP.sub [0, 1] rfl) (hD.sub [0, 1] (by decide) rfl) hS zdL_clear_5

set_option maxHeartbeats 4000000 in
set_option maxRecDepth 100000 in
/-- hasAt -/
theorem cL_hasAt (l : Launch) (g : si_G) (h0 a0 cap h1 a1 cap1 : Nat) (f f1 : Nat → Int32) (t b : List Nat) (k : Nat) (hcap : cap < 2 ^ 20) (hcap1 : cap1 < 2 ^ 20) (ht : t.length ≤ cap) (hb1 : b.length ≤ cap1) (hf : si_ln t f) (hf1 : si_ln b f1) (hval : ∀ z ∈ b, 32 ≤ z ∧ z ≤ 126) (htv : ∀ z ∈ t, 32 ≤ z ∧ z ≤ 126) (hk : k ≤ t.length) : si_Mi (S := Unit) l g vwCl zyL_hasAt zwL_hasAt ({ frames := 1, cells := 0, slots := 0, locals := 21 } : Room) [.ref h0, .ref h1, .int (nI k)] [(h0, .inr (2, [.ref a0, .int (nI t.length)])), (a0, .inl (g.2.1, cap, .inl f)), (h1, .inr (2, [.ref a1, .int (nI b.length)])), (a1, .inl (g.2.1, cap1, .inl f1))] (fun r u => r = nI (si_oc t b k).toNat) (fun u => [(h0, .inr (2, [.ref a0, .int (nI t.length)])), (a0, .inl (g.2.1, cap, .inl f)), (h1, .inr (2, [.ref a1, .int (nI b.length)])), (a1, .inl (g.2.1, cap1, .inl f1))]) := by
  refine si_Mi.of (cc := zkL_hasAt) (maxL := 4) (by decide) rfl (Nat.le_of_ble_eq_true rfl) ?_
  intro p e s m args below meth c A Q ls hF0 hin hK hN hP hD hA hS hl hret
  obtain ⟨hx, hb, hml, hown, hts0⟩ := hF0
  have hts : ∀ w ∈ si_tbl, w.before args s = true := fun w hw => hts0 w (List.mem_cons_of_mem _ hw)
  have hF : CallFix p m c zkL_hasAt 4 s args si_tbl zRL := ⟨hx, hb, hml, hown, hts⟩
  have hl : lv_has ls 4 [(0, .ref h0), (1, .ref h1), (2, .int (nI k))] := hl
  refine lv_iconst (v := nI 0) hx hb zdL_hasAt_0 (by decide) ?_
  refine lv_istore_n (lv' := [(3, .int (nI 0)), (0, .ref h0), (1, .ref h1), (2, .int (nI k))]) hx hb zdL_hasAt_1 rfl hl (Nat.le_of_ble_eq_true rfl) rfl (fun ls hl => ?_)
  have L2 : ∀ (N : Nat) (i : Nat) (H : Heap) (locs : List Loc) (ls : Array Slot), b.length - i < N → (i ≤ b.length) → (∀ j, j < i → si_g t (k + j) = si_g b j) → lv_has ls 4 [(0, .ref h0), (1, .ref h1), (2, .int (nI k)), (3, .int (nI i))] → va_P g.1 vwCl [(h0, .inr (2, [.ref a0, .int (nI t.length)])), (a0, .inl (g.2.1, cap, .inl f)), (h1, .inr (2, [.ref a1, .int (nI b.length)])), (a1, .inl (g.2.1, cap1, .inl f1))] H → va_D A [(h0, .inr (2, [.ref a0, .int (nI t.length)])), (a0, .inl (g.2.1, cap, .inl f)), (h1, .inr (2, [.ref a1, .int (nI b.length)])), (a1, .inl (g.2.1, cap1, .inl f1))] → va_S A s.heap H locs → W p l e ({ frames := 1, cells := 0, slots := 0, locals := 21 } : Room) s m args below meth c H locs 0 0 Q (F0 m 2 ls []) := by
    intro N
    induction N with
    | zero => intro i H locs ls hMs; exact absurd hMs (Nat.not_lt_zero _)
    | succ N ih2 =>
      intro i H locs ls hMs hi hall hl hP hD hS
      refine lv_iload_n hx hb zdL_hasAt_2 rfl (lv_at hl 3 rfl) ?_
      refine lv_aload_n hx hb zdL_hasAt_3 rfl (lv_at hl 1 rfl) ?_
      refine va_get (D := g.1) (ci := 2) (v := .int (nI b.length)) (C := zRL) (T := zTL) (N := 2) hx hb hts ziL hown hK hP 2 rfl rfl 1 (by decide) (hts _ zlL_15) (fun _ h => h) rfl zdL_hasAt_4 ?_
      refine si_icmp_ge (tgt := 33) hx hb zdL_hasAt_7 rfl (by omega) (by omega) (fun h7 => ?_) (fun h7 => ?_)
      · have hoc : si_oc t b k = true := (si_oc_iff2 hval hk).mpr (fun j hj => hall j (by omega))
        refine lv_iconst (v := nI 1) hx hb zdL_hasAt_33 (by decide) ?_
        exact hret (nI 1) () _ _ _ _ (rfl) (by rw [hoc]; rfl) (hP.sub [0, 1, 2, 3] rfl) (hD.sub [0, 1, 2, 3] (by decide) rfl) hS zdL_hasAt_34
      · refine lv_aload_n hx hb zdL_hasAt_10 rfl (lv_at hl 0 rfl) ?_
        refine lv_iload_n hx hb zdL_hasAt_11 rfl (lv_at hl 2 rfl) ?_
        refine lv_iload_n hx hb zdL_hasAt_12 rfl (lv_at hl 3 rfl) ?_
        refine si_iadd (v := nI (k + i)) hx hb zdL_hasAt_13 (nI_add _ _) ?_
        refine (cL_codeAt l g h0 a0 cap t.length f (nI (k + i)) (nI (si_g t (k + i))) (by omega) (by omega) (si_ca_n hf (by omega) (by omega))).callV (wr := [(h1, .inr (2, [.ref a1, .int (nI b.length)])), (a1, .inl (g.2.1, cap1, .inl f1))]) (As := [.int (nI (k + i))]) (rest := []) hF (si_cV 1 hts zcL_codeAt zlL_19 zimL_codeAt zseL_codeAt ziniL zhL_codeAt ⟨Nat.le_of_ble_eq_true rfl, Nat.le_of_ble_eq_true rfl⟩) hK hN hP hD hS hA [0, 1] [2, 3] rfl rfl (by decide) (by decide) (va_recv (q := (zRL, zTL, 2)) hK hP (ci := 2) (q0 := 0) rfl rfl) rfl hl.1 rfl (Nat.le_of_ble_eq_true rfl) zdL_hasAt_14 ⟨Nat.le_of_ble_eq_true rfl, Nat.le_of_ble_eq_true rfl⟩ rfl rfl (fun r_ _u H locs hq hP hD hS => ?_)
        subst hq
        have hP : va_P g.1 vwCl [(h1, .inr (2, [.ref a1, .int (nI b.length)])), (a1, .inl (g.2.1, cap1, .inl f1)), (h0, .inr (2, [.ref a0, .int (nI t.length)])), (a0, .inl (g.2.1, cap, .inl f))] H := hP
        have hD : va_D A [(h1, .inr (2, [.ref a1, .int (nI b.length)])), (a1, .inl (g.2.1, cap1, .inl f1)), (h0, .inr (2, [.ref a0, .int (nI t.length)])), (a0, .inl (g.2.1, cap, .inl f))] := hD
        refine lv_aload_n hx hb zdL_hasAt_17 rfl (lv_at hl 1 rfl) ?_
        refine lv_iload_n hx hb zdL_hasAt_18 rfl (lv_at hl 3 rfl) ?_
        refine (cL_codeAt l g h1 a1 cap1 b.length f1 (nI i) (nI (si_g b i)) (by omega) (by omega) (si_ca_n hf1 (by omega) (by omega))).callV (wr := [(h0, .inr (2, [.ref a0, .int (nI t.length)])), (a0, .inl (g.2.1, cap, .inl f))]) (As := [.int (nI i)]) (rest := [.int (nI (si_g t (k + i)))]) hF (si_cV 1 hts zcL_codeAt zlL_19 zimL_codeAt zseL_codeAt ziniL zhL_codeAt ⟨Nat.le_of_ble_eq_true rfl, Nat.le_of_ble_eq_true rfl⟩) hK hN hP hD hS hA [0, 1] [2, 3] rfl rfl (by decide) (by decide) (va_recv (q := (zRL, zTL, 2)) hK hP (ci := 2) (q0 := 0) rfl rfl) rfl hl.1 rfl (Nat.le_of_ble_eq_true rfl) zdL_hasAt_19 ⟨Nat.le_of_ble_eq_true rfl, Nat.le_of_ble_eq_true rfl⟩ rfl rfl (fun r_ _u H locs hq hP hD hS => ?_)
        subst hq
        have hP : va_P g.1 vwCl [(h0, .inr (2, [.ref a0, .int (nI t.length)])), (a0, .inl (g.2.1, cap, .inl f)), (h1, .inr (2, [.ref a1, .int (nI b.length)])), (a1, .inl (g.2.1, cap1, .inl f1))] H := hP
        have hD : va_D A [(h0, .inr (2, [.ref a0, .int (nI t.length)])), (a0, .inl (g.2.1, cap, .inl f)), (h1, .inr (2, [.ref a1, .int (nI b.length)])), (a1, .inl (g.2.1, cap1, .inl f1))] := hD
        refine si_icmp_eq (tgt := 27) hx hb zdL_hasAt_22 rfl (si_g_lt ‹_›) (si_g_lt ‹_›) (fun h22 => ?_) (fun h22 => ?_)
        · refine lv_iinc (k := 3) (v := nI (i + 1)) (lv' := [(3, .int (nI (i + 1))), (0, .ref h0), (1, .ref h1), (2, .int (nI k))]) hx hb zdL_hasAt_27 hl rfl (si_inc _) (Nat.le_of_ble_eq_true rfl) rfl (fun ls hl => ?_)
          refine lv_goto (tgt := 2) hx hb zdL_hasAt_30 rfl ?_
          exact ih2 (i + 1) _ _ _ (by omega) (by omega) (lt_s hall h22) (lv_sub hl [1, 2, 3, 0] rfl) (hP.sub [0, 1, 2, 3] rfl) (hD.sub [0, 1, 2, 3] (by decide) rfl) hS
        · have hoc : si_oc t b k = false := si_nt (fun z => h22 ((si_oc_iff2 hval hk).mp z i (by omega)))
          refine lv_iconst (v := nI 0) hx hb zdL_hasAt_25 (by decide) ?_
          exact hret (nI 0) () _ _ _ _ (rfl) (by rw [hoc]; rfl) (hP.sub [0, 1, 2, 3] rfl) (hD.sub [0, 1, 2, 3] (by decide) rfl) hS zdL_hasAt_26
  exact L2 (b.length - 0 + 1) 0 _ _ _ (by omega) (by omega) (fun j hj => absurd hj (Nat.not_lt_zero _)) (lv_sub hl [1, 2, 3, 0] rfl) (hP.sub [0, 1, 2, 3] rfl) (hD.sub [0, 1, 2, 3] (by decide) rfl) hS

