/-! Contracts of the Befores, second part. Written by wip/draft/p17.py -/
theorem si_upL {f : Nat → Int64} {F : Nat → Int64} {j : Nat} {v : Int64} (h : ∀ k, k < j → f (1 + k) = F k) (hv : v = F j) : ∀ k, k < j + 1 → vp_updL f (1 + j) v (1 + k) = F k := by
  intro k hk
  by_cases e : k = j
  · subst e; rw [pk_uLs, hv]
  · rw [pk_uLn (by omega)]; exact h k (by omega)
set_option maxHeartbeats 4000000 in
set_option maxRecDepth 100000 in
/-- drawLevels -/
theorem cB_drawLevels (l : Launch) (g : si_G) (h0 b1 b2 b3 b4 nn : Nat) (h1 a1 : Nat) (fc fo fn : Nat → Int32) (fw : Nat → Int64) (cx : Nat → Nat) (hn : nn ≤ 60) (hcx : ∀ x, x < nn + 1 → fc x = nI (cx x)) (hc7 : ∀ x, x < nn + 1 → cx x < 128) : si_Mv (S := (Nat → Int32) × (Nat → Int32) × (Nat → Int64)) l g vwCl zyB_drawLevels zwB_drawLevels ({ frames := 1, cells := 0, slots := 0, locals := 25 } : Room) [.ref h0, .ref h1] [(h0, .inr (0, [.ref b1, .ref b2, .ref b3, .ref b4, .int (nI nn)])), (b1, .inl (g.2.1, 61, .inl fc)), (b2, .inl (g.2.1, 61, .inl fo)), (b3, .inl (g.2.1, 61, .inl fn)), (h1, .inr (1, [.ref a1])), (a1, .inl (g.2.2, 23, .inr (.inl fw)))] (fun u => (∀ k, k < 7 → u.2.2 (1 + k) = si_wd (nn + 1) (si_lb cx (nn + 1) k)) ∧ ∀ k, k = 0 ∨ 8 ≤ k → u.2.2 k = fw k) (fun u => [(h0, .inr (0, [.ref b1, .ref b2, .ref b3, .ref b4, .int (nI nn)])), (b1, .inl (g.2.1, 61, .inl fc)), (b2, .inl (g.2.1, 61, .inl u.1)), (b3, .inl (g.2.1, 61, .inl u.2.1)), (h1, .inr (1, [.ref a1])), (a1, .inl (g.2.2, 23, .inr (.inl u.2.2)))]) := by
  refine si_Mv.of (cc := zkB_drawLevels) (maxL := 8) (by decide) rfl (Nat.le_of_ble_eq_true rfl) ?_
  intro p e s m args below meth c A Q ls hF0 hin hK hN hP hD hA hS hl hret
  obtain ⟨hx, hb, hml, hown, hts0⟩ := hF0
  have hts : ∀ w ∈ si_tbl, w.before args s = true := fun w hw => hts0 w (List.mem_cons_of_mem _ hw)
  have hF : CallFix p m c zkB_drawLevels 8 s args si_tbl zRB := ⟨hx, hb, hml, hown, hts⟩
  have hl : lv_has ls 8 [(0, .ref h0), (1, .ref h1)] := hl
  refine lv_aload_n hx hb zdB_drawLevels_0 rfl (lv_at hl 0 rfl) ?_
  refine (cB_startOrder l g h0 b1 b2 b3 b4 nn fo hn).callV (wr := [(b1, .inl (g.2.1, 61, .inl fc)), (b3, .inl (g.2.1, 61, .inl fn)), (h1, .inr (1, [.ref a1])), (a1, .inl (g.2.2, 23, .inr (.inl fw)))]) (As := []) (rest := []) hF (si_cV 0 hts zcB_startOrder zlB_40 zimB_startOrder zseB_startOrder ziniB zhB_startOrder ⟨Nat.le_of_ble_eq_true rfl, Nat.le_of_ble_eq_true rfl⟩) hK hN hP hD hS hA [0, 2] [1, 3, 4, 5] rfl rfl (by decide) (by decide) (va_recv (q := (zRB, zTB, 5)) hK hP (ci := 0) (q0 := 0) rfl rfl) rfl hl.1 rfl (Nat.le_of_ble_eq_true rfl) zdB_drawLevels_1 ⟨Nat.le_of_ble_eq_true rfl, Nat.le_of_ble_eq_true rfl⟩ rfl rfl (fun f0 H locs hq hP hD hS => ?_)
  have hP : va_P g.1 vwCl [(b1, .inl (g.2.1, 61, .inl fc)), (b3, .inl (g.2.1, 61, .inl fn)), (h1, .inr (1, [.ref a1])), (a1, .inl (g.2.2, 23, .inr (.inl fw))), (h0, .inr (0, [.ref b1, .ref b2, .ref b3, .ref b4, .int (nI nn)])), (b2, .inl (g.2.1, 61, .inl f0))] H := hP
  have hD : va_D A [(b1, .inl (g.2.1, 61, .inl fc)), (b3, .inl (g.2.1, 61, .inl fn)), (h1, .inr (1, [.ref a1])), (a1, .inl (g.2.2, 23, .inr (.inl fw))), (h0, .inr (0, [.ref b1, .ref b2, .ref b3, .ref b4, .int (nI nn)])), (b2, .inl (g.2.1, 61, .inl f0))] := hD
  refine lv_iconst (v := nI 0) hx hb zdB_drawLevels_4 (by decide) ?_
  refine lv_istore_n (lv' := [(2, .int (nI 0)), (0, .ref h0), (1, .ref h1)]) hx hb zdB_drawLevels_5 rfl hl (Nat.le_of_ble_eq_true rfl) rfl (fun ls hl => ?_)
  have L6 : ∀ (N : Nat) (j : Nat) (f2 : Nat → Int32) (f3 : Nat → Int32) (w2 : Nat → Int64) (H : Heap) (locs : List Loc) (ls : Array Slot), 7 - j < N → (j ≤ 7) → (∀ x, x < nn + 1 → f2 (si_lp cx (nn + 1) j x) = nI x) → (∀ k, k < j → w2 (1 + k) = si_wd (nn + 1) (si_lb cx (nn + 1) k)) → (∀ k, k = 0 ∨ 8 ≤ k → w2 k = fw k) → lv_has ls 8 [(0, .ref h0), (1, .ref h1), (2, .int (nI j))] → va_P g.1 vwCl [(h0, .inr (0, [.ref b1, .ref b2, .ref b3, .ref b4, .int (nI nn)])), (b1, .inl (g.2.1, 61, .inl fc)), (b2, .inl (g.2.1, 61, .inl f2)), (b3, .inl (g.2.1, 61, .inl f3)), (h1, .inr (1, [.ref a1])), (a1, .inl (g.2.2, 23, .inr (.inl w2)))] H → va_D A [(h0, .inr (0, [.ref b1, .ref b2, .ref b3, .ref b4, .int (nI nn)])), (b1, .inl (g.2.1, 61, .inl fc)), (b2, .inl (g.2.1, 61, .inl f2)), (b3, .inl (g.2.1, 61, .inl f3)), (h1, .inr (1, [.ref a1])), (a1, .inl (g.2.2, 23, .inr (.inl w2)))] → va_S A s.heap H locs → W p l e ({ frames := 1, cells := 0, slots := 0, locals := 25 } : Room) s m args below meth c H locs 0 0 Q (F0 m 6 ls []) := by
    intro N
    induction N with
    | zero => intro j f2 f3 w2 H locs ls hMs; exact absurd hMs (Nat.not_lt_zero _)
    | succ N ih6 =>
      intro j f2 f3 w2 H locs ls hMs hj hO hW hW0 hl hP hD hS
      refine lv_iload_n hx hb zdB_drawLevels_6 rfl (lv_at hl 2 rfl) ?_
      refine lv_bipush (v := nI 7) hx hb zdB_drawLevels_7 (by decide) ?_
      refine si_icmp_ge (tgt := 82) hx hb zdB_drawLevels_9 rfl (by omega) (by decide) (fun h9 => ?_) (fun h9 => ?_)
      · exact hret (f2, f3, w2) _ _ _ _ (⟨fun k hk => hW k (by omega), hW0⟩) (hP.sub [0, 1, 2, 3, 4, 5] rfl) (hD.sub [0, 1, 2, 3, 4, 5] (by decide) rfl) hS zdB_drawLevels_82
      · refine lv_lconst (v := 0) hx hb zdB_drawLevels_12 (by decide) ?_
        refine lv_lstore_n (lv' := [(3, .long (0 : Int64)), (0, .ref h0), (1, .ref h1), (2, .int (nI j))]) hx hb zdB_drawLevels_13 rfl hl (Nat.le_of_ble_eq_true rfl) rfl (fun ls hl => ?_)
        refine lv_iconst (v := nI 0) hx hb zdB_drawLevels_14 (by decide) ?_
        refine lv_istore (lv' := [(5, .int (nI 0)), (3, .long (0 : Int64)), (0, .ref h0), (1, .ref h1), (2, .int (nI j))]) hx hb zdB_drawLevels_15 hl (Nat.le_of_ble_eq_true rfl) rfl (fun ls hl => ?_)
        have L17 : ∀ (N : Nat) (i : Nat) (w : Int64) (H : Heap) (locs : List Loc) (ls : Array Slot), nn + 1 - i < N → (i ≤ nn + 1) → (w = si_wd i (si_lb cx (nn + 1) j)) → lv_has ls 8 [(0, .ref h0), (1, .ref h1), (2, .int (nI j)), (3, .long w), (5, .int (nI i))] → va_P g.1 vwCl [(h0, .inr (0, [.ref b1, .ref b2, .ref b3, .ref b4, .int (nI nn)])), (b1, .inl (g.2.1, 61, .inl fc)), (b2, .inl (g.2.1, 61, .inl f2)), (b3, .inl (g.2.1, 61, .inl f3)), (h1, .inr (1, [.ref a1])), (a1, .inl (g.2.2, 23, .inr (.inl w2)))] H → va_D A [(h0, .inr (0, [.ref b1, .ref b2, .ref b3, .ref b4, .int (nI nn)])), (b1, .inl (g.2.1, 61, .inl fc)), (b2, .inl (g.2.1, 61, .inl f2)), (b3, .inl (g.2.1, 61, .inl f3)), (h1, .inr (1, [.ref a1])), (a1, .inl (g.2.2, 23, .inr (.inl w2)))] → va_S A s.heap H locs → W p l e ({ frames := 1, cells := 0, slots := 0, locals := 25 } : Room) s m args below meth c H locs 0 0 Q (F0 m 17 ls []) := by
          intro N
          induction N with
          | zero => intro i w H locs ls hMs; exact absurd hMs (Nat.not_lt_zero _)
          | succ N ih17 =>
            intro i w H locs ls hMs hi hw hl hP hD hS
            refine lv_iload hx hb zdB_drawLevels_17 (lv_at hl 4 rfl) ?_
            refine lv_aload_n hx hb zdB_drawLevels_19 rfl (lv_at hl 0 rfl) ?_
            refine va_get (D := g.1) (ci := 0) (v := .int (nI nn)) (C := zRB) (T := zTB) (N := 5) hx hb hts ziB hown hK hP 0 rfl rfl 4 (by decide) (hts _ zlB_24) (fun _ h => h) rfl zdB_drawLevels_20 ?_
            refine si_icmp_gt (tgt := 62) hx hb zdB_drawLevels_23 rfl (by omega) (by omega) (fun h23 => ?_) (fun h23 => ?_)
            · have hwe : w = si_wd (nn + 1) (si_lb cx (nn + 1) j) := by rw [hw, show i = nn + 1 by omega]
              refine lv_aload_n hx hb zdB_drawLevels_62 rfl (lv_at hl 1 rfl) ?_
              refine va_getN (D := g.1) (ci := 1) (v := .ref a1) (C := zRI) (T := zTI) (N := 1) hx hb hts ziI hown hK hP 4 rfl rfl 0 (by decide) (va_Nw.use rfl (hN _ zlB_43)) (fun _ h => h) rfl zdB_drawLevels_63 ?_
              refine lv_iconst (v := nI 1) hx hb zdB_drawLevels_66 (by decide) ?_
              refine lv_iload_n hx hb zdB_drawLevels_67 rfl (lv_at hl 2 rfl) ?_
              refine si_iadd (v := nI (1 + j)) hx hb zdB_drawLevels_68 (nI_add _ _) ?_
              refine lv_lload_n hx hb zdB_drawLevels_69 rfl (lv_at hl 3 rfl) ?_
              refine si_last hx hb hK hP hD hS 5 1 rfl rfl (by decide) (by omega) zdB_drawLevels_70 (fun H locs hP hD hS => ?_)
              have hP : va_P g.1 vwCl [(h0, .inr (0, [.ref b1, .ref b2, .ref b3, .ref b4, .int (nI nn)])), (b1, .inl (g.2.1, 61, .inl fc)), (b2, .inl (g.2.1, 61, .inl f2)), (b3, .inl (g.2.1, 61, .inl f3)), (h1, .inr (1, [.ref a1])), (a1, .inl (g.2.2, 23, .inr (.inl (vp_updL w2 (1 + j) w))))] H := hP
              have hD : va_D A [(h0, .inr (0, [.ref b1, .ref b2, .ref b3, .ref b4, .int (nI nn)])), (b1, .inl (g.2.1, 61, .inl fc)), (b2, .inl (g.2.1, 61, .inl f2)), (b3, .inl (g.2.1, 61, .inl f3)), (h1, .inr (1, [.ref a1])), (a1, .inl (g.2.2, 23, .inr (.inl (vp_updL w2 (1 + j) w))))] := hD
              refine lv_aload_n hx hb zdB_drawLevels_71 rfl (lv_at hl 0 rfl) ?_
              refine lv_lload_n hx hb zdB_drawLevels_72 rfl (lv_at hl 3 rfl) ?_
              refine (cB_partOrder l g h0 b1 b2 b3 b4 nn f2 f3 w hn).callV (wr := [(b1, .inl (g.2.1, 61, .inl fc)), (h1, .inr (1, [.ref a1])), (a1, .inl (g.2.2, 23, .inr (.inl (vp_updL w2 (1 + j) w))))]) (As := [.long w]) (rest := []) hF (si_cV 1 hts zcB_partOrder zlB_49 zimB_partOrder zseB_partOrder ziniB zhB_partOrder ⟨Nat.le_of_ble_eq_true rfl, Nat.le_of_ble_eq_true rfl⟩) hK hN hP hD hS hA [0, 2, 3] [1, 4, 5] rfl rfl (by decide) (by decide) (va_recv (q := (zRB, zTB, 5)) hK hP (ci := 0) (q0 := 0) rfl rfl) rfl hl.1 rfl (Nat.le_of_ble_eq_true rfl) zdB_drawLevels_73 ⟨Nat.le_of_ble_eq_true rfl, Nat.le_of_ble_eq_true rfl⟩ rfl rfl (fun u_ H locs hq hP hD hS => ?_)
              obtain ⟨f4, f5⟩ := u_
              have hq : ∀ x, x < nn + 1 → f4 (si_ps (nn + 1) (si_bi w) x) = f2 x := hq
              have hP : va_P g.1 vwCl [(b1, .inl (g.2.1, 61, .inl fc)), (h1, .inr (1, [.ref a1])), (a1, .inl (g.2.2, 23, .inr (.inl (vp_updL w2 (1 + j) w)))), (h0, .inr (0, [.ref b1, .ref b2, .ref b3, .ref b4, .int (nI nn)])), (b2, .inl (g.2.1, 61, .inl f4)), (b3, .inl (g.2.1, 61, .inl f5))] H := hP
              have hD : va_D A [(b1, .inl (g.2.1, 61, .inl fc)), (h1, .inr (1, [.ref a1])), (a1, .inl (g.2.2, 23, .inr (.inl (vp_updL w2 (1 + j) w)))), (h0, .inr (0, [.ref b1, .ref b2, .ref b3, .ref b4, .int (nI nn)])), (b2, .inl (g.2.1, 61, .inl f4)), (b3, .inl (g.2.1, 61, .inl f5))] := hD
              refine lv_iinc (k := 2) (v := nI (j + 1)) (lv' := [(2, .int (nI (j + 1))), (0, .ref h0), (1, .ref h1), (3, .long w), (5, .int (nI i))]) hx hb zdB_drawLevels_76 hl rfl (si_inc _) (Nat.le_of_ble_eq_true rfl) rfl (fun ls hl => ?_)
              refine lv_goto (tgt := 6) hx hb zdB_drawLevels_79 rfl ?_
              exact ih6 (j + 1) f4 f5 (vp_updL w2 (1 + j) w) _ _ _ (by omega) (by omega) (si_dlO (by omega) hwe hO hq) (si_upL (F := fun k => si_wd (nn + 1) (si_lb cx (nn + 1) k)) hW hwe) (fun k hk => by rw [pk_uLn (by omega)]; exact hW0 k hk) (lv_sub hl [1, 2, 0] rfl) (hP.sub [3, 0, 4, 5, 1, 2] rfl) (hD.sub [3, 0, 4, 5, 1, 2] (by decide) rfl) hS
            · have hxi := si_iv_ok (si_lp_bij cx (nn + 1) j) (show i < nn + 1 by omega)
              have hcv := hc7 _ hxi.1
              have hdv : cx (si_iv (nn + 1) (si_lp cx (nn + 1) j) i) / 2 ^ (6 - j) ≤ cx (si_iv (nn + 1) (si_lp cx (nn + 1) j) i) := Nat.div_le_self _ _
              refine lv_aload_n hx hb zdB_drawLevels_26 rfl (lv_at hl 0 rfl) ?_
              refine va_get (D := g.1) (ci := 0) (v := .ref b1) (C := zRB) (T := zTB) (N := 5) hx hb hts ziB hown hK hP 0 rfl rfl 0 (by decide) (hts _ zlB_9) (fun _ h => h) rfl zdB_drawLevels_27 ?_
              refine lv_aload_n hx hb zdB_drawLevels_30 rfl (lv_at hl 0 rfl) ?_
              refine va_get (D := g.1) (ci := 0) (v := .ref b2) (C := zRB) (T := zTB) (N := 5) hx hb hts ziB hown hK hP 0 rfl rfl 1 (by decide) (hts _ zlB_15) (fun _ h => h) rfl zdB_drawLevels_31 ?_
              refine lv_iload hx hb zdB_drawLevels_34 (lv_at hl 4 rfl) ?_
              refine si_iald (v := nI (si_iv (nn + 1) (si_lp cx (nn + 1) j) i)) hx hb hK hP 2 0 rfl rfl (by decide) (by omega) (si_ivv (si_lp_bij cx (nn + 1) j) hO (by omega)) zdB_drawLevels_36 ?_
              refine si_iald (v := nI (cx (si_iv (nn + 1) (si_lp cx (nn + 1) j) i))) hx hb hK hP 1 0 rfl rfl (by decide) (by omega) (hcx _ hxi.1) zdB_drawLevels_37 ?_
              refine lv_bipush (v := nI 6) hx hb zdB_drawLevels_38 (by decide) ?_
              refine lv_iload_n hx hb zdB_drawLevels_40 rfl (lv_at hl 2 rfl) ?_
              refine si_isub (v := nI (6 - j)) hx hb zdB_drawLevels_41 (pk_sub (by omega)) ?_
              refine si_ishr (v := nI (cx (si_iv (nn + 1) (si_lp cx (nn + 1) j) i) / 2 ^ (6 - j))) hx hb zdB_drawLevels_42 (pk_shrN (by omega) _ _ (si_sl5 _ (by omega))) ?_
              refine lv_iconst (v := nI 1) hx hb zdB_drawLevels_43 (by decide) ?_
              refine si_iand (v := nI ((si_lb cx (nn + 1) j i).toNat)) hx hb zdB_drawLevels_44 (si_bitj hcv) ?_
              refine lv_i2l (v := lN (si_lb cx (nn + 1) j i).toNat) hx hb zdB_drawLevels_45 (nI_l (si_bn _)) ?_
              refine lv_lstore (lv' := [(6, .long (lN (si_lb cx (nn + 1) j i).toNat)), (0, .ref h0), (1, .ref h1), (2, .int (nI j)), (3, .long w), (5, .int (nI i))]) hx hb zdB_drawLevels_46 hl (Nat.le_of_ble_eq_true rfl) rfl (fun ls hl => ?_)
              refine lv_lload_n hx hb zdB_drawLevels_48 rfl (lv_at hl 4 rfl) ?_
              refine lv_lload hx hb zdB_drawLevels_49 (lv_at hl 0 rfl) ?_
              refine lv_iload hx hb zdB_drawLevels_51 (lv_at hl 5 rfl) ?_
              refine lv_lshl (v := (lN (si_lb cx (nn + 1) j i).toNat) <<< ((nI i).toInt64 &&& 63)) hx hb zdB_drawLevels_53 (rfl) ?_
              refine si_lor (v := w ||| ((lN (si_lb cx (nn + 1) j i).toNat) <<< ((nI i).toInt64 &&& 63))) hx hb zdB_drawLevels_54 (rfl) ?_
              refine lv_lstore_n (lv' := [(3, .long (w ||| ((lN (si_lb cx (nn + 1) j i).toNat) <<< ((nI i).toInt64 &&& 63)))), (6, .long (lN (si_lb cx (nn + 1) j i).toNat)), (0, .ref h0), (1, .ref h1), (2, .int (nI j)), (5, .int (nI i))]) hx hb zdB_drawLevels_55 rfl hl (Nat.le_of_ble_eq_true rfl) rfl (fun ls hl => ?_)
              refine lv_iinc (k := 5) (v := nI (i + 1)) (lv' := [(5, .int (nI (i + 1))), (3, .long (w ||| ((lN (si_lb cx (nn + 1) j i).toNat) <<< ((nI i).toInt64 &&& 63)))), (6, .long (lN (si_lb cx (nn + 1) j i).toNat)), (0, .ref h0), (1, .ref h1), (2, .int (nI j))]) hx hb zdB_drawLevels_56 hl rfl (si_inc _) (Nat.le_of_ble_eq_true rfl) rfl (fun ls hl => ?_)
              refine lv_goto (tgt := 17) hx hb zdB_drawLevels_59 rfl ?_
              exact ih17 (i + 1) (w ||| ((lN (si_lb cx (nn + 1) j i).toNat) <<< ((nI i).toInt64 &&& 63))) _ _ _ (by omega) (by omega) (by rw [hw]; exact si_wd_s _ (by omega)) (lv_sub hl [3, 4, 5, 1, 0] rfl) (hP.sub [0, 1, 2, 3, 4, 5] rfl) (hD.sub [0, 1, 2, 3, 4, 5] (by decide) rfl) hS
        exact L17 (nn + 1 - 0 + 1) 0 (0 : Int64) _ _ _ (by omega) (by omega) (rfl) (lv_sub hl [2, 3, 4, 1, 0] rfl) (hP.sub [0, 1, 2, 3, 4, 5] rfl) (hD.sub [0, 1, 2, 3, 4, 5] (by decide) rfl) hS
  exact L6 (7 - 0 + 1) 0 f0 fn fw _ _ _ (by omega) (by omega) (hq) (fun k hk => absurd hk (Nat.not_lt_zero _)) (fun k _ => rfl) (lv_sub hl [1, 2, 0] rfl) (hP.sub [4, 0, 5, 1, 2, 3] rfl) (hD.sub [4, 0, 5, 1, 2, 3] (by decide) rfl) hS

set_option maxHeartbeats 4000000 in
set_option maxRecDepth 100000 in
/-- readLevels -/
theorem cB_readLevels (l : Launch) (g : si_G) (h0 b1 b2 b3 b4 nn h1 a1 : Nat) (last : Int32) (fc fo fn : Nat → Int32) (fw : Nat → Int64) (hn : nn ≤ 60) : si_Mv (S := (Nat → Int32) × (Nat → Int32) × (Nat → Int32)) l g vwCl zyB_readLevels zwB_readLevels ({ frames := 1, cells := 0, slots := 0, locals := 25 } : Room) [.ref h0, .ref h1, .int (nI nn)] [(h0, .inr (0, [.ref b1, .ref b2, .ref b3, .ref b4, .int last])), (b1, .inl (g.2.1, 61, .inl fc)), (b2, .inl (g.2.1, 61, .inl fo)), (b3, .inl (g.2.1, 61, .inl fn)), (h1, .inr (1, [.ref a1])), (a1, .inl (g.2.2, 23, .inr (.inl fw)))] (fun u => ∀ x, x < nn + 1 → u.1 x = nI (si_rc (si_db fw) (nn + 1) 7 x)) (fun u => [(h0, .inr (0, [.ref b1, .ref b2, .ref b3, .ref b4, .int (nI nn)])), (b1, .inl (g.2.1, 61, .inl u.1)), (b2, .inl (g.2.1, 61, .inl u.2.1)), (b3, .inl (g.2.1, 61, .inl u.2.2)), (h1, .inr (1, [.ref a1])), (a1, .inl (g.2.2, 23, .inr (.inl fw)))]) := by
  refine si_Mv.of (cc := zkB_readLevels) (maxL := 8) (by decide) rfl (Nat.le_of_ble_eq_true rfl) ?_
  intro p e s m args below meth c A Q ls hF0 hin hK hN hP hD hA hS hl hret
  obtain ⟨hx, hb, hml, hown, hts0⟩ := hF0
  have hts : ∀ w ∈ si_tbl, w.before args s = true := fun w hw => hts0 w (List.mem_cons_of_mem _ hw)
  have hF : CallFix p m c zkB_readLevels 8 s args si_tbl zRB := ⟨hx, hb, hml, hown, hts⟩
  have hl : lv_has ls 8 [(0, .ref h0), (1, .ref h1), (2, .int (nI nn))] := hl
  refine lv_aload_n hx hb zdB_readLevels_0 rfl (lv_at hl 0 rfl) ?_
  refine lv_iload_n hx hb zdB_readLevels_1 rfl (lv_at hl 2 rfl) ?_
  refine va_put (D := g.1) (ci := 0) (v := .int (nI nn)) (ty := .int) (C := zRB) (T := zTB) (N := 5) hx hb hts ziB ztB ztoB znB hown hK hP hD hS 0 rfl rfl 4 (by decide) (hts _ zlB_24) (fun _ h => h) rfl (by decide +kernel) rfl rfl (Nat.le_of_ble_eq_true rfl) zdB_readLevels_2 (fun H locs hP hD hS => ?_)
  have hP : va_P g.1 vwCl [(h0, .inr (0, [.ref b1, .ref b2, .ref b3, .ref b4, .int (nI nn)])), (b1, .inl (g.2.1, 61, .inl fc)), (b2, .inl (g.2.1, 61, .inl fo)), (b3, .inl (g.2.1, 61, .inl fn)), (h1, .inr (1, [.ref a1])), (a1, .inl (g.2.2, 23, .inr (.inl fw)))] H := hP
  have hD : va_D A [(h0, .inr (0, [.ref b1, .ref b2, .ref b3, .ref b4, .int (nI nn)])), (b1, .inl (g.2.1, 61, .inl fc)), (b2, .inl (g.2.1, 61, .inl fo)), (b3, .inl (g.2.1, 61, .inl fn)), (h1, .inr (1, [.ref a1])), (a1, .inl (g.2.2, 23, .inr (.inl fw)))] := hD
  refine lv_aload_n hx hb zdB_readLevels_5 rfl (lv_at hl 0 rfl) ?_
  refine (cB_startOrder l g h0 b1 b2 b3 b4 nn fo hn).callV (wr := [(b1, .inl (g.2.1, 61, .inl fc)), (b3, .inl (g.2.1, 61, .inl fn)), (h1, .inr (1, [.ref a1])), (a1, .inl (g.2.2, 23, .inr (.inl fw)))]) (As := []) (rest := []) hF (si_cV 0 hts zcB_startOrder zlB_40 zimB_startOrder zseB_startOrder ziniB zhB_startOrder ⟨Nat.le_of_ble_eq_true rfl, Nat.le_of_ble_eq_true rfl⟩) hK hN hP hD hS hA [0, 2] [1, 3, 4, 5] rfl rfl (by decide) (by decide) (va_recv (q := (zRB, zTB, 5)) hK hP (ci := 0) (q0 := 0) rfl rfl) rfl hl.1 rfl (Nat.le_of_ble_eq_true rfl) zdB_readLevels_6 ⟨Nat.le_of_ble_eq_true rfl, Nat.le_of_ble_eq_true rfl⟩ rfl rfl (fun f0 H locs hq hP hD hS => ?_)
  have hP : va_P g.1 vwCl [(b1, .inl (g.2.1, 61, .inl fc)), (b3, .inl (g.2.1, 61, .inl fn)), (h1, .inr (1, [.ref a1])), (a1, .inl (g.2.2, 23, .inr (.inl fw))), (h0, .inr (0, [.ref b1, .ref b2, .ref b3, .ref b4, .int (nI nn)])), (b2, .inl (g.2.1, 61, .inl f0))] H := hP
  have hD : va_D A [(b1, .inl (g.2.1, 61, .inl fc)), (b3, .inl (g.2.1, 61, .inl fn)), (h1, .inr (1, [.ref a1])), (a1, .inl (g.2.2, 23, .inr (.inl fw))), (h0, .inr (0, [.ref b1, .ref b2, .ref b3, .ref b4, .int (nI nn)])), (b2, .inl (g.2.1, 61, .inl f0))] := hD
  refine lv_iconst (v := nI 0) hx hb zdB_readLevels_9 (by decide) ?_
  refine lv_istore_n (lv' := [(3, .int (nI 0)), (0, .ref h0), (1, .ref h1), (2, .int (nI nn))]) hx hb zdB_readLevels_10 rfl hl (Nat.le_of_ble_eq_true rfl) rfl (fun ls hl => ?_)
  have L11 : ∀ (N : Nat) (k : Nat) (f2 : Nat → Int32) (H : Heap) (locs : List Loc) (ls : Array Slot), nn + 1 - k < N → (k ≤ nn + 1) → (∀ x, x < k → f2 x = nI 0) → lv_has ls 8 [(0, .ref h0), (1, .ref h1), (3, .int (nI k))] → va_P g.1 vwCl [(h0, .inr (0, [.ref b1, .ref b2, .ref b3, .ref b4, .int (nI nn)])), (b1, .inl (g.2.1, 61, .inl f2)), (b2, .inl (g.2.1, 61, .inl f0)), (b3, .inl (g.2.1, 61, .inl fn)), (h1, .inr (1, [.ref a1])), (a1, .inl (g.2.2, 23, .inr (.inl fw)))] H → va_D A [(h0, .inr (0, [.ref b1, .ref b2, .ref b3, .ref b4, .int (nI nn)])), (b1, .inl (g.2.1, 61, .inl f2)), (b2, .inl (g.2.1, 61, .inl f0)), (b3, .inl (g.2.1, 61, .inl fn)), (h1, .inr (1, [.ref a1])), (a1, .inl (g.2.2, 23, .inr (.inl fw)))] → va_S A s.heap H locs → W p l e ({ frames := 1, cells := 0, slots := 0, locals := 25 } : Room) s m args below meth c H locs 0 0 Q (F0 m 11 ls []) := by
    intro N
    induction N with
    | zero => intro k f2 H locs ls hMs; exact absurd hMs (Nat.not_lt_zero _)
    | succ N ih11 =>
      intro k f2 H locs ls hMs hk hZ hl hP hD hS
      refine lv_iload_n hx hb zdB_readLevels_11 rfl (lv_at hl 2 rfl) ?_
      refine lv_aload_n hx hb zdB_readLevels_12 rfl (lv_at hl 0 rfl) ?_
      refine va_get (D := g.1) (ci := 0) (v := .int (nI nn)) (C := zRB) (T := zTB) (N := 5) hx hb hts ziB hown hK hP 0 rfl rfl 4 (by decide) (hts _ zlB_24) (fun _ h => h) rfl zdB_readLevels_13 ?_
      refine si_icmp_gt (tgt := 32) hx hb zdB_readLevels_16 rfl (by omega) (by omega) (fun h16 => ?_) (fun h16 => ?_)
      · refine lv_iconst (v := nI 0) hx hb zdB_readLevels_32 (by decide) ?_
        refine lv_istore_n (lv' := [(3, .int (nI 0)), (0, .ref h0), (1, .ref h1)]) hx hb zdB_readLevels_33 rfl hl (Nat.le_of_ble_eq_true rfl) rfl (fun ls hl => ?_)
        have L34 : ∀ (N : Nat) (j : Nat) (g1 : Nat → Int32) (g2 : Nat → Int32) (g3 : Nat → Int32) (H : Heap) (locs : List Loc) (ls : Array Slot), 7 - j < N → (j ≤ 7) → (∀ x, x < nn + 1 → g2 (si_rp (si_db fw) (nn + 1) j x) = nI x) → (∀ x, x < nn + 1 → g1 x = nI (si_rc (si_db fw) (nn + 1) j x)) → lv_has ls 8 [(0, .ref h0), (1, .ref h1), (3, .int (nI j))] → va_P g.1 vwCl [(h0, .inr (0, [.ref b1, .ref b2, .ref b3, .ref b4, .int (nI nn)])), (b1, .inl (g.2.1, 61, .inl g1)), (b2, .inl (g.2.1, 61, .inl g2)), (b3, .inl (g.2.1, 61, .inl g3)), (h1, .inr (1, [.ref a1])), (a1, .inl (g.2.2, 23, .inr (.inl fw)))] H → va_D A [(h0, .inr (0, [.ref b1, .ref b2, .ref b3, .ref b4, .int (nI nn)])), (b1, .inl (g.2.1, 61, .inl g1)), (b2, .inl (g.2.1, 61, .inl g2)), (b3, .inl (g.2.1, 61, .inl g3)), (h1, .inr (1, [.ref a1])), (a1, .inl (g.2.2, 23, .inr (.inl fw)))] → va_S A s.heap H locs → W p l e ({ frames := 1, cells := 0, slots := 0, locals := 25 } : Room) s m args below meth c H locs 0 0 Q (F0 m 34 ls []) := by
          intro N
          induction N with
          | zero => intro j g1 g2 g3 H locs ls hMs; exact absurd hMs (Nat.not_lt_zero _)
          | succ N ih34 =>
            intro j g1 g2 g3 H locs ls hMs hj hO hC hl hP hD hS
            refine lv_iload_n hx hb zdB_readLevels_34 rfl (lv_at hl 2 rfl) ?_
            refine lv_bipush (v := nI 7) hx hb zdB_readLevels_35 (by decide) ?_
            refine si_icmp_ge (tgt := 119) hx hb zdB_readLevels_37 rfl (by omega) (by decide) (fun h37 => ?_) (fun h37 => ?_)
            · have hj7 : j = 7 := by omega
              subst hj7
              exact hret (g1, g2, g3) _ _ _ _ (hC) (hP.sub [0, 1, 2, 3, 4, 5] rfl) (hD.sub [0, 1, 2, 3, 4, 5] (by decide) rfl) hS zdB_readLevels_119
            · refine lv_aload_n hx hb zdB_readLevels_40 rfl (lv_at hl 1 rfl) ?_
              refine va_getN (D := g.1) (ci := 1) (v := .ref a1) (C := zRI) (T := zTI) (N := 1) hx hb hts ziI hown hK hP 4 rfl rfl 0 (by decide) (va_Nw.use rfl (hN _ zlB_43)) (fun _ h => h) rfl zdB_readLevels_41 ?_
              refine lv_iconst (v := nI 1) hx hb zdB_readLevels_44 (by decide) ?_
              refine lv_iload_n hx hb zdB_readLevels_45 rfl (lv_at hl 2 rfl) ?_
              refine si_iadd (v := nI (1 + j)) hx hb zdB_readLevels_46 (nI_add _ _) ?_
              refine si_lald (v := fw (1 + j)) hx hb hK hP 5 1 rfl rfl (by decide) (by omega) (rfl) zdB_readLevels_47 ?_
              refine lv_lstore (lv' := [(4, .long (fw (1 + j))), (0, .ref h0), (1, .ref h1), (3, .int (nI j))]) hx hb zdB_readLevels_48 hl (Nat.le_of_ble_eq_true rfl) rfl (fun ls hl => ?_)
              refine lv_iconst (v := nI 0) hx hb zdB_readLevels_50 (by decide) ?_
              refine lv_istore (lv' := [(6, .int (nI 0)), (4, .long (fw (1 + j))), (0, .ref h0), (1, .ref h1), (3, .int (nI j))]) hx hb zdB_readLevels_51 hl (Nat.le_of_ble_eq_true rfl) rfl (fun ls hl => ?_)
              have L53 : ∀ (N : Nat) (i : Nat) (g4 : Nat → Int32) (H : Heap) (locs : List Loc) (ls : Array Slot), nn + 1 - i < N → (i ≤ nn + 1) → (∀ x, x < nn + 1 → si_rp (si_db fw) (nn + 1) j x < i → g4 x = nI (si_rc (si_db fw) (nn + 1) (j + 1) x)) → (∀ x, x < nn + 1 → i ≤ si_rp (si_db fw) (nn + 1) j x → g4 x = nI (si_rc (si_db fw) (nn + 1) j x)) → lv_has ls 8 [(0, .ref h0), (1, .ref h1), (3, .int (nI j)), (4, .long (fw (1 + j))), (6, .int (nI i))] → va_P g.1 vwCl [(h0, .inr (0, [.ref b1, .ref b2, .ref b3, .ref b4, .int (nI nn)])), (b1, .inl (g.2.1, 61, .inl g4)), (b2, .inl (g.2.1, 61, .inl g2)), (b3, .inl (g.2.1, 61, .inl g3)), (h1, .inr (1, [.ref a1])), (a1, .inl (g.2.2, 23, .inr (.inl fw)))] H → va_D A [(h0, .inr (0, [.ref b1, .ref b2, .ref b3, .ref b4, .int (nI nn)])), (b1, .inl (g.2.1, 61, .inl g4)), (b2, .inl (g.2.1, 61, .inl g2)), (b3, .inl (g.2.1, 61, .inl g3)), (h1, .inr (1, [.ref a1])), (a1, .inl (g.2.2, 23, .inr (.inl fw)))] → va_S A s.heap H locs → W p l e ({ frames := 1, cells := 0, slots := 0, locals := 25 } : Room) s m args below meth c H locs 0 0 Q (F0 m 53 ls []) := by
                intro N
                induction N with
                | zero => intro i g4 H locs ls hMs; exact absurd hMs (Nat.not_lt_zero _)
                | succ N ih53 =>
                  intro i g4 H locs ls hMs hi hC1 hC2 hl hP hD hS
                  refine lv_iload hx hb zdB_readLevels_53 (lv_at hl 4 rfl) ?_
                  refine lv_aload_n hx hb zdB_readLevels_55 rfl (lv_at hl 0 rfl) ?_
                  refine va_get (D := g.1) (ci := 0) (v := .int (nI nn)) (C := zRB) (T := zTB) (N := 5) hx hb hts ziB hown hK hP 0 rfl rfl 4 (by decide) (hts _ zlB_24) (fun _ h => h) rfl zdB_readLevels_56 ?_
                  refine si_icmp_gt (tgt := 107) hx hb zdB_readLevels_59 rfl (by omega) (by omega) (fun h59 => ?_) (fun h59 => ?_)
                  · refine lv_aload_n hx hb zdB_readLevels_107 rfl (lv_at hl 0 rfl) ?_
                    refine lv_lload hx hb zdB_readLevels_108 (lv_at hl 3 rfl) ?_
                    refine (cB_partOrder l g h0 b1 b2 b3 b4 nn g2 g3 (fw (1 + j)) hn).callV (wr := [(b1, .inl (g.2.1, 61, .inl g4)), (h1, .inr (1, [.ref a1])), (a1, .inl (g.2.2, 23, .inr (.inl fw)))]) (As := [.long (fw (1 + j))]) (rest := []) hF (si_cV 1 hts zcB_partOrder zlB_49 zimB_partOrder zseB_partOrder ziniB zhB_partOrder ⟨Nat.le_of_ble_eq_true rfl, Nat.le_of_ble_eq_true rfl⟩) hK hN hP hD hS hA [0, 2, 3] [1, 4, 5] rfl rfl (by decide) (by decide) (va_recv (q := (zRB, zTB, 5)) hK hP (ci := 0) (q0 := 0) rfl rfl) rfl hl.1 rfl (Nat.le_of_ble_eq_true rfl) zdB_readLevels_110 ⟨Nat.le_of_ble_eq_true rfl, Nat.le_of_ble_eq_true rfl⟩ rfl rfl (fun u_ H locs hq2 hP hD hS => ?_)
                    obtain ⟨f4, f5⟩ := u_
                    have hq2 : ∀ x, x < nn + 1 → f4 (si_ps (nn + 1) (si_db fw j) x) = g2 x := hq2
                    have hP : va_P g.1 vwCl [(b1, .inl (g.2.1, 61, .inl g4)), (h1, .inr (1, [.ref a1])), (a1, .inl (g.2.2, 23, .inr (.inl fw))), (h0, .inr (0, [.ref b1, .ref b2, .ref b3, .ref b4, .int (nI nn)])), (b2, .inl (g.2.1, 61, .inl f4)), (b3, .inl (g.2.1, 61, .inl f5))] H := hP
                    have hD : va_D A [(b1, .inl (g.2.1, 61, .inl g4)), (h1, .inr (1, [.ref a1])), (a1, .inl (g.2.2, 23, .inr (.inl fw))), (h0, .inr (0, [.ref b1, .ref b2, .ref b3, .ref b4, .int (nI nn)])), (b2, .inl (g.2.1, 61, .inl f4)), (b3, .inl (g.2.1, 61, .inl f5))] := hD
                    refine lv_iinc (k := 2) (v := nI (j + 1)) (lv' := [(3, .int (nI (j + 1))), (0, .ref h0), (1, .ref h1), (4, .long (fw (1 + j))), (6, .int (nI i))]) hx hb zdB_readLevels_113 hl rfl (si_inc _) (Nat.le_of_ble_eq_true rfl) rfl (fun ls hl => ?_)
                    refine lv_goto (tgt := 34) hx hb zdB_readLevels_116 rfl ?_
                    exact ih34 (j + 1) g4 f4 f5 _ _ _ (by omega) (by omega) (fun x hx => (hq2 _ ((si_rp_bij (si_db fw) (nn + 1) j).1 x hx)).trans (hO x hx)) (fun x hx => hC1 x hx (by have := (si_rp_bij (si_db fw) (nn + 1) j).1 x hx; omega)) (lv_sub hl [1, 2, 0] rfl) (hP.sub [3, 0, 4, 5, 1, 2] rfl) (hD.sub [3, 0, 4, 5, 1, 2] (by decide) rfl) hS
                  · have hxi := si_iv_ok (si_rp_bij (si_db fw) (nn + 1) j) (show i < nn + 1 by omega)
                    refine lv_lload hx hb zdB_readLevels_62 (lv_at hl 3 rfl) ?_
                    refine lv_iload hx hb zdB_readLevels_64 (lv_at hl 4 rfl) ?_
                    refine lv_lushr (v := ((fw (1 + j)).toUInt64 >>> ((nI i).toInt64.toUInt64 &&& Int64.toUInt64 63)).toInt64) hx hb zdB_readLevels_66 (rfl) ?_
                    refine lv_lconst (v := 1) hx hb zdB_readLevels_67 (by decide) ?_
                    refine si_land (v := if si_bi (fw (1 + j)) i = true then 1 else 0) hx hb zdB_readLevels_68 (si_ush _ (by omega)) ?_
                    refine lv_l2i (v := nI ((si_bi (fw (1 + j)) i).toNat)) hx hb zdB_readLevels_69 (si_l2b _) ?_
                    refine lv_istore (lv' := [(7, .int (nI ((si_bi (fw (1 + j)) i).toNat))), (0, .ref h0), (1, .ref h1), (3, .int (nI j)), (4, .long (fw (1 + j))), (6, .int (nI i))]) hx hb zdB_readLevels_70 hl (Nat.le_of_ble_eq_true rfl) rfl (fun ls hl => ?_)
                    refine lv_aload_n hx hb zdB_readLevels_72 rfl (lv_at hl 1 rfl) ?_
                    refine va_get (D := g.1) (ci := 0) (v := .ref b1) (C := zRB) (T := zTB) (N := 5) hx hb hts ziB hown hK hP 0 rfl rfl 0 (by decide) (hts _ zlB_9) (fun _ h => h) rfl zdB_readLevels_73 ?_
                    refine lv_aload_n hx hb zdB_readLevels_76 rfl (lv_at hl 1 rfl) ?_
                    refine va_get (D := g.1) (ci := 0) (v := .ref b2) (C := zRB) (T := zTB) (N := 5) hx hb hts ziB hown hK hP 0 rfl rfl 1 (by decide) (hts _ zlB_15) (fun _ h => h) rfl zdB_readLevels_77 ?_
                    refine lv_iload hx hb zdB_readLevels_80 (lv_at hl 5 rfl) ?_
                    refine si_iald (v := nI (si_iv (nn + 1) (si_rp (si_db fw) (nn + 1) j) i)) hx hb hK hP 2 0 rfl rfl (by decide) (by omega) (si_ivv (si_rp_bij (si_db fw) (nn + 1) j) hO (by omega)) zdB_readLevels_82 ?_
                    refine lv_iconst (v := nI 2) hx hb zdB_readLevels_83 (by decide) ?_
                    refine lv_aload_n hx hb zdB_readLevels_84 rfl (lv_at hl 1 rfl) ?_
                    refine va_get (D := g.1) (ci := 0) (v := .ref b1) (C := zRB) (T := zTB) (N := 5) hx hb hts ziB hown hK hP 0 rfl rfl 0 (by decide) (hts _ zlB_9) (fun _ h => h) rfl zdB_readLevels_85 ?_
                    refine lv_aload_n hx hb zdB_readLevels_88 rfl (lv_at hl 1 rfl) ?_
                    refine va_get (D := g.1) (ci := 0) (v := .ref b2) (C := zRB) (T := zTB) (N := 5) hx hb hts ziB hown hK hP 0 rfl rfl 1 (by decide) (hts _ zlB_15) (fun _ h => h) rfl zdB_readLevels_89 ?_
                    refine lv_iload hx hb zdB_readLevels_92 (lv_at hl 5 rfl) ?_
                    refine si_iald (v := nI (si_iv (nn + 1) (si_rp (si_db fw) (nn + 1) j) i)) hx hb hK hP 2 0 rfl rfl (by decide) (by omega) (si_ivv (si_rp_bij (si_db fw) (nn + 1) j) hO (by omega)) zdB_readLevels_94 ?_
                    refine si_iald (v := nI (si_rc (si_db fw) (nn + 1) j (si_iv (nn + 1) (si_rp (si_db fw) (nn + 1) j) i))) hx hb hK hP 1 0 rfl rfl (by decide) (by omega) (hC2 _ hxi.1 (by rw [hxi.2]; exact Nat.le_refl _)) zdB_readLevels_95 ?_
                    refine si_imul (v := nI (2 * (si_rc (si_db fw) (nn + 1) j (si_iv (nn + 1) (si_rp (si_db fw) (nn + 1) j) i)))) hx hb zdB_readLevels_96 (pk_mul _ _) ?_
                    refine lv_iload hx hb zdB_readLevels_97 (lv_at hl 0 rfl) ?_
                    refine si_iadd (v := nI (2 * (si_rc (si_db fw) (nn + 1) j (si_iv (nn + 1) (si_rp (si_db fw) (nn + 1) j) i)) + ((si_bi (fw (1 + j)) i).toNat))) hx hb zdB_readLevels_99 (nI_add _ _) ?_
                    refine si_iast hx hb hK hP hD hS 1 0 rfl rfl (by decide) (by omega) zdB_readLevels_100 (fun H locs hP hD hS => ?_)
                    have hP : va_P g.1 vwCl [(h0, .inr (0, [.ref b1, .ref b2, .ref b3, .ref b4, .int (nI nn)])), (b1, .inl (g.2.1, 61, .inl (upd g4 (si_iv (nn + 1) (si_rp (si_db fw) (nn + 1) j) i) (nI (2 * (si_rc (si_db fw) (nn + 1) j (si_iv (nn + 1) (si_rp (si_db fw) (nn + 1) j) i)) + ((si_bi (fw (1 + j)) i).toNat)))))), (b2, .inl (g.2.1, 61, .inl g2)), (b3, .inl (g.2.1, 61, .inl g3)), (h1, .inr (1, [.ref a1])), (a1, .inl (g.2.2, 23, .inr (.inl fw)))] H := hP
                    have hD : va_D A [(h0, .inr (0, [.ref b1, .ref b2, .ref b3, .ref b4, .int (nI nn)])), (b1, .inl (g.2.1, 61, .inl (upd g4 (si_iv (nn + 1) (si_rp (si_db fw) (nn + 1) j) i) (nI (2 * (si_rc (si_db fw) (nn + 1) j (si_iv (nn + 1) (si_rp (si_db fw) (nn + 1) j) i)) + ((si_bi (fw (1 + j)) i).toNat)))))), (b2, .inl (g.2.1, 61, .inl g2)), (b3, .inl (g.2.1, 61, .inl g3)), (h1, .inr (1, [.ref a1])), (a1, .inl (g.2.2, 23, .inr (.inl fw)))] := hD
                    refine lv_iinc (k := 5) (v := nI (i + 1)) (lv' := [(6, .int (nI (i + 1))), (7, .int (nI ((si_bi (fw (1 + j)) i).toNat))), (0, .ref h0), (1, .ref h1), (3, .int (nI j)), (4, .long (fw (1 + j)))]) hx hb zdB_readLevels_101 hl rfl (si_inc _) (Nat.le_of_ble_eq_true rfl) rfl (fun ls hl => ?_)
                    refine lv_goto (tgt := 53) hx hb zdB_readLevels_104 rfl ?_
                    exact ih53 (i + 1) (upd g4 (si_iv (nn + 1) (si_rp (si_db fw) (nn + 1) j) i) (nI (2 * (si_rc (si_db fw) (nn + 1) j (si_iv (nn + 1) (si_rp (si_db fw) (nn + 1) j) i)) + ((si_bi (fw (1 + j)) i).toNat)))) _ _ _ (by omega) (by omega) (si_rcU (b := si_db fw) (by omega) hC1) (si_rcK (b := si_db fw) (by omega) hC2) (lv_sub hl [2, 3, 4, 5, 0] rfl) (hP.sub [0, 1, 2, 3, 4, 5] rfl) (hD.sub [0, 1, 2, 3, 4, 5] (by decide) rfl) hS
              exact L53 (nn + 1 - 0 + 1) 0 g1 _ _ _ (by omega) (by omega) (fun x _ h => absurd h (Nat.not_lt_zero _)) (fun x hx _ => hC x hx) (lv_sub hl [2, 3, 4, 1, 0] rfl) (hP.sub [0, 1, 2, 3, 4, 5] rfl) (hD.sub [0, 1, 2, 3, 4, 5] (by decide) rfl) hS
        exact L34 (7 - 0 + 1) 0 f2 f0 fn _ _ _ (by omega) (by omega) (hq) (fun x hx => hZ x (by omega)) (lv_sub hl [1, 2, 0] rfl) (hP.sub [0, 1, 2, 3, 4, 5] rfl) (hD.sub [0, 1, 2, 3, 4, 5] (by decide) rfl) hS
      · refine lv_aload_n hx hb zdB_readLevels_19 rfl (lv_at hl 0 rfl) ?_
        refine va_get (D := g.1) (ci := 0) (v := .ref b1) (C := zRB) (T := zTB) (N := 5) hx hb hts ziB hown hK hP 0 rfl rfl 0 (by decide) (hts _ zlB_9) (fun _ h => h) rfl zdB_readLevels_20 ?_
        refine lv_iload_n hx hb zdB_readLevels_23 rfl (lv_at hl 2 rfl) ?_
        refine lv_iconst (v := nI 0) hx hb zdB_readLevels_24 (by decide) ?_
        refine si_iast hx hb hK hP hD hS 1 0 rfl rfl (by decide) (by omega) zdB_readLevels_25 (fun H locs hP hD hS => ?_)
        have hP : va_P g.1 vwCl [(h0, .inr (0, [.ref b1, .ref b2, .ref b3, .ref b4, .int (nI nn)])), (b1, .inl (g.2.1, 61, .inl (upd f2 k (nI 0)))), (b2, .inl (g.2.1, 61, .inl f0)), (b3, .inl (g.2.1, 61, .inl fn)), (h1, .inr (1, [.ref a1])), (a1, .inl (g.2.2, 23, .inr (.inl fw)))] H := hP
        have hD : va_D A [(h0, .inr (0, [.ref b1, .ref b2, .ref b3, .ref b4, .int (nI nn)])), (b1, .inl (g.2.1, 61, .inl (upd f2 k (nI 0)))), (b2, .inl (g.2.1, 61, .inl f0)), (b3, .inl (g.2.1, 61, .inl fn)), (h1, .inr (1, [.ref a1])), (a1, .inl (g.2.2, 23, .inr (.inl fw)))] := hD
        refine lv_iinc (k := 2) (v := nI (k + 1)) (lv' := [(3, .int (nI (k + 1))), (0, .ref h0), (1, .ref h1)]) hx hb zdB_readLevels_26 hl rfl (si_inc _) (Nat.le_of_ble_eq_true rfl) rfl (fun ls hl => ?_)
        refine lv_goto (tgt := 11) hx hb zdB_readLevels_29 rfl ?_
        exact ih11 (k + 1) (upd f2 k (nI 0)) _ _ _ (by omega) (by omega) (si_up (F := fun _ => nI 0) hZ rfl) (lv_sub hl [1, 2, 0] rfl) (hP.sub [0, 1, 2, 3, 4, 5] rfl) (hD.sub [0, 1, 2, 3, 4, 5] (by decide) rfl) hS
  exact L11 (nn + 1 - 0 + 1) 0 fc _ _ _ (by omega) (by omega) (fun x hx => absurd hx (Nat.not_lt_zero _)) (lv_sub hl [1, 2, 0] rfl) (hP.sub [4, 0, 5, 1, 2, 3] rfl) (hD.sub [4, 0, 5, 1, 2, 3] (by decide) rfl) hS

set_option maxHeartbeats 4000000 in
set_option maxRecDepth 100000 in
/-- spell -/
theorem cB_spell (l : Launch) (g : si_G) (h0 b1 b2 b3 b4 nn : Nat) (h1 a1 : Nat) (fc ff f : Nat → Int32) (xs : Int32) (cx : Nat → Nat) (hn : nn ≤ 60) (hcx : ∀ x, x < nn + 1 → fc x = nI (cx x)) (hc7 : ∀ x, x < nn + 1 → cx x < 128) : si_Mi (S := (Nat → Int32) × (Nat → Int32) × Nat) l g vwCl zyB_spell zwB_spell ({ frames := 1, cells := 0, slots := 0, locals := 23 } : Room) [.ref h0, .ref h1] [(h0, .inr (0, [.ref b1, .ref b2, .ref b3, .ref b4, .int (nI nn)])), (b1, .inl (g.2.1, 61, .inl fc)), (b4, .inl (g.2.1, 61, .inl ff)), (h1, .inr (2, [.ref a1, .int xs])), (a1, .inl (g.2.1, 60, .inl f))] (fun r u => (r = nI 1 ∧ u.2.2 = nn ∧ ∃ t, si_ok t ∧ t.length = nn ∧ si_ln t u.2.1 ∧ ∀ v, si_ok v → v.length = nn → (∀ x, x < nn + 1 → cx x = si_B v x) → v = t) ∨ (r = nI 0 ∧ ∀ v, si_ok v → v.length = nn → (∀ x, x < nn + 1 → cx x = si_B v x) → False)) (fun u => [(h0, .inr (0, [.ref b1, .ref b2, .ref b3, .ref b4, .int (nI nn)])), (b1, .inl (g.2.1, 61, .inl fc)), (b4, .inl (g.2.1, 61, .inl u.1)), (h1, .inr (2, [.ref a1, .int (nI u.2.2)])), (a1, .inl (g.2.1, 60, .inl u.2.1))]) := by
  refine si_Mi.of (cc := zkB_spell) (maxL := 4) (by decide) rfl (Nat.le_of_ble_eq_true rfl) ?_
  intro p e s m args below meth c A Q ls hF0 hin hK hN hP hD hA hS hl hret
  obtain ⟨hx, hb, hml, hown, hts0⟩ := hF0
  have hts : ∀ w ∈ si_tbl, w.before args s = true := fun w hw => hts0 w (List.mem_cons_of_mem _ hw)
  have hF : CallFix p m c zkB_spell 4 s args si_tbl zRB := ⟨hx, hb, hml, hown, hts⟩
  have hl : lv_has ls 4 [(0, .ref h0), (1, .ref h1)] := hl
  refine lv_iconst (v := nI 0) hx hb zdB_spell_0 (by decide) ?_
  refine lv_istore_n (lv' := [(2, .int (nI 0)), (0, .ref h0), (1, .ref h1)]) hx hb zdB_spell_1 rfl hl (Nat.le_of_ble_eq_true rfl) rfl (fun ls hl => ?_)
  have L2 : ∀ (N : Nat) (k : Nat) (f2 : Nat → Int32) (H : Heap) (locs : List Loc) (ls : Array Slot), nn + 1 - k < N → (k ≤ nn + 1) → (∀ x, x < k → f2 (si_lf cx (nn + 1) x) = nI x) → lv_has ls 4 [(0, .ref h0), (1, .ref h1), (2, .int (nI k))] → va_P g.1 vwCl [(h0, .inr (0, [.ref b1, .ref b2, .ref b3, .ref b4, .int (nI nn)])), (b1, .inl (g.2.1, 61, .inl fc)), (b4, .inl (g.2.1, 61, .inl f2)), (h1, .inr (2, [.ref a1, .int xs])), (a1, .inl (g.2.1, 60, .inl f))] H → va_D A [(h0, .inr (0, [.ref b1, .ref b2, .ref b3, .ref b4, .int (nI nn)])), (b1, .inl (g.2.1, 61, .inl fc)), (b4, .inl (g.2.1, 61, .inl f2)), (h1, .inr (2, [.ref a1, .int xs])), (a1, .inl (g.2.1, 60, .inl f))] → va_S A s.heap H locs → W p l e ({ frames := 1, cells := 0, slots := 0, locals := 23 } : Room) s m args below meth c H locs 0 0 Q (F0 m 2 ls []) := by
    intro N
    induction N with
    | zero => intro k f2 H locs ls hMs; exact absurd hMs (Nat.not_lt_zero _)
    | succ N ih2 =>
      intro k f2 H locs ls hMs hk hF2 hl hP hD hS
      refine lv_iload_n hx hb zdB_spell_2 rfl (lv_at hl 2 rfl) ?_
      refine lv_aload_n hx hb zdB_spell_3 rfl (lv_at hl 0 rfl) ?_
      refine va_get (D := g.1) (ci := 0) (v := .int (nI nn)) (C := zRB) (T := zTB) (N := 5) hx hb hts ziB hown hK hP 0 rfl rfl 4 (by decide) (hts _ zlB_24) (fun _ h => h) rfl zdB_spell_4 ?_
      refine si_icmp_gt (tgt := 27) hx hb zdB_spell_7 rfl (by omega) (by omega) (fun h7 => ?_) (fun h7 => ?_)
      · refine lv_aload_n hx hb zdB_spell_27 rfl (lv_at hl 1 rfl) ?_
        refine (cL_clear l g h1 a1 60 f xs).callV (wr := [(h0, .inr (0, [.ref b1, .ref b2, .ref b3, .ref b4, .int (nI nn)])), (b1, .inl (g.2.1, 61, .inl fc)), (b4, .inl (g.2.1, 61, .inl f2))]) (As := []) (rest := []) hF (si_cV 0 hts zcL_clear zlB_56 zimL_clear zseL_clear ziniL zhL_clear ⟨Nat.le_of_ble_eq_true rfl, Nat.le_of_ble_eq_true rfl⟩) hK hN hP hD hS hA [3, 4] [0, 1, 2] rfl rfl (by decide) (by decide) (va_recv (q := (zRL, zTL, 2)) hK hP (ci := 2) (q0 := 3) rfl rfl) rfl hl.1 rfl (Nat.le_of_ble_eq_true rfl) zdB_spell_28 ⟨Nat.le_of_ble_eq_true rfl, Nat.le_of_ble_eq_true rfl⟩ rfl rfl (fun _u H locs _hq hP hD hS => ?_)
        have hP : va_P g.1 vwCl [(h0, .inr (0, [.ref b1, .ref b2, .ref b3, .ref b4, .int (nI nn)])), (b1, .inl (g.2.1, 61, .inl fc)), (b4, .inl (g.2.1, 61, .inl f2)), (h1, .inr (2, [.ref a1, .int (nI 0)])), (a1, .inl (g.2.1, 60, .inl f))] H := hP
        have hD : va_D A [(h0, .inr (0, [.ref b1, .ref b2, .ref b3, .ref b4, .int (nI nn)])), (b1, .inl (g.2.1, 61, .inl fc)), (b4, .inl (g.2.1, 61, .inl f2)), (h1, .inr (2, [.ref a1, .int (nI 0)])), (a1, .inl (g.2.1, 60, .inl f))] := hD
        refine lv_aload_n hx hb zdB_spell_31 rfl (lv_at hl 0 rfl) ?_
        refine va_get (D := g.1) (ci := 0) (v := .ref b4) (C := zRB) (T := zTB) (N := 5) hx hb hts ziB hown hK hP 0 rfl rfl 3 (by decide) (hts _ zlB_21) (fun _ h => h) rfl zdB_spell_32 ?_
        refine lv_iconst (v := nI 0) hx hb zdB_spell_35 (by decide) ?_
        refine si_iald (v := nI (si_fl cx (nn + 1) 0)) hx hb hK hP 2 0 rfl rfl (by decide) (by omega) (si_ivv (si_lf_bij cx (nn + 1)) (fun x hx => hF2 x (by omega)) (by omega)) zdB_spell_36 ?_
        refine lv_istore_n (lv' := [(2, .int (nI (si_fl cx (nn + 1) 0))), (0, .ref h0), (1, .ref h1)]) hx hb zdB_spell_37 rfl hl (Nat.le_of_ble_eq_true rfl) rfl (fun ls hl => ?_)
        refine lv_iconst (v := nI 0) hx hb zdB_spell_38 (by decide) ?_
        refine lv_istore_n (lv' := [(3, .int (nI 0)), (2, .int (nI (si_fl cx (nn + 1) 0))), (0, .ref h0), (1, .ref h1)]) hx hb zdB_spell_39 rfl hl (Nat.le_of_ble_eq_true rfl) rfl (fun ls hl => ?_)
        have L40 : ∀ (N : Nat) (kk : Nat) (row : Nat) (f3 : Nat → Int32) (H : Heap) (locs : List Loc) (ls : Array Slot), nn - kk < N → (kk ≤ nn) → (row < nn + 1) → (si_sp cx nn kk row f3) → lv_has ls 4 [(0, .ref h0), (1, .ref h1), (2, .int (nI row)), (3, .int (nI kk))] → va_P g.1 vwCl [(h0, .inr (0, [.ref b1, .ref b2, .ref b3, .ref b4, .int (nI nn)])), (b1, .inl (g.2.1, 61, .inl fc)), (b4, .inl (g.2.1, 61, .inl f2)), (h1, .inr (2, [.ref a1, .int (nI kk)])), (a1, .inl (g.2.1, 60, .inl f3))] H → va_D A [(h0, .inr (0, [.ref b1, .ref b2, .ref b3, .ref b4, .int (nI nn)])), (b1, .inl (g.2.1, 61, .inl fc)), (b4, .inl (g.2.1, 61, .inl f2)), (h1, .inr (2, [.ref a1, .int (nI kk)])), (a1, .inl (g.2.1, 60, .inl f3))] → va_S A s.heap H locs → W p l e ({ frames := 1, cells := 0, slots := 0, locals := 23 } : Room) s m args below meth c H locs 0 0 Q (F0 m 40 ls []) := by
          intro N
          induction N with
          | zero => intro kk row f3 H locs ls hMs; exact absurd hMs (Nat.not_lt_zero _)
          | succ N ih40 =>
            intro kk row f3 H locs ls hMs hkk hrow hsp hl hP hD hS
            refine lv_iload_n hx hb zdB_spell_40 rfl (lv_at hl 3 rfl) ?_
            refine lv_aload_n hx hb zdB_spell_41 rfl (lv_at hl 0 rfl) ?_
            refine va_get (D := g.1) (ci := 0) (v := .int (nI nn)) (C := zRB) (T := zTB) (N := 5) hx hb hts ziB hown hK hP 0 rfl rfl 4 (by decide) (hts _ zlB_24) (fun _ h => h) rfl zdB_spell_42 ?_
            refine si_icmp_ge (tgt := 76) hx hb zdB_spell_45 rfl (by omega) (by omega) (fun h45 => ?_) (fun h45 => ?_)
            · have hke : kk = nn := by omega
              subst hke
              refine lv_iconst (v := nI 1) hx hb zdB_spell_76 (by decide) ?_
              exact hret (nI 1) (f2, f3, kk) _ _ _ _ (rfl) (Or.inl ⟨rfl, rfl, si_sp_end hsp⟩) (hP.sub [0, 1, 2, 3, 4] rfl) (hD.sub [0, 1, 2, 3, 4] (by decide) rfl) hS zdB_spell_77
            · have hfr : si_fl cx (nn + 1) row < nn + 1 := (si_iv_ok (si_lf_bij cx (nn + 1)) hrow).1
              refine lv_aload_n hx hb zdB_spell_48 rfl (lv_at hl 0 rfl) ?_
              refine va_get (D := g.1) (ci := 0) (v := .ref b4) (C := zRB) (T := zTB) (N := 5) hx hb hts ziB hown hK hP 0 rfl rfl 3 (by decide) (hts _ zlB_21) (fun _ h => h) rfl zdB_spell_49 ?_
              refine lv_iload_n hx hb zdB_spell_52 rfl (lv_at hl 2 rfl) ?_
              refine si_iald (v := nI (si_fl cx (nn + 1) row)) hx hb hK hP 2 0 rfl rfl (by decide) (by omega) (si_ivv (si_lf_bij cx (nn + 1)) (fun x hx => hF2 x (by omega)) hrow) zdB_spell_53 ?_
              refine lv_istore_n (lv' := [(2, .int (nI (si_fl cx (nn + 1) row))), (0, .ref h0), (1, .ref h1), (3, .int (nI kk))]) hx hb zdB_spell_54 rfl hl (Nat.le_of_ble_eq_true rfl) rfl (fun ls hl => ?_)
              refine lv_aload_n hx hb zdB_spell_55 rfl (lv_at hl 2 rfl) ?_
              refine lv_aload_n hx hb zdB_spell_56 rfl (lv_at hl 1 rfl) ?_
              refine va_get (D := g.1) (ci := 0) (v := .ref b1) (C := zRB) (T := zTB) (N := 5) hx hb hts ziB hown hK hP 0 rfl rfl 0 (by decide) (hts _ zlB_9) (fun _ h => h) rfl zdB_spell_57 ?_
              refine lv_iload_n hx hb zdB_spell_60 rfl (lv_at hl 0 rfl) ?_
              refine si_iald (v := nI (cx (si_fl cx (nn + 1) row))) hx hb hK hP 1 0 rfl rfl (by decide) (by omega) (hcx _ hfr) zdB_spell_61 ?_
              refine (cL_add l g h1 a1 60 kk f3 (nI (cx (si_fl cx (nn + 1) row))) (by decide) (by omega)).callV (wr := [(h0, .inr (0, [.ref b1, .ref b2, .ref b3, .ref b4, .int (nI nn)])), (b1, .inl (g.2.1, 61, .inl fc)), (b4, .inl (g.2.1, 61, .inl f2))]) (As := [.int (nI (cx (si_fl cx (nn + 1) row)))]) (rest := []) hF (si_cV 1 hts zcL_add zlB_59 zimL_add zseL_add ziniL zhL_add ⟨Nat.le_of_ble_eq_true rfl, Nat.le_of_ble_eq_true rfl⟩) hK hN hP hD hS hA [3, 4] [0, 1, 2] rfl rfl (by decide) (by decide) (va_recv (q := (zRL, zTL, 2)) hK hP (ci := 2) (q0 := 3) rfl rfl) rfl hl.1 rfl (Nat.le_of_ble_eq_true rfl) zdB_spell_62 ⟨Nat.le_of_ble_eq_true rfl, Nat.le_of_ble_eq_true rfl⟩ rfl rfl (fun r_ u_ H locs hq_ hP hD hS => ?_)
              obtain ⟨f5, z5⟩ := u_
              obtain ⟨hq, hqt, hqf⟩ := hq_
              subst hq
              have hP : va_P g.1 vwCl [(h0, .inr (0, [.ref b1, .ref b2, .ref b3, .ref b4, .int (nI nn)])), (b1, .inl (g.2.1, 61, .inl fc)), (b4, .inl (g.2.1, 61, .inl f2)), (h1, .inr (2, [.ref a1, .int (nI z5)])), (a1, .inl (g.2.1, 60, .inl f5))] H := hP
              have hD : va_D A [(h0, .inr (0, [.ref b1, .ref b2, .ref b3, .ref b4, .int (nI nn)])), (b1, .inl (g.2.1, 61, .inl fc)), (b4, .inl (g.2.1, 61, .inl f2)), (h1, .inr (2, [.ref a1, .int (nI z5)])), (a1, .inl (g.2.1, 60, .inl f5))] := hD
              refine si_if_ne (tgt := 70) hx hb zdB_spell_65 rfl (si_bn _) (fun h65 => ?_) (fun h65 => ?_)
              · have hdc := si_b1 h65
                obtain ⟨e1, e2⟩ := hqt hdc
                have e1 : f5 = _ := e1
                have e2 : z5 = _ := e2
                subst e1 e2
                have hch := (of_decide_eq_true hdc).1
                refine lv_iinc (k := 3) (v := nI (kk + 1)) (lv' := [(3, .int (nI (kk + 1))), (2, .int (nI (si_fl cx (nn + 1) row))), (0, .ref h0), (1, .ref h1)]) hx hb zdB_spell_70 hl rfl (si_inc _) (Nat.le_of_ble_eq_true rfl) rfl (fun ls hl => ?_)
                refine lv_goto (tgt := 40) hx hb zdB_spell_73 rfl ?_
                exact ih40 (kk + 1) (si_fl cx (nn + 1) row) (upd f3 kk (nI (cx (si_fl cx (nn + 1) row)))) _ _ _ (by omega) (by omega) (hfr) (si_sp_s hc7 (by omega) hn hrow hsp hch) (lv_sub hl [2, 3, 1, 0] rfl) (hP.sub [0, 1, 2, 3, 4] rfl) (hD.sub [0, 1, 2, 3, 4] (by decide) rfl) hS
              · have hdc := si_b0 h65
                have hno := si_sp_no hc7 (by omega) hrow hsp (fun z => of_decide_eq_false hdc ⟨z, by omega⟩)
                refine lv_iconst (v := nI 0) hx hb zdB_spell_68 (by decide) ?_
                exact hret (nI 0) (f2, f5, z5) _ _ _ _ (rfl) (Or.inr ⟨rfl, hno⟩) (hP.sub [0, 1, 2, 3, 4] rfl) (hD.sub [0, 1, 2, 3, 4] (by decide) rfl) hS zdB_spell_69
        exact L40 (nn - 0 + 1) 0 (si_fl cx (nn + 1) 0) f _ _ _ (by omega) (by omega) ((si_iv_ok (si_lf_bij cx (nn + 1)) (by omega)).1) (si_sp_0) (lv_sub hl [2, 3, 1, 0] rfl) (hP.sub [0, 1, 2, 3, 4] rfl) (hD.sub [0, 1, 2, 3, 4] (by decide) rfl) hS
      · refine lv_aload_n hx hb zdB_spell_10 rfl (lv_at hl 0 rfl) ?_
        refine va_get (D := g.1) (ci := 0) (v := .ref b4) (C := zRB) (T := zTB) (N := 5) hx hb hts ziB hown hK hP 0 rfl rfl 3 (by decide) (hts _ zlB_21) (fun _ h => h) rfl zdB_spell_11 ?_
        refine lv_aload_n hx hb zdB_spell_14 rfl (lv_at hl 0 rfl) ?_
        refine lv_iload_n hx hb zdB_spell_15 rfl (lv_at hl 2 rfl) ?_
        refine (cB_rowBefore l g h0 b1 b2 b3 b4 nn fc cx k hn hcx hc7 (by omega)).callV (wr := [(b4, .inl (g.2.1, 61, .inl f2)), (h1, .inr (2, [.ref a1, .int xs])), (a1, .inl (g.2.1, 60, .inl f))]) (As := [.int (nI k)]) (rest := [.ref b4]) hF (si_cV 1 hts zcB_rowBefore zlB_53 zimB_rowBefore zseB_rowBefore ziniB zhB_rowBefore ⟨Nat.le_of_ble_eq_true rfl, Nat.le_of_ble_eq_true rfl⟩) hK hN hP hD hS hA [0, 1] [2, 3, 4] rfl rfl (by decide) (by decide) (va_recv (q := (zRB, zTB, 5)) hK hP (ci := 0) (q0 := 0) rfl rfl) rfl hl.1 rfl (Nat.le_of_ble_eq_true rfl) zdB_spell_16 ⟨Nat.le_of_ble_eq_true rfl, Nat.le_of_ble_eq_true rfl⟩ rfl rfl (fun r_ _u H locs hq hP hD hS => ?_)
        subst hq
        have hlf := (si_lf_bij cx (nn + 1)).1 k (by omega)
        have hP : va_P g.1 vwCl [(b4, .inl (g.2.1, 61, .inl f2)), (h1, .inr (2, [.ref a1, .int xs])), (a1, .inl (g.2.1, 60, .inl f)), (h0, .inr (0, [.ref b1, .ref b2, .ref b3, .ref b4, .int (nI nn)])), (b1, .inl (g.2.1, 61, .inl fc))] H := hP
        have hD : va_D A [(b4, .inl (g.2.1, 61, .inl f2)), (h1, .inr (2, [.ref a1, .int xs])), (a1, .inl (g.2.1, 60, .inl f)), (h0, .inr (0, [.ref b1, .ref b2, .ref b3, .ref b4, .int (nI nn)])), (b1, .inl (g.2.1, 61, .inl fc))] := hD
        refine lv_iload_n hx hb zdB_spell_19 rfl (lv_at hl 2 rfl) ?_
        refine si_iast hx hb hK hP hD hS 0 0 rfl rfl (by decide) (by omega) zdB_spell_20 (fun H locs hP hD hS => ?_)
        have hP : va_P g.1 vwCl [(b4, .inl (g.2.1, 61, .inl (upd f2 (si_lf cx (nn + 1) k) (nI k)))), (h1, .inr (2, [.ref a1, .int xs])), (a1, .inl (g.2.1, 60, .inl f)), (h0, .inr (0, [.ref b1, .ref b2, .ref b3, .ref b4, .int (nI nn)])), (b1, .inl (g.2.1, 61, .inl fc))] H := hP
        have hD : va_D A [(b4, .inl (g.2.1, 61, .inl (upd f2 (si_lf cx (nn + 1) k) (nI k)))), (h1, .inr (2, [.ref a1, .int xs])), (a1, .inl (g.2.1, 60, .inl f)), (h0, .inr (0, [.ref b1, .ref b2, .ref b3, .ref b4, .int (nI nn)])), (b1, .inl (g.2.1, 61, .inl fc))] := hD
        refine lv_iinc (k := 2) (v := nI (k + 1)) (lv' := [(2, .int (nI (k + 1))), (0, .ref h0), (1, .ref h1)]) hx hb zdB_spell_21 hl rfl (si_inc _) (Nat.le_of_ble_eq_true rfl) rfl (fun ls hl => ?_)
        refine lv_goto (tgt := 2) hx hb zdB_spell_24 rfl ?_
        exact ih2 (k + 1) (upd f2 (si_lf cx (nn + 1) k) (nI k)) _ _ _ (by omega) (by omega) (si_flU (by omega) hF2) (lv_sub hl [1, 2, 0] rfl) (hP.sub [3, 4, 0, 1, 2] rfl) (hD.sub [3, 4, 0, 1, 2] (by decide) rfl) hS
  exact L2 (nn + 1 - 0 + 1) 0 ff _ _ _ (by omega) (by omega) (fun x hx => absurd hx (Nat.not_lt_zero _)) (lv_sub hl [1, 2, 0] rfl) (hP.sub [0, 1, 2, 3, 4] rfl) (hD.sub [0, 1, 2, 3, 4] (by decide) rfl) hS

