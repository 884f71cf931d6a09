/-! Contracts of the reference: picture, build, reading and loading. Written by wip/draft/p24.py -/
theorem pf_lI {a : Nat} (h : a < 2 ^ 63) : (lN a).toInt = (a : Int) := lg_ofNat_toInt h
theorem pf_shr {a d : Nat} {D : Int64} (hD : (D.toBitVec.smod 64).toNat = d) (h : a < 2 ^ 62) : lN a >>> D = lN (a / 2 ^ d) := by
  have hd : a / 2 ^ d ≤ a := Nat.div_le_self _ _
  apply Int64.toInt_inj.mp
  have e : (lN a >>> D).toInt = (lN a).toInt >>> d := by
    rw [← hD]
    exact BitVec.toInt_sshiftRight ..
  rw [e, Int.shiftRight_eq_div_pow, pf_lI (by omega), pf_lI (by omega)]
  rfl
theorem si_imE {t : List Nat} {sr : Nat} {f : Nat → Int64} (h0 : f 0 = lN (t.length + 256 * sr)) (h1 : ∀ k, k < 7 → f (1 + k) = si_wd (t.length + 1) (si_lb (si_B t) (t.length + 1) k)) (h8 : ∀ x, 8 ≤ x → x < 23 → f x = si_rw t sr (t.length / sr + 1) x) : ∀ k, k < 23 → f k = si_im t sr k := by
  intro k hk
  unfold si_im
  by_cases e0 : k = 0
  · subst e0; rw [if_pos rfl, h0]
  · rw [if_neg e0]
    by_cases e8 : k < 8
    · rw [if_pos e8]
      have := h1 (k - 1) (by omega)
      rwa [show 1 + (k - 1) = k by omega] at this
    · rw [if_neg e8]; exact h8 k (by omega) hk
set_option maxHeartbeats 4000000 in
set_option maxRecDepth 100000 in
/-- picture -/
theorem cM_picture (l : Launch) (g : si_G) (y0 mW mD mT mP mR mA mK mO mB mI mN mH mC : Nat) (zs zt zn ze za : Int32) (fk fo fb fn fh : Nat → Int32) (fi : Nat → Int64) (t : List Nat) (sr : Nat) (hok : si_ok t) (hK0 : ∀ x, x < t.length → fk x = nI (si_g t x)) (hs1 : 1 ≤ sr) (hs2 : sr ≤ 16) : si_Mv (S := (Nat → Int32) × (Nat → Int32) × (Nat → Int32) × (Nat → Int64) × (Nat → Int32) × (Nat → Int32)) l g vwCl zyM_picture zwM_picture ({ frames := 2, cells := 0, slots := 0, locals := 47 } : Room) [.ref y0, .int (nI sr)] [(y0, .inr (6, [.int zs, .ref mW, .ref mD, .int zt, .int zn, .ref mT, .int ze, .ref mP, .ref mR, .int za, .ref mA, .int (nI t.length), .ref mK, .ref mO, .ref mB, .ref mI, .ref mN, .ref mH, .ref mC])), (mK, .inl (g.2.1, 61, .inl fk)), (mO, .inl (g.2.1, 61, .inl fo)), (mB, .inl (g.2.1, 61, .inl fb)), (mI, .inl (g.2.2, 23, .inr (.inl fi))), (mN, .inl (g.2.1, 61, .inl fn)), (mH, .inl (g.2.1, 61, .inl fh))] (fun u => (∀ x, x < t.length + 1 → u.1 x = nI (si_g t x)) ∧ si_su t u.2.2.1 u.2.1 ∧ ∀ k, k < 23 → u.2.2.2.1 k = si_im t sr k) (fun u => [(y0, .inr (6, [.int zs, .ref mW, .ref mD, .int zt, .int zn, .ref mT, .int ze, .ref mP, .ref mR, .int za, .ref mA, .int (nI t.length), .ref mK, .ref mO, .ref mB, .ref mI, .ref mN, .ref mH, .ref mC])), (mK, .inl (g.2.1, 61, .inl u.1)), (mO, .inl (g.2.1, 61, .inl u.2.1)), (mB, .inl (g.2.1, 61, .inl u.2.2.1)), (mI, .inl (g.2.2, 23, .inr (.inl u.2.2.2.1))), (mN, .inl (g.2.1, 61, .inl u.2.2.2.2.1)), (mH, .inl (g.2.1, 61, .inl u.2.2.2.2.2))]) := by
  refine si_Mv.of (cc := zkM_picture) (maxL := 4) (by decide) rfl (Nat.le_of_ble_eq_true rfl) ?_
  intro p e s m args below meth c A Q ls hF0 hin hK hN hP hD hA hS hl hret
  obtain ⟨hx, hb, hml, hown, hts0⟩ := hF0
  have hts : ∀ w ∈ si_tbl, w.before args s = true := fun w hw => hts0 w (List.mem_cons_of_mem _ hw)
  have hF : CallFix p m c zkM_picture 4 s args si_tbl zRM := ⟨hx, hb, hml, hown, hts⟩
  have hl : lv_has ls 4 [(0, .ref y0), (1, .int (nI sr))] := hl
  have hn := hok.1
  obtain ⟨gr, hgr⟩ : ∃ z, z = t.length / sr := ⟨_, rfl⟩
  have hdl : gr ≤ t.length := by rw [hgr]; exact Nat.div_le_self _ _
  refine lv_iconst (v := nI 0) hx hb zdM_picture_0 (by decide) ?_
  refine lv_istore_n (lv' := [(2, .int (nI 0)), (0, .ref y0), (1, .int (nI sr))]) hx hb zdM_picture_1 rfl hl (Nat.le_of_ble_eq_true rfl) rfl (fun ls hl => ?_)
  have L2 : ∀ (N : Nat) (k : Nat) (w : Nat → Int64) (H : Heap) (locs : List Loc) (ls : Array Slot), 23 - k < N → (k ≤ 23) → (∀ x, x < k → w x = 0) → lv_has ls 4 [(0, .ref y0), (1, .int (nI sr)), (2, .int (nI k))] → va_P g.1 vwCl [(y0, .inr (6, [.int zs, .ref mW, .ref mD, .int zt, .int zn, .ref mT, .int ze, .ref mP, .ref mR, .int za, .ref mA, .int (nI t.length), .ref mK, .ref mO, .ref mB, .ref mI, .ref mN, .ref mH, .ref mC])), (mK, .inl (g.2.1, 61, .inl fk)), (mO, .inl (g.2.1, 61, .inl fo)), (mB, .inl (g.2.1, 61, .inl fb)), (mI, .inl (g.2.2, 23, .inr (.inl w))), (mN, .inl (g.2.1, 61, .inl fn)), (mH, .inl (g.2.1, 61, .inl fh))] H → va_D A [(y0, .inr (6, [.int zs, .ref mW, .ref mD, .int zt, .int zn, .ref mT, .int ze, .ref mP, .ref mR, .int za, .ref mA, .int (nI t.length), .ref mK, .ref mO, .ref mB, .ref mI, .ref mN, .ref mH, .ref mC])), (mK, .inl (g.2.1, 61, .inl fk)), (mO, .inl (g.2.1, 61, .inl fo)), (mB, .inl (g.2.1, 61, .inl fb)), (mI, .inl (g.2.2, 23, .inr (.inl w))), (mN, .inl (g.2.1, 61, .inl fn)), (mH, .inl (g.2.1, 61, .inl fh))] → va_S A s.heap H locs → W p l e ({ frames := 2, cells := 0, slots := 0, locals := 47 } : Room) s m args below meth c H locs 0 0 Q (F0 m 2 ls []) := by
    intro N
    induction N with
    | zero => intro k w H locs ls hMs; exact absurd hMs (Nat.not_lt_zero _)
    | succ N ih2 =>
      intro k w H locs ls hMs hk hZ hl hP hD hS
      refine lv_iload_n hx hb zdM_picture_2 rfl (lv_at hl 2 rfl) ?_
      refine lv_bipush (v := nI 23) hx hb zdM_picture_3 (by decide) ?_
      refine si_icmp_ge (tgt := 21) hx hb zdM_picture_5 rfl (by omega) (by decide) (fun h5 => ?_) (fun h5 => ?_)
      · refine lv_aload_n hx hb zdM_picture_21 rfl (lv_at hl 0 rfl) ?_
        refine (cM_sort l g y0 mW mD mT mP mR mA mK mO mB mI mN mH mC zs zt zn ze za fk fo fb t hok hK0).callV (wr := [(mI, .inl (g.2.2, 23, .inr (.inl w))), (mN, .inl (g.2.1, 61, .inl fn)), (mH, .inl (g.2.1, 61, .inl fh))]) (As := []) (rest := []) hF (si_cV 0 hts zcM_sort zlM_61 zimM_sort zseM_sort ziniM zhM_sort ⟨Nat.le_of_ble_eq_true rfl, Nat.le_of_ble_eq_true rfl⟩) hK hN hP hD hS hA [0, 1, 2, 3] [4, 5, 6] rfl rfl (by decide) (by decide) (va_recv (q := (zRM, zTM, 19)) hK hP (ci := 6) (q0 := 0) rfl rfl) rfl hl.1 rfl (Nat.le_of_ble_eq_true rfl) zdM_picture_22 ⟨Nat.le_of_ble_eq_true rfl, Nat.le_of_ble_eq_true rfl⟩ rfl rfl (fun u_ H locs hq_ hP hD hS => ?_)
        obtain ⟨k2, o2, b2⟩ := u_
        obtain ⟨hK1, hsu⟩ := hq_
        have hK1 : ∀ x, x < t.length + 1 → k2 x = nI (si_g t x) := hK1
        have hsu : si_su t b2 o2 := hsu
        have hP : va_P g.1 vwCl [(mI, .inl (g.2.2, 23, .inr (.inl w))), (mN, .inl (g.2.1, 61, .inl fn)), (mH, .inl (g.2.1, 61, .inl fh)), (y0, .inr (6, [.int zs, .ref mW, .ref mD, .int zt, .int zn, .ref mT, .int ze, .ref mP, .ref mR, .int za, .ref mA, .int (nI t.length), .ref mK, .ref mO, .ref mB, .ref mI, .ref mN, .ref mH, .ref mC])), (mK, .inl (g.2.1, 61, .inl k2)), (mO, .inl (g.2.1, 61, .inl o2)), (mB, .inl (g.2.1, 61, .inl b2))] H := hP
        have hD : va_D A [(mI, .inl (g.2.2, 23, .inr (.inl w))), (mN, .inl (g.2.1, 61, .inl fn)), (mH, .inl (g.2.1, 61, .inl fh)), (y0, .inr (6, [.int zs, .ref mW, .ref mD, .int zt, .int zn, .ref mT, .int ze, .ref mP, .ref mR, .int za, .ref mA, .int (nI t.length), .ref mK, .ref mO, .ref mB, .ref mI, .ref mN, .ref mH, .ref mC])), (mK, .inl (g.2.1, 61, .inl k2)), (mO, .inl (g.2.1, 61, .inl o2)), (mB, .inl (g.2.1, 61, .inl b2))] := hD
        refine lv_aload_n hx hb zdM_picture_25 rfl (lv_at hl 0 rfl) ?_
        refine va_get (D := g.1) (ci := 6) (v := .ref mI) (C := zRM) (T := zTM) (N := 19) hx hb hts ziM hown hK hP 3 rfl rfl 15 (by decide) (hts _ zlM_38) (fun _ h => h) rfl zdM_picture_26 ?_
        refine lv_iconst (v := nI 0) hx hb zdM_picture_29 (by decide) ?_
        refine lv_aload_n hx hb zdM_picture_30 rfl (lv_at hl 0 rfl) ?_
        refine va_get (D := g.1) (ci := 6) (v := .int (nI t.length)) (C := zRM) (T := zTM) (N := 19) hx hb hts ziM hown hK hP 3 rfl rfl 11 (by decide) (hts _ zlM_54) (fun _ h => h) rfl zdM_picture_31 ?_
        refine lv_i2l (v := lN t.length) hx hb zdM_picture_34 (nI_l (by omega)) ?_
        refine lv_ldc2 (v := 256) hx hb hown (hts (.constantLong zRM 64 256) (by decide +kernel)) zdM_picture_35 ?_
        refine lv_iload_n hx hb zdM_picture_38 rfl (lv_at hl 1 rfl) ?_
        refine lv_i2l (v := lN sr) hx hb zdM_picture_39 (nI_l (by omega)) ?_
        refine si_lmul (v := lN (256 * sr)) hx hb zdM_picture_40 (lN_mul 256 sr) ?_
        refine si_ladd (v := lN (t.length + 256 * sr)) hx hb zdM_picture_41 (lN_add _ _) ?_
        refine si_last hx hb hK hP hD hS 0 1 rfl rfl (by decide) (by omega) zdM_picture_42 (fun H locs hP hD hS => ?_)
        have hP : va_P g.1 vwCl [(mI, .inl (g.2.2, 23, .inr (.inl (vp_updL w 0 (lN (t.length + 256 * sr)))))), (mN, .inl (g.2.1, 61, .inl fn)), (mH, .inl (g.2.1, 61, .inl fh)), (y0, .inr (6, [.int zs, .ref mW, .ref mD, .int zt, .int zn, .ref mT, .int ze, .ref mP, .ref mR, .int za, .ref mA, .int (nI t.length), .ref mK, .ref mO, .ref mB, .ref mI, .ref mN, .ref mH, .ref mC])), (mK, .inl (g.2.1, 61, .inl k2)), (mO, .inl (g.2.1, 61, .inl o2)), (mB, .inl (g.2.1, 61, .inl b2))] H := hP
        have hD : va_D A [(mI, .inl (g.2.2, 23, .inr (.inl (vp_updL w 0 (lN (t.length + 256 * sr)))))), (mN, .inl (g.2.1, 61, .inl fn)), (mH, .inl (g.2.1, 61, .inl fh)), (y0, .inr (6, [.int zs, .ref mW, .ref mD, .int zt, .int zn, .ref mT, .int ze, .ref mP, .ref mR, .int za, .ref mA, .int (nI t.length), .ref mK, .ref mO, .ref mB, .ref mI, .ref mN, .ref mH, .ref mC])), (mK, .inl (g.2.1, 61, .inl k2)), (mO, .inl (g.2.1, 61, .inl o2)), (mB, .inl (g.2.1, 61, .inl b2))] := hD
        refine lv_aload_n hx hb zdM_picture_43 rfl (lv_at hl 0 rfl) ?_
        refine (cM_levels l g y0 mW mD mT mP mR mA mK mO mB mI mN mH mC zs zt zn ze za k2 o2 fn fh (vp_updL w 0 (lN (t.length + 256 * sr))) t hok hK1 hsu.2 (fun k9 hk9 => by rw [pk_uLn (by omega)]; exact hZ _ (by omega))).callV (wr := [(mB, .inl (g.2.1, 61, .inl b2))]) (As := []) (rest := []) hF (si_cV 0 hts zcM_levels zlM_66 zimM_levels zseM_levels ziniM zhM_levels ⟨Nat.le_of_ble_eq_true rfl, Nat.le_of_ble_eq_true rfl⟩) hK hN hP hD hS hA [3, 4, 5, 0, 1, 2] [6] rfl rfl (by decide) (by decide) (va_recv (q := (zRM, zTM, 19)) hK hP (ci := 6) (q0 := 3) rfl rfl) rfl hl.1 rfl (Nat.le_of_ble_eq_true rfl) zdM_picture_44 ⟨Nat.le_of_ble_eq_true rfl, Nat.le_of_ble_eq_true rfl⟩ rfl rfl (fun u_ H locs hq_ hP hD hS => ?_)
        obtain ⟨n3, h3, w3⟩ := u_
        obtain ⟨hq1, hq2⟩ := hq_
        have hq2 : ∀ k, k = 0 ∨ 8 ≤ k → w3 k = vp_updL w 0 (lN (t.length + 256 * sr)) k := hq2
        have hq1 : ∀ k, k < 7 → w3 (1 + k) = si_wd (t.length + 1) (si_lb (si_B t) (t.length + 1) k) := hq1
        have hP : va_P g.1 vwCl [(mB, .inl (g.2.1, 61, .inl b2)), (y0, .inr (6, [.int zs, .ref mW, .ref mD, .int zt, .int zn, .ref mT, .int ze, .ref mP, .ref mR, .int za, .ref mA, .int (nI t.length), .ref mK, .ref mO, .ref mB, .ref mI, .ref mN, .ref mH, .ref mC])), (mK, .inl (g.2.1, 61, .inl k2)), (mO, .inl (g.2.1, 61, .inl o2)), (mI, .inl (g.2.2, 23, .inr (.inl w3))), (mN, .inl (g.2.1, 61, .inl n3)), (mH, .inl (g.2.1, 61, .inl h3))] H := hP
        have hD : va_D A [(mB, .inl (g.2.1, 61, .inl b2)), (y0, .inr (6, [.int zs, .ref mW, .ref mD, .int zt, .int zn, .ref mT, .int ze, .ref mP, .ref mR, .int za, .ref mA, .int (nI t.length), .ref mK, .ref mO, .ref mB, .ref mI, .ref mN, .ref mH, .ref mC])), (mK, .inl (g.2.1, 61, .inl k2)), (mO, .inl (g.2.1, 61, .inl o2)), (mI, .inl (g.2.2, 23, .inr (.inl w3))), (mN, .inl (g.2.1, 61, .inl n3)), (mH, .inl (g.2.1, 61, .inl h3))] := hD
        refine lv_iconst (v := nI 0) hx hb zdM_picture_47 (by decide) ?_
        refine lv_istore_n (lv' := [(2, .int (nI 0)), (0, .ref y0), (1, .int (nI sr))]) hx hb zdM_picture_48 rfl hl (Nat.le_of_ble_eq_true rfl) rfl (fun ls hl => ?_)
        refine lv_iconst (v := nI 0) hx hb zdM_picture_49 (by decide) ?_
        refine lv_istore_n (lv' := [(3, .int (nI 0)), (2, .int (nI 0)), (0, .ref y0), (1, .int (nI sr))]) hx hb zdM_picture_50 rfl hl (Nat.le_of_ble_eq_true rfl) rfl (fun ls hl => ?_)
        have L51 : ∀ (N : Nat) (k : Nat) (mk : Nat) (w4 : Nat → Int64) (H : Heap) (locs : List Loc) (ls : Array Slot), t.length + 1 - k < N → (k ≤ t.length + 1) → (mk = (si_mr t sr k).2) → (∀ x, x < 8 → w4 x = w3 x) → (∀ x, 8 ≤ x → x < 23 → w4 x = (si_mr t sr k).1 x) → lv_has ls 4 [(0, .ref y0), (1, .int (nI sr)), (2, .int (nI mk)), (3, .int (nI k))] → va_P g.1 vwCl [(y0, .inr (6, [.int zs, .ref mW, .ref mD, .int zt, .int zn, .ref mT, .int ze, .ref mP, .ref mR, .int za, .ref mA, .int (nI t.length), .ref mK, .ref mO, .ref mB, .ref mI, .ref mN, .ref mH, .ref mC])), (mK, .inl (g.2.1, 61, .inl k2)), (mO, .inl (g.2.1, 61, .inl o2)), (mB, .inl (g.2.1, 61, .inl b2)), (mI, .inl (g.2.2, 23, .inr (.inl w4))), (mN, .inl (g.2.1, 61, .inl n3)), (mH, .inl (g.2.1, 61, .inl h3))] H → va_D A [(y0, .inr (6, [.int zs, .ref mW, .ref mD, .int zt, .int zn, .ref mT, .int ze, .ref mP, .ref mR, .int za, .ref mA, .int (nI t.length), .ref mK, .ref mO, .ref mB, .ref mI, .ref mN, .ref mH, .ref mC])), (mK, .inl (g.2.1, 61, .inl k2)), (mO, .inl (g.2.1, 61, .inl o2)), (mB, .inl (g.2.1, 61, .inl b2)), (mI, .inl (g.2.2, 23, .inr (.inl w4))), (mN, .inl (g.2.1, 61, .inl n3)), (mH, .inl (g.2.1, 61, .inl h3))] → va_S A s.heap H locs → W p l e ({ frames := 2, cells := 0, slots := 0, locals := 47 } : Room) s m args below meth c H locs 0 0 Q (F0 m 51 ls []) := by
          intro N
          induction N with
          | zero => intro k mk w4 H locs ls hMs; exact absurd hMs (Nat.not_lt_zero _)
          | succ N ih51 =>
            intro k mk w4 H locs ls hMs hk hm hLo hB hl hP hD hS
            refine lv_iload_n hx hb zdM_picture_51 rfl (lv_at hl 3 rfl) ?_
            refine lv_aload_n hx hb zdM_picture_52 rfl (lv_at hl 0 rfl) ?_
            refine va_get (D := g.1) (ci := 6) (v := .int (nI t.length)) (C := zRM) (T := zTM) (N := 19) hx hb hts ziM hown hK hP 0 rfl rfl 11 (by decide) (hts _ zlM_54) (fun _ h => h) rfl zdM_picture_53 ?_
            refine si_icmp_gt (tgt := 139) hx hb zdM_picture_56 rfl (by omega) (by omega) (fun h56 => ?_) (fun h56 => ?_)
            · refine lv_iconst (v := nI 0) hx hb zdM_picture_139 (by decide) ?_
              refine lv_istore_n (lv' := [(3, .int (nI 0)), (0, .ref y0), (1, .int (nI sr)), (2, .int (nI mk))]) hx hb zdM_picture_140 rfl hl (Nat.le_of_ble_eq_true rfl) rfl (fun ls hl => ?_)
              have L141 : ∀ (N : Nat) (q : Nat) (w5 : Nat → Int64) (H : Heap) (locs : List Loc) (ls : Array Slot), gr + 1 - q < N → (q ≤ gr + 1) → (∀ x, x < 8 → w5 x = w3 x) → (∀ x, 8 ≤ x → x < 23 → w5 x = si_rw t sr q x) → lv_has ls 4 [(0, .ref y0), (1, .int (nI sr)), (3, .int (nI q))] → va_P g.1 vwCl [(y0, .inr (6, [.int zs, .ref mW, .ref mD, .int zt, .int zn, .ref mT, .int ze, .ref mP, .ref mR, .int za, .ref mA, .int (nI t.length), .ref mK, .ref mO, .ref mB, .ref mI, .ref mN, .ref mH, .ref mC])), (mK, .inl (g.2.1, 61, .inl k2)), (mO, .inl (g.2.1, 61, .inl o2)), (mB, .inl (g.2.1, 61, .inl b2)), (mI, .inl (g.2.2, 23, .inr (.inl w5))), (mN, .inl (g.2.1, 61, .inl n3)), (mH, .inl (g.2.1, 61, .inl h3))] H → va_D A [(y0, .inr (6, [.int zs, .ref mW, .ref mD, .int zt, .int zn, .ref mT, .int ze, .ref mP, .ref mR, .int za, .ref mA, .int (nI t.length), .ref mK, .ref mO, .ref mB, .ref mI, .ref mN, .ref mH, .ref mC])), (mK, .inl (g.2.1, 61, .inl k2)), (mO, .inl (g.2.1, 61, .inl o2)), (mB, .inl (g.2.1, 61, .inl b2)), (mI, .inl (g.2.2, 23, .inr (.inl w5))), (mN, .inl (g.2.1, 61, .inl n3)), (mH, .inl (g.2.1, 61, .inl h3))] → va_S A s.heap H locs → W p l e ({ frames := 2, cells := 0, slots := 0, locals := 47 } : Room) s m args below meth c H locs 0 0 Q (F0 m 141 ls []) := by
                intro N
                induction N with
                | zero => intro q w5 H locs ls hMs; exact absurd hMs (Nat.not_lt_zero _)
                | succ N ih141 =>
                  intro q w5 H locs ls hMs hq hLo2 hB2 hl hP hD hS
                  have hqb : q * sr ≤ t.length + sr := by
                    have z2 := Nat.mul_le_mul_right sr (show q ≤ gr + 1 by omega)
                    have z1 := Nat.div_mul_le_self t.length sr
                    rw [← hgr] at z1
                    rw [Nat.add_mul, Nat.one_mul] at z2
                    omega
                  refine lv_iload_n hx hb zdM_picture_141 rfl (lv_at hl 2 rfl) ?_
                  refine lv_iload_n hx hb zdM_picture_142 rfl (lv_at hl 1 rfl) ?_
                  refine si_imul (v := nI (q * sr)) hx hb zdM_picture_143 (pk_mul _ _) ?_
                  refine lv_aload_n hx hb zdM_picture_144 rfl (lv_at hl 0 rfl) ?_
                  refine va_get (D := g.1) (ci := 6) (v := .int (nI t.length)) (C := zRM) (T := zTM) (N := 19) hx hb hts ziM hown hK hP 0 rfl rfl 11 (by decide) (hts _ zlM_54) (fun _ h => h) rfl zdM_picture_145 ?_
                  refine si_icmp_gt (tgt := 199) hx hb zdM_picture_148 rfl (by omega) (by omega) (fun h148 => ?_) (fun h148 => ?_)
                  · have hqe : q = gr + 1 := by
                      apply Classical.byContradiction
                      intro z
                      have z2 := Nat.mul_le_mul_right sr (show q ≤ gr by omega)
                      have z1 := Nat.div_mul_le_self t.length sr
                      rw [← hgr] at z1
                      omega
                    have hfin9 : ∀ k, k < 23 → w5 k = si_im t sr k := si_imE (f := w5) (by rw [hLo2 0 (by omega), hq2 0 (Or.inl rfl), pk_uLs]) (fun k9 hk9 => by rw [hLo2 _ (by omega)]; exact hq1 k9 hk9) (fun x h8 h23 => by rw [hB2 x h8 h23, hqe, hgr])
                    exact hret (k2, o2, b2, w5, n3, h3) _ _ _ _ (⟨hK1, hsu, hfin9⟩) (hP.sub [0, 1, 2, 3, 4, 5, 6] rfl) (hD.sub [0, 1, 2, 3, 4, 5, 6] (by decide) rfl) hS zdM_picture_199
                  · have hqg : q ≤ gr := by rw [hgr]; exact (Nat.le_div_iff_mul_le (by omega)).mpr h148
                    have hrl := si_rk_le (t := t) (p := q * sr) h148
                    refine lv_aload_n hx hb zdM_picture_151 rfl (lv_at hl 0 rfl) ?_
                    refine va_get (D := g.1) (ci := 6) (v := .ref mI) (C := zRM) (T := zTM) (N := 19) hx hb hts ziM hown hK hP 0 rfl rfl 15 (by decide) (hts _ zlM_38) (fun _ h => h) rfl zdM_picture_152 ?_
                    refine lv_bipush (v := nI 16) hx hb zdM_picture_155 (by decide) ?_
                    refine lv_iload_n hx hb zdM_picture_157 rfl (lv_at hl 2 rfl) ?_
                    refine lv_bipush (v := nI 10) hx hb zdM_picture_158 (by decide) ?_
                    refine si_idiv (v := nI (q / 10)) hx hb zdM_picture_160 (nI_ne0 (by omega) (by omega)) (pk_div (by omega) (by omega) (by omega)) ?_
                    refine si_iadd (v := nI (16 + (q / 10))) hx hb zdM_picture_161 (nI_add _ _) ?_
                    refine lv_aload_n hx hb zdM_picture_162 rfl (lv_at hl 0 rfl) ?_
                    refine va_get (D := g.1) (ci := 6) (v := .ref mI) (C := zRM) (T := zTM) (N := 19) hx hb hts ziM hown hK hP 0 rfl rfl 15 (by decide) (hts _ zlM_38) (fun _ h => h) rfl zdM_picture_163 ?_
                    refine lv_bipush (v := nI 16) hx hb zdM_picture_166 (by decide) ?_
                    refine lv_iload_n hx hb zdM_picture_168 rfl (lv_at hl 2 rfl) ?_
                    refine lv_bipush (v := nI 10) hx hb zdM_picture_169 (by decide) ?_
                    refine si_idiv (v := nI (q / 10)) hx hb zdM_picture_171 (nI_ne0 (by omega) (by omega)) (pk_div (by omega) (by omega) (by omega)) ?_
                    refine si_iadd (v := nI (16 + (q / 10))) hx hb zdM_picture_172 (nI_add _ _) ?_
                    refine si_lald (v := w5 (16 + (q / 10))) hx hb hK hP 4 1 rfl rfl (by decide) (by omega) (rfl) zdM_picture_173 ?_
                    refine lv_aload_n hx hb zdM_picture_174 rfl (lv_at hl 0 rfl) ?_
                    refine va_get (D := g.1) (ci := 6) (v := .ref mB) (C := zRM) (T := zTM) (N := 19) hx hb hts ziM hown hK hP 0 rfl rfl 14 (by decide) (hts _ zlM_35) (fun _ h => h) rfl zdM_picture_175 ?_
                    refine lv_iload_n hx hb zdM_picture_178 rfl (lv_at hl 2 rfl) ?_
                    refine lv_iload_n hx hb zdM_picture_179 rfl (lv_at hl 1 rfl) ?_
                    refine si_imul (v := nI (q * sr)) hx hb zdM_picture_180 (pk_mul _ _) ?_
                    refine si_iald (v := nI (si_rk t (q * sr))) hx hb hK hP 3 0 rfl rfl (by decide) (by omega) (hsu.1 (q * sr) (by omega)) zdM_picture_181 ?_
                    refine lv_i2l (v := lN (si_rk t (q * sr))) hx hb zdM_picture_182 (nI_l (by omega)) ?_
                    refine lv_bipush (v := nI 6) hx hb zdM_picture_183 (by decide) ?_
                    refine lv_iload_n hx hb zdM_picture_185 rfl (lv_at hl 2 rfl) ?_
                    refine lv_bipush (v := nI 10) hx hb zdM_picture_186 (by decide) ?_
                    refine si_irem (v := nI (q % 10)) hx hb zdM_picture_188 (nI_ne0 (by omega) (by omega)) (pk_rem (by omega) (by omega) (by omega)) ?_
                    refine si_imul (v := nI (6 * (q % 10))) hx hb zdM_picture_189 (pk_mul _ _) ?_
                    refine lv_lshl (v := (lN (si_rk t (q * sr))) <<< ((nI (6 * (q % 10))).toInt64 &&& 63)) hx hb zdM_picture_190 (rfl) ?_
                    refine si_lor (v := (w5 (16 + (q / 10))) ||| ((lN (si_rk t (q * sr))) <<< ((nI (6 * (q % 10))).toInt64 &&& 63))) hx hb zdM_picture_191 (rfl) ?_
                    refine si_last hx hb hK hP hD hS 4 1 rfl rfl (by decide) (by omega) zdM_picture_192 (fun H locs hP hD hS => ?_)
                    have hP : va_P g.1 vwCl [(y0, .inr (6, [.int zs, .ref mW, .ref mD, .int zt, .int zn, .ref mT, .int ze, .ref mP, .ref mR, .int za, .ref mA, .int (nI t.length), .ref mK, .ref mO, .ref mB, .ref mI, .ref mN, .ref mH, .ref mC])), (mK, .inl (g.2.1, 61, .inl k2)), (mO, .inl (g.2.1, 61, .inl o2)), (mB, .inl (g.2.1, 61, .inl b2)), (mI, .inl (g.2.2, 23, .inr (.inl (vp_updL w5 (16 + (q / 10)) ((w5 (16 + (q / 10))) ||| ((lN (si_rk t (q * sr))) <<< ((nI (6 * (q % 10))).toInt64 &&& 63))))))), (mN, .inl (g.2.1, 61, .inl n3)), (mH, .inl (g.2.1, 61, .inl h3))] H := hP
                    have hD : va_D A [(y0, .inr (6, [.int zs, .ref mW, .ref mD, .int zt, .int zn, .ref mT, .int ze, .ref mP, .ref mR, .int za, .ref mA, .int (nI t.length), .ref mK, .ref mO, .ref mB, .ref mI, .ref mN, .ref mH, .ref mC])), (mK, .inl (g.2.1, 61, .inl k2)), (mO, .inl (g.2.1, 61, .inl o2)), (mB, .inl (g.2.1, 61, .inl b2)), (mI, .inl (g.2.2, 23, .inr (.inl (vp_updL w5 (16 + (q / 10)) ((w5 (16 + (q / 10))) ||| ((lN (si_rk t (q * sr))) <<< ((nI (6 * (q % 10))).toInt64 &&& 63))))))), (mN, .inl (g.2.1, 61, .inl n3)), (mH, .inl (g.2.1, 61, .inl h3))] := hD
                    refine lv_iinc (k := 2) (v := nI (q + 1)) (lv' := [(3, .int (nI (q + 1))), (0, .ref y0), (1, .int (nI sr))]) hx hb zdM_picture_193 hl rfl (si_inc _) (Nat.le_of_ble_eq_true rfl) rfl (fun ls hl => ?_)
                    refine lv_goto (tgt := 141) hx hb zdM_picture_196 rfl ?_
                    exact ih141 (q + 1) (vp_updL w5 (16 + (q / 10)) ((w5 (16 + (q / 10))) ||| ((lN (si_rk t (q * sr))) <<< ((nI (6 * (q % 10))).toInt64 &&& 63)))) _ _ _ (by omega) (by omega) (si_lo8 (by omega) hLo2) (si_dnE hB2 (by omega)) (lv_sub hl [1, 2, 0] rfl) (hP.sub [0, 1, 2, 3, 4, 5, 6] rfl) (hD.sub [0, 1, 2, 3, 4, 5, 6] (by decide) rfl) hS
              exact L141 (gr + 1 - 0 + 1) 0 w4 _ _ _ (by omega) (by omega) (hLo) (fun x h8 h23 => by rw [hB x h8 h23, show k = t.length + 1 by omega]; rfl) (lv_sub hl [1, 2, 0] rfl) (hP.sub [0, 1, 2, 3, 4, 5, 6] rfl) (hD.sub [0, 1, 2, 3, 4, 5, 6] (by decide) rfl) hS
            · have hpk := (si_pl_ok (t := t) (r := k) (by omega)).1
              have hmk : mk ≤ k := by rw [hm]; exact si_mr_le t sr k
              have hpd : si_pl t k / sr ≤ si_pl t k := Nat.div_le_self _ _
              have hpm : si_pl t k % sr ≤ si_pl t k := Nat.mod_le _ _
              refine lv_aload_n hx hb zdM_picture_59 rfl (lv_at hl 0 rfl) ?_
              refine va_get (D := g.1) (ci := 6) (v := .ref mO) (C := zRM) (T := zTM) (N := 19) hx hb hts ziM hown hK hP 0 rfl rfl 13 (by decide) (hts _ zlM_32) (fun _ h => h) rfl zdM_picture_60 ?_
              refine lv_iload_n hx hb zdM_picture_63 rfl (lv_at hl 3 rfl) ?_
              refine si_iald (v := nI (si_pl t k)) hx hb hK hP 2 0 rfl rfl (by decide) (by omega) (hsu.2 k (by omega)) zdM_picture_64 ?_
              refine lv_iload_n hx hb zdM_picture_65 rfl (lv_at hl 1 rfl) ?_
              refine si_irem (v := nI ((si_pl t k) % sr)) hx hb zdM_picture_66 (nI_ne0 (by omega) (by omega)) (pk_rem (by omega) (by omega) (by omega)) ?_
              refine si_if_ne (tgt := 133) hx hb zdM_picture_67 rfl (by omega) (fun h67 => ?_) (fun h67 => ?_)
              · refine lv_iinc (k := 3) (v := nI (k + 1)) (lv' := [(3, .int (nI (k + 1))), (0, .ref y0), (1, .int (nI sr)), (2, .int (nI mk))]) hx hb zdM_picture_133 hl rfl (si_inc _) (Nat.le_of_ble_eq_true rfl) rfl (fun ls hl => ?_)
                refine lv_goto (tgt := 51) hx hb zdM_picture_136 rfl ?_
                exact ih51 (k + 1) mk w4 _ _ _ (by omega) (by omega) (by first | (rw [si_mr_t h67, hm]; done) | (rw [si_mr_f h67, hm]; done)) (by first | exact hLo | exact si_lo8 (by omega) (si_lo8 (by omega) hLo)) (by first | (rw [si_mr_f h67]; exact hB) | (rw [si_mr_t h67, hm]; exact si_dnE (si_mkE hB) (by omega))) (lv_sub hl [1, 2, 3, 0] rfl) (hP.sub [0, 1, 2, 3, 4, 5, 6] rfl) (hD.sub [0, 1, 2, 3, 4, 5, 6] (by decide) rfl) hS
              · refine lv_aload_n hx hb zdM_picture_70 rfl (lv_at hl 0 rfl) ?_
                refine va_get (D := g.1) (ci := 6) (v := .ref mI) (C := zRM) (T := zTM) (N := 19) hx hb hts ziM hown hK hP 0 rfl rfl 15 (by decide) (hts _ zlM_38) (fun _ h => h) rfl zdM_picture_71 ?_
                refine lv_bipush (v := nI 8) hx hb zdM_picture_74 (by decide) ?_
                refine lv_aload_n hx hb zdM_picture_76 rfl (lv_at hl 0 rfl) ?_
                refine va_get (D := g.1) (ci := 6) (v := .ref mI) (C := zRM) (T := zTM) (N := 19) hx hb hts ziM hown hK hP 0 rfl rfl 15 (by decide) (hts _ zlM_38) (fun _ h => h) rfl zdM_picture_77 ?_
                refine lv_bipush (v := nI 8) hx hb zdM_picture_80 (by decide) ?_
                refine si_lald (v := w4 8) hx hb hK hP 4 1 rfl rfl (by decide) (by omega) (rfl) zdM_picture_82 ?_
                refine lv_lconst (v := 1) hx hb zdM_picture_83 (by decide) ?_
                refine lv_iload_n hx hb zdM_picture_84 rfl (lv_at hl 3 rfl) ?_
                refine lv_lshl (v := (1 : Int64) <<< ((nI k).toInt64 &&& 63)) hx hb zdM_picture_85 (rfl) ?_
                refine si_lor (v := (w4 8) ||| ((1 : Int64) <<< ((nI k).toInt64 &&& 63))) hx hb zdM_picture_86 (rfl) ?_
                refine si_last hx hb hK hP hD hS 4 1 rfl rfl (by decide) (by omega) zdM_picture_87 (fun H locs hP hD hS => ?_)
                have hP : va_P g.1 vwCl [(y0, .inr (6, [.int zs, .ref mW, .ref mD, .int zt, .int zn, .ref mT, .int ze, .ref mP, .ref mR, .int za, .ref mA, .int (nI t.length), .ref mK, .ref mO, .ref mB, .ref mI, .ref mN, .ref mH, .ref mC])), (mK, .inl (g.2.1, 61, .inl k2)), (mO, .inl (g.2.1, 61, .inl o2)), (mB, .inl (g.2.1, 61, .inl b2)), (mI, .inl (g.2.2, 23, .inr (.inl (vp_updL w4 8 ((w4 8) ||| ((1 : Int64) <<< ((nI k).toInt64 &&& 63))))))), (mN, .inl (g.2.1, 61, .inl n3)), (mH, .inl (g.2.1, 61, .inl h3))] H := hP
                have hD : va_D A [(y0, .inr (6, [.int zs, .ref mW, .ref mD, .int zt, .int zn, .ref mT, .int ze, .ref mP, .ref mR, .int za, .ref mA, .int (nI t.length), .ref mK, .ref mO, .ref mB, .ref mI, .ref mN, .ref mH, .ref mC])), (mK, .inl (g.2.1, 61, .inl k2)), (mO, .inl (g.2.1, 61, .inl o2)), (mB, .inl (g.2.1, 61, .inl b2)), (mI, .inl (g.2.2, 23, .inr (.inl (vp_updL w4 8 ((w4 8) ||| ((1 : Int64) <<< ((nI k).toInt64 &&& 63))))))), (mN, .inl (g.2.1, 61, .inl n3)), (mH, .inl (g.2.1, 61, .inl h3))] := hD
                refine lv_aload_n hx hb zdM_picture_88 rfl (lv_at hl 0 rfl) ?_
                refine va_get (D := g.1) (ci := 6) (v := .ref mI) (C := zRM) (T := zTM) (N := 19) hx hb hts ziM hown hK hP 0 rfl rfl 15 (by decide) (hts _ zlM_38) (fun _ h => h) rfl zdM_picture_89 ?_
                refine lv_bipush (v := nI 9) hx hb zdM_picture_92 (by decide) ?_
                refine lv_iload_n hx hb zdM_picture_94 rfl (lv_at hl 2 rfl) ?_
                refine lv_bipush (v := nI 10) hx hb zdM_picture_95 (by decide) ?_
                refine si_idiv (v := nI (mk / 10)) hx hb zdM_picture_97 (nI_ne0 (by omega) (by omega)) (pk_div (by omega) (by omega) (by omega)) ?_
                refine si_iadd (v := nI (9 + (mk / 10))) hx hb zdM_picture_98 (nI_add _ _) ?_
                refine lv_aload_n hx hb zdM_picture_99 rfl (lv_at hl 0 rfl) ?_
                refine va_get (D := g.1) (ci := 6) (v := .ref mI) (C := zRM) (T := zTM) (N := 19) hx hb hts ziM hown hK hP 0 rfl rfl 15 (by decide) (hts _ zlM_38) (fun _ h => h) rfl zdM_picture_100 ?_
                refine lv_bipush (v := nI 9) hx hb zdM_picture_103 (by decide) ?_
                refine lv_iload_n hx hb zdM_picture_105 rfl (lv_at hl 2 rfl) ?_
                refine lv_bipush (v := nI 10) hx hb zdM_picture_106 (by decide) ?_
                refine si_idiv (v := nI (mk / 10)) hx hb zdM_picture_108 (nI_ne0 (by omega) (by omega)) (pk_div (by omega) (by omega) (by omega)) ?_
                refine si_iadd (v := nI (9 + (mk / 10))) hx hb zdM_picture_109 (nI_add _ _) ?_
                refine si_lald (v := (vp_updL w4 8 ((w4 8) ||| ((1 : Int64) <<< ((nI k).toInt64 &&& 63)))) (9 + (mk / 10))) hx hb hK hP 4 1 rfl rfl (by decide) (by omega) (rfl) zdM_picture_110 ?_
                refine lv_aload_n hx hb zdM_picture_111 rfl (lv_at hl 0 rfl) ?_
                refine va_get (D := g.1) (ci := 6) (v := .ref mO) (C := zRM) (T := zTM) (N := 19) hx hb hts ziM hown hK hP 0 rfl rfl 13 (by decide) (hts _ zlM_32) (fun _ h => h) rfl zdM_picture_112 ?_
                refine lv_iload_n hx hb zdM_picture_115 rfl (lv_at hl 3 rfl) ?_
                refine si_iald (v := nI (si_pl t k)) hx hb hK hP 2 0 rfl rfl (by decide) (by omega) (hsu.2 k (by omega)) zdM_picture_116 ?_
                refine lv_iload_n hx hb zdM_picture_117 rfl (lv_at hl 1 rfl) ?_
                refine si_idiv (v := nI ((si_pl t k) / sr)) hx hb zdM_picture_118 (nI_ne0 (by omega) (by omega)) (pk_div (by omega) (by omega) (by omega)) ?_
                refine lv_i2l (v := lN ((si_pl t k) / sr)) hx hb zdM_picture_119 (nI_l (by omega)) ?_
                refine lv_bipush (v := nI 6) hx hb zdM_picture_120 (by decide) ?_
                refine lv_iload_n hx hb zdM_picture_122 rfl (lv_at hl 2 rfl) ?_
                refine lv_bipush (v := nI 10) hx hb zdM_picture_123 (by decide) ?_
                refine si_irem (v := nI (mk % 10)) hx hb zdM_picture_125 (nI_ne0 (by omega) (by omega)) (pk_rem (by omega) (by omega) (by omega)) ?_
                refine si_imul (v := nI (6 * (mk % 10))) hx hb zdM_picture_126 (pk_mul _ _) ?_
                refine lv_lshl (v := (lN ((si_pl t k) / sr)) <<< ((nI (6 * (mk % 10))).toInt64 &&& 63)) hx hb zdM_picture_127 (rfl) ?_
                refine si_lor (v := ((vp_updL w4 8 ((w4 8) ||| ((1 : Int64) <<< ((nI k).toInt64 &&& 63)))) (9 + (mk / 10))) ||| ((lN ((si_pl t k) / sr)) <<< ((nI (6 * (mk % 10))).toInt64 &&& 63))) hx hb zdM_picture_128 (rfl) ?_
                refine si_last hx hb hK hP hD hS 4 1 rfl rfl (by decide) (by omega) zdM_picture_129 (fun H locs hP hD hS => ?_)
                have hP : va_P g.1 vwCl [(y0, .inr (6, [.int zs, .ref mW, .ref mD, .int zt, .int zn, .ref mT, .int ze, .ref mP, .ref mR, .int za, .ref mA, .int (nI t.length), .ref mK, .ref mO, .ref mB, .ref mI, .ref mN, .ref mH, .ref mC])), (mK, .inl (g.2.1, 61, .inl k2)), (mO, .inl (g.2.1, 61, .inl o2)), (mB, .inl (g.2.1, 61, .inl b2)), (mI, .inl (g.2.2, 23, .inr (.inl (vp_updL (vp_updL w4 8 ((w4 8) ||| ((1 : Int64) <<< ((nI k).toInt64 &&& 63)))) (9 + (mk / 10)) (((vp_updL w4 8 ((w4 8) ||| ((1 : Int64) <<< ((nI k).toInt64 &&& 63)))) (9 + (mk / 10))) ||| ((lN ((si_pl t k) / sr)) <<< ((nI (6 * (mk % 10))).toInt64 &&& 63))))))), (mN, .inl (g.2.1, 61, .inl n3)), (mH, .inl (g.2.1, 61, .inl h3))] H := hP
                have hD : va_D A [(y0, .inr (6, [.int zs, .ref mW, .ref mD, .int zt, .int zn, .ref mT, .int ze, .ref mP, .ref mR, .int za, .ref mA, .int (nI t.length), .ref mK, .ref mO, .ref mB, .ref mI, .ref mN, .ref mH, .ref mC])), (mK, .inl (g.2.1, 61, .inl k2)), (mO, .inl (g.2.1, 61, .inl o2)), (mB, .inl (g.2.1, 61, .inl b2)), (mI, .inl (g.2.2, 23, .inr (.inl (vp_updL (vp_updL w4 8 ((w4 8) ||| ((1 : Int64) <<< ((nI k).toInt64 &&& 63)))) (9 + (mk / 10)) (((vp_updL w4 8 ((w4 8) ||| ((1 : Int64) <<< ((nI k).toInt64 &&& 63)))) (9 + (mk / 10))) ||| ((lN ((si_pl t k) / sr)) <<< ((nI (6 * (mk % 10))).toInt64 &&& 63))))))), (mN, .inl (g.2.1, 61, .inl n3)), (mH, .inl (g.2.1, 61, .inl h3))] := hD
                refine lv_iinc (k := 2) (v := nI (mk + 1)) (lv' := [(2, .int (nI (mk + 1))), (0, .ref y0), (1, .int (nI sr)), (3, .int (nI k))]) hx hb zdM_picture_130 hl rfl (si_inc _) (Nat.le_of_ble_eq_true rfl) rfl (fun ls hl => ?_)
                refine lv_iinc (k := 3) (v := nI (k + 1)) (lv' := [(3, .int (nI (k + 1))), (2, .int (nI (mk + 1))), (0, .ref y0), (1, .int (nI sr))]) hx hb zdM_picture_133 hl rfl (si_inc _) (Nat.le_of_ble_eq_true rfl) rfl (fun ls hl => ?_)
                refine lv_goto (tgt := 51) hx hb zdM_picture_136 rfl ?_
                exact ih51 (k + 1) (mk + 1) (vp_updL (vp_updL w4 8 ((w4 8) ||| ((1 : Int64) <<< ((nI k).toInt64 &&& 63)))) (9 + (mk / 10)) (((vp_updL w4 8 ((w4 8) ||| ((1 : Int64) <<< ((nI k).toInt64 &&& 63)))) (9 + (mk / 10))) ||| ((lN ((si_pl t k) / sr)) <<< ((nI (6 * (mk % 10))).toInt64 &&& 63)))) _ _ _ (by omega) (by omega) (by first | (rw [si_mr_t h67, hm]; done) | (rw [si_mr_f h67, hm]; done)) (by first | exact hLo | exact si_lo8 (by omega) (si_lo8 (by omega) hLo)) (by first | (rw [si_mr_f h67]; exact hB) | (rw [si_mr_t h67, hm]; exact si_dnE (si_mkE hB) (by omega))) (lv_sub hl [2, 3, 1, 0] rfl) (hP.sub [0, 1, 2, 3, 4, 5, 6] rfl) (hD.sub [0, 1, 2, 3, 4, 5, 6] (by decide) rfl) hS
        exact L51 (t.length + 1 - 0 + 1) 0 0 w3 _ _ _ (by omega) (by omega) (rfl) (fun x _ => rfl) (fun x h8 h23 => by rw [hq2 x (Or.inr h8), pk_uLn (by omega)]; exact hZ x (by omega)) (lv_sub hl [2, 3, 1, 0] rfl) (hP.sub [1, 2, 3, 0, 4, 5, 6] rfl) (hD.sub [1, 2, 3, 0, 4, 5, 6] (by decide) rfl) hS
      · refine lv_aload_n hx hb zdM_picture_8 rfl (lv_at hl 0 rfl) ?_
        refine va_get (D := g.1) (ci := 6) (v := .ref mI) (C := zRM) (T := zTM) (N := 19) hx hb hts ziM hown hK hP 0 rfl rfl 15 (by decide) (hts _ zlM_38) (fun _ h => h) rfl zdM_picture_9 ?_
        refine lv_iload_n hx hb zdM_picture_12 rfl (lv_at hl 2 rfl) ?_
        refine lv_lconst (v := 0) hx hb zdM_picture_13 (by decide) ?_
        refine si_last hx hb hK hP hD hS 4 1 rfl rfl (by decide) (by omega) zdM_picture_14 (fun H locs hP hD hS => ?_)
        have hP : va_P g.1 vwCl [(y0, .inr (6, [.int zs, .ref mW, .ref mD, .int zt, .int zn, .ref mT, .int ze, .ref mP, .ref mR, .int za, .ref mA, .int (nI t.length), .ref mK, .ref mO, .ref mB, .ref mI, .ref mN, .ref mH, .ref mC])), (mK, .inl (g.2.1, 61, .inl fk)), (mO, .inl (g.2.1, 61, .inl fo)), (mB, .inl (g.2.1, 61, .inl fb)), (mI, .inl (g.2.2, 23, .inr (.inl (vp_updL w k (0 : Int64))))), (mN, .inl (g.2.1, 61, .inl fn)), (mH, .inl (g.2.1, 61, .inl fh))] H := hP
        have hD : va_D A [(y0, .inr (6, [.int zs, .ref mW, .ref mD, .int zt, .int zn, .ref mT, .int ze, .ref mP, .ref mR, .int za, .ref mA, .int (nI t.length), .ref mK, .ref mO, .ref mB, .ref mI, .ref mN, .ref mH, .ref mC])), (mK, .inl (g.2.1, 61, .inl fk)), (mO, .inl (g.2.1, 61, .inl fo)), (mB, .inl (g.2.1, 61, .inl fb)), (mI, .inl (g.2.2, 23, .inr (.inl (vp_updL w k (0 : Int64))))), (mN, .inl (g.2.1, 61, .inl fn)), (mH, .inl (g.2.1, 61, .inl fh))] := hD
        refine lv_iinc (k := 2) (v := nI (k + 1)) (lv' := [(2, .int (nI (k + 1))), (0, .ref y0), (1, .int (nI sr))]) hx hb zdM_picture_15 hl rfl (si_inc _) (Nat.le_of_ble_eq_true rfl) rfl (fun ls hl => ?_)
        refine lv_goto (tgt := 2) hx hb zdM_picture_18 rfl ?_
        exact ih2 (k + 1) (vp_updL w k (0 : Int64)) _ _ _ (by omega) (by omega) (fun x hx => by by_cases e9 : x = k <;> first | (subst e9; rw [pk_uLs]; done) | (rw [pk_uLn e9]; exact hZ x (by omega))) (lv_sub hl [1, 2, 0] rfl) (hP.sub [0, 1, 2, 3, 4, 5, 6] rfl) (hD.sub [0, 1, 2, 3, 4, 5, 6] (by decide) rfl) hS
  exact L2 (23 - 0 + 1) 0 fi _ _ _ (by omega) (by omega) (fun x hx => absurd hx (Nat.not_lt_zero _)) (lv_sub hl [1, 2, 0] rfl) (hP.sub [0, 1, 2, 3, 4, 5, 6] rfl) (hD.sub [0, 1, 2, 3, 4, 5, 6] (by decide) rfl) hS

theorem si_rq_t {q : Int32} (h1 : ¬ q < nI 1) (h2 : q ≤ nI 16) : ∃ k, 1 ≤ k ∧ k ≤ 16 ∧ q = nI k ∧ si_isR q.toInt64 = true := by
  have h0 : ¬ q < 0 := fun z => h1 (by
    rw [Int32.lt_iff_toInt_lt] at z ⊢
    rw [nI_toInt (by decide)]
    have e : (0 : Int32).toInt = 0 := by decide
    omega)
  obtain ⟨k, hk, rfl⟩ := nI_of h0
  have a1 : 1 ≤ k := by
    apply Classical.byContradiction
    intro z
    exact h1 (nI_lt (by omega) (by decide))
  have a2 := (nI_leI hk (by decide)).mp h2
  exact ⟨k, a1, a2, rfl, by rw [nI_l hk]; exact si_isR_n a1 a2⟩
theorem si_rq_f {q : Int32} (h : q < nI 1 ∨ ¬ q ≤ nI 16) : si_isR q.toInt64 = false := si_nt (fun z => by
  obtain ⟨k, h1, h2, rfl⟩ := si_isRi_t z
  rcases h with h | h
  · have := (nI_ltI (a := k) (b := 1) (by omega) (by decide)).mp h; omega
  · exact h (nI_le h2 (by decide)))
set_option maxHeartbeats 4000000 in
set_option maxRecDepth 100000 in
/-- build -/
theorem cM_build (l : Launch) (g : si_G) (y0 mW mD mT mP mR mA mK mO mB mI mN mH mC : Nat) (zt zn ze za zm : Int32) (f fk fo fb fn fh : Nat → Int32) (fi fd : Nat → Int64) (t : List Nat) (q : Int32) (hok : si_ok t) (hf : si_ln t f) : si_Mi (S := Int32 × (Nat → Int32) × (Nat → Int32) × (Nat → Int32) × (Nat → Int64) × (Nat → Int32) × (Nat → Int32) × (Nat → Int64)) l g vwCl zyM_build zwM_build ({ frames := 3, cells := 0, slots := 0, locals := 70 } : Room) [.ref y0, .int q] [(y0, .inr (6, [.int (nI t.length), .ref mW, .ref mD, .int zt, .int zn, .ref mT, .int ze, .ref mP, .ref mR, .int za, .ref mA, .int zm, .ref mK, .ref mO, .ref mB, .ref mI, .ref mN, .ref mH, .ref mC])), (mW, .inl (g.2.1, 60, .inl f)), (mD, .inl (g.2.2, 23, .inr (.inl fd))), (mK, .inl (g.2.1, 61, .inl fk)), (mO, .inl (g.2.1, 61, .inl fo)), (mB, .inl (g.2.1, 61, .inl fb)), (mI, .inl (g.2.2, 23, .inr (.inl fi))), (mN, .inl (g.2.1, 61, .inl fn)), (mH, .inl (g.2.1, 61, .inl fh))] (fun r u => r = nI (si_isR q.toInt64).toNat ∧ (si_isR q.toInt64 = true → ∃ sr, 1 ≤ sr ∧ sr ≤ 16 ∧ q = nI sr ∧ ∀ k, k < 23 → u.2.2.2.2.2.2.2 k = si_im t sr k) ∧ (si_isR q.toInt64 = false → u.2.2.2.2.2.2.2 = fd)) (fun u => [(y0, .inr (6, [.int (nI t.length), .ref mW, .ref mD, .int zt, .int zn, .ref mT, .int ze, .ref mP, .ref mR, .int za, .ref mA, .int u.1, .ref mK, .ref mO, .ref mB, .ref mI, .ref mN, .ref mH, .ref mC])), (mW, .inl (g.2.1, 60, .inl f)), (mD, .inl (g.2.2, 23, .inr (.inl u.2.2.2.2.2.2.2))), (mK, .inl (g.2.1, 61, .inl u.2.1)), (mO, .inl (g.2.1, 61, .inl u.2.2.1)), (mB, .inl (g.2.1, 61, .inl u.2.2.2.1)), (mI, .inl (g.2.2, 23, .inr (.inl u.2.2.2.2.1))), (mN, .inl (g.2.1, 61, .inl u.2.2.2.2.2.1)), (mH, .inl (g.2.1, 61, .inl u.2.2.2.2.2.2.1))]) := by
  refine si_Mi.of (cc := zkM_build) (maxL := 3) (by decide) rfl (Nat.le_of_ble_eq_true rfl) ?_
  intro p e s m args below meth c A Q ls hF0 hin hK hN hP hD hA hS hl hret
  obtain ⟨hx, hb, hml, hown, hts0⟩ := hF0
  have hts : ∀ w ∈ si_tbl, w.before args s = true := fun w hw => hts0 w (List.mem_cons_of_mem _ hw)
  have hF : CallFix p m c zkM_build 3 s args si_tbl zRM := ⟨hx, hb, hml, hown, hts⟩
  have hl : lv_has ls 3 [(0, .ref y0), (1, .int q)] := hl
  have hn := hok.1
  refine lv_iload_n hx hb zdM_build_0 rfl (lv_at hl 1 rfl) ?_
  refine lv_iconst (v := nI 1) hx hb zdM_build_1 (by decide) ?_
  refine lv_icmp_lt (tgt := 11) hx hb zdM_build_2 rfl (fun h2 => ?_) (fun h2 => ?_)
  · have hd := si_rq_f (Or.inl h2)
    refine lv_iconst (v := nI 0) hx hb zdM_build_11 (by decide) ?_
    exact hret (nI 0) (zm, fk, fo, fb, fi, fn, fh, fd) _ _ _ _ (rfl) (by rw [hd]; exact ⟨rfl, fun z => absurd z (by decide), fun _ => rfl⟩) (hP.sub [0, 1, 2, 3, 4, 5, 6, 7, 8] rfl) (hD.sub [0, 1, 2, 3, 4, 5, 6, 7, 8] (by decide) rfl) hS zdM_build_12
  · refine lv_iload_n hx hb zdM_build_5 rfl (lv_at hl 1 rfl) ?_
    refine lv_bipush (v := nI 16) hx hb zdM_build_6 (by decide) ?_
    refine lv_icmp_le (tgt := 13) hx hb zdM_build_8 rfl (fun h8 => ?_) (fun h8 => ?_)
    · obtain ⟨sr, hs1, hs2, rfl, hd⟩ := si_rq_t h2 h8
      refine lv_aload_n hx hb zdM_build_13 rfl (lv_at hl 0 rfl) ?_
      refine lv_aload_n hx hb zdM_build_14 rfl (lv_at hl 0 rfl) ?_
      refine va_get (D := g.1) (ci := 6) (v := .int (nI t.length)) (C := zRM) (T := zTM) (N := 19) hx hb hts ziM hown hK hP 0 rfl rfl 0 (by decide) (hts _ zlM_50) (fun _ h => h) rfl zdM_build_15 ?_
      refine va_put (D := g.1) (ci := 6) (v := .int (nI t.length)) (ty := .int) (C := zRM) (T := zTM) (N := 19) hx hb hts ziM ztM ztoM znM hown hK hP hD hS 0 rfl rfl 11 (by decide) (hts _ zlM_54) (fun _ h => h) rfl (by decide +kernel) rfl rfl (Nat.le_of_ble_eq_true rfl) zdM_build_18 (fun H locs hP hD hS => ?_)
      have hP : va_P g.1 vwCl [(y0, .inr (6, [.int (nI t.length), .ref mW, .ref mD, .int zt, .int zn, .ref mT, .int ze, .ref mP, .ref mR, .int za, .ref mA, .int (nI t.length), .ref mK, .ref mO, .ref mB, .ref mI, .ref mN, .ref mH, .ref mC])), (mW, .inl (g.2.1, 60, .inl f)), (mD, .inl (g.2.2, 23, .inr (.inl fd))), (mK, .inl (g.2.1, 61, .inl fk)), (mO, .inl (g.2.1, 61, .inl fo)), (mB, .inl (g.2.1, 61, .inl fb)), (mI, .inl (g.2.2, 23, .inr (.inl fi))), (mN, .inl (g.2.1, 61, .inl fn)), (mH, .inl (g.2.1, 61, .inl fh))] H := hP
      have hD : va_D A [(y0, .inr (6, [.int (nI t.length), .ref mW, .ref mD, .int zt, .int zn, .ref mT, .int ze, .ref mP, .ref mR, .int za, .ref mA, .int (nI t.length), .ref mK, .ref mO, .ref mB, .ref mI, .ref mN, .ref mH, .ref mC])), (mW, .inl (g.2.1, 60, .inl f)), (mD, .inl (g.2.2, 23, .inr (.inl fd))), (mK, .inl (g.2.1, 61, .inl fk)), (mO, .inl (g.2.1, 61, .inl fo)), (mB, .inl (g.2.1, 61, .inl fb)), (mI, .inl (g.2.2, 23, .inr (.inl fi))), (mN, .inl (g.2.1, 61, .inl fn)), (mH, .inl (g.2.1, 61, .inl fh))] := hD
      refine lv_iconst (v := nI 0) hx hb zdM_build_21 (by decide) ?_
      refine lv_istore_n (lv' := [(2, .int (nI 0)), (0, .ref y0), (1, .int (nI sr))]) hx hb zdM_build_22 rfl hl (Nat.le_of_ble_eq_true rfl) rfl (fun ls hl => ?_)
      have L23 : ∀ (N : Nat) (k : Nat) (f2 : Nat → Int32) (H : Heap) (locs : List Loc) (ls : Array Slot), t.length - k < N → (k ≤ t.length) → (∀ x, x < k → f2 x = f x) → lv_has ls 3 [(0, .ref y0), (1, .int (nI sr)), (2, .int (nI k))] → va_P g.1 vwCl [(y0, .inr (6, [.int (nI t.length), .ref mW, .ref mD, .int zt, .int zn, .ref mT, .int ze, .ref mP, .ref mR, .int za, .ref mA, .int (nI t.length), .ref mK, .ref mO, .ref mB, .ref mI, .ref mN, .ref mH, .ref mC])), (mW, .inl (g.2.1, 60, .inl f)), (mD, .inl (g.2.2, 23, .inr (.inl fd))), (mK, .inl (g.2.1, 61, .inl f2)), (mO, .inl (g.2.1, 61, .inl fo)), (mB, .inl (g.2.1, 61, .inl fb)), (mI, .inl (g.2.2, 23, .inr (.inl fi))), (mN, .inl (g.2.1, 61, .inl fn)), (mH, .inl (g.2.1, 61, .inl fh))] H → va_D A [(y0, .inr (6, [.int (nI t.length), .ref mW, .ref mD, .int zt, .int zn, .ref mT, .int ze, .ref mP, .ref mR, .int za, .ref mA, .int (nI t.length), .ref mK, .ref mO, .ref mB, .ref mI, .ref mN, .ref mH, .ref mC])), (mW, .inl (g.2.1, 60, .inl f)), (mD, .inl (g.2.2, 23, .inr (.inl fd))), (mK, .inl (g.2.1, 61, .inl f2)), (mO, .inl (g.2.1, 61, .inl fo)), (mB, .inl (g.2.1, 61, .inl fb)), (mI, .inl (g.2.2, 23, .inr (.inl fi))), (mN, .inl (g.2.1, 61, .inl fn)), (mH, .inl (g.2.1, 61, .inl fh))] → va_S A s.heap H locs → W p l e ({ frames := 3, cells := 0, slots := 0, locals := 70 } : Room) s m args below meth c H locs 0 0 Q (F0 m 23 ls []) := by
        intro N
        induction N with
        | zero => intro k f2 H locs ls hMs; exact absurd hMs (Nat.not_lt_zero _)
        | succ N ih23 =>
          intro k f2 H locs ls hMs hk hC hl hP hD hS
          refine lv_iload_n hx hb zdM_build_23 rfl (lv_at hl 2 rfl) ?_
          refine lv_aload_n hx hb zdM_build_24 rfl (lv_at hl 0 rfl) ?_
          refine va_get (D := g.1) (ci := 6) (v := .int (nI t.length)) (C := zRM) (T := zTM) (N := 19) hx hb hts ziM hown hK hP 0 rfl rfl 0 (by decide) (hts _ zlM_50) (fun _ h => h) rfl zdM_build_25 ?_
          refine si_icmp_ge (tgt := 49) hx hb zdM_build_28 rfl (by omega) (by omega) (fun h28 => ?_) (fun h28 => ?_)
          · refine lv_aload_n hx hb zdM_build_49 rfl (lv_at hl 0 rfl) ?_
            refine lv_iload_n hx hb zdM_build_50 rfl (lv_at hl 1 rfl) ?_
            refine (cM_picture l g y0 mW mD mT mP mR mA mK mO mB mI mN mH mC (nI t.length) zt zn ze za f2 fo fb fn fh fi t sr hok (fun x hx => (hC x (by omega)).trans (hf x hx)) hs1 hs2).callV (wr := [(mW, .inl (g.2.1, 60, .inl f)), (mD, .inl (g.2.2, 23, .inr (.inl fd)))]) (As := [.int (nI sr)]) (rest := []) hF (si_cV 1 hts zcM_picture zlM_69 zimM_picture zseM_picture ziniM zhM_picture ⟨Nat.le_of_ble_eq_true rfl, Nat.le_of_ble_eq_true rfl⟩) hK hN hP hD hS hA [0, 3, 4, 5, 6, 7, 8] [1, 2] rfl rfl (by decide) (by decide) (va_recv (q := (zRM, zTM, 19)) hK hP (ci := 6) (q0 := 0) rfl rfl) rfl hl.1 rfl (Nat.le_of_ble_eq_true rfl) zdM_build_51 ⟨Nat.le_of_ble_eq_true rfl, Nat.le_of_ble_eq_true rfl⟩ rfl rfl (fun u_ H locs hq_ hP hD hS => ?_)
            obtain ⟨k5, o5, b5, w5, n5, h5⟩ := u_
            obtain ⟨hK5, hsu5, hw5⟩ := hq_
            have hP : va_P g.1 vwCl [(mW, .inl (g.2.1, 60, .inl f)), (mD, .inl (g.2.2, 23, .inr (.inl fd))), (y0, .inr (6, [.int (nI t.length), .ref mW, .ref mD, .int zt, .int zn, .ref mT, .int ze, .ref mP, .ref mR, .int za, .ref mA, .int (nI t.length), .ref mK, .ref mO, .ref mB, .ref mI, .ref mN, .ref mH, .ref mC])), (mK, .inl (g.2.1, 61, .inl k5)), (mO, .inl (g.2.1, 61, .inl o5)), (mB, .inl (g.2.1, 61, .inl b5)), (mI, .inl (g.2.2, 23, .inr (.inl w5))), (mN, .inl (g.2.1, 61, .inl n5)), (mH, .inl (g.2.1, 61, .inl h5))] H := hP
            have hD : va_D A [(mW, .inl (g.2.1, 60, .inl f)), (mD, .inl (g.2.2, 23, .inr (.inl fd))), (y0, .inr (6, [.int (nI t.length), .ref mW, .ref mD, .int zt, .int zn, .ref mT, .int ze, .ref mP, .ref mR, .int za, .ref mA, .int (nI t.length), .ref mK, .ref mO, .ref mB, .ref mI, .ref mN, .ref mH, .ref mC])), (mK, .inl (g.2.1, 61, .inl k5)), (mO, .inl (g.2.1, 61, .inl o5)), (mB, .inl (g.2.1, 61, .inl b5)), (mI, .inl (g.2.2, 23, .inr (.inl w5))), (mN, .inl (g.2.1, 61, .inl n5)), (mH, .inl (g.2.1, 61, .inl h5))] := hD
            refine lv_iconst (v := nI 0) hx hb zdM_build_54 (by decide) ?_
            refine lv_istore_n (lv' := [(2, .int (nI 0)), (0, .ref y0), (1, .int (nI sr))]) hx hb zdM_build_55 rfl hl (Nat.le_of_ble_eq_true rfl) rfl (fun ls hl => ?_)
            have L56 : ∀ (N : Nat) (k : Nat) (d2 : Nat → Int64) (H : Heap) (locs : List Loc) (ls : Array Slot), 23 - k < N → (k ≤ 23) → (∀ x, x < k → d2 x = w5 x) → lv_has ls 3 [(0, .ref y0), (1, .int (nI sr)), (2, .int (nI k))] → va_P g.1 vwCl [(y0, .inr (6, [.int (nI t.length), .ref mW, .ref mD, .int zt, .int zn, .ref mT, .int ze, .ref mP, .ref mR, .int za, .ref mA, .int (nI t.length), .ref mK, .ref mO, .ref mB, .ref mI, .ref mN, .ref mH, .ref mC])), (mW, .inl (g.2.1, 60, .inl f)), (mD, .inl (g.2.2, 23, .inr (.inl d2))), (mK, .inl (g.2.1, 61, .inl k5)), (mO, .inl (g.2.1, 61, .inl o5)), (mB, .inl (g.2.1, 61, .inl b5)), (mI, .inl (g.2.2, 23, .inr (.inl w5))), (mN, .inl (g.2.1, 61, .inl n5)), (mH, .inl (g.2.1, 61, .inl h5))] H → va_D A [(y0, .inr (6, [.int (nI t.length), .ref mW, .ref mD, .int zt, .int zn, .ref mT, .int ze, .ref mP, .ref mR, .int za, .ref mA, .int (nI t.length), .ref mK, .ref mO, .ref mB, .ref mI, .ref mN, .ref mH, .ref mC])), (mW, .inl (g.2.1, 60, .inl f)), (mD, .inl (g.2.2, 23, .inr (.inl d2))), (mK, .inl (g.2.1, 61, .inl k5)), (mO, .inl (g.2.1, 61, .inl o5)), (mB, .inl (g.2.1, 61, .inl b5)), (mI, .inl (g.2.2, 23, .inr (.inl w5))), (mN, .inl (g.2.1, 61, .inl n5)), (mH, .inl (g.2.1, 61, .inl h5))] → va_S A s.heap H locs → W p l e ({ frames := 3, cells := 0, slots := 0, locals := 70 } : Room) s m args below meth c H locs 0 0 Q (F0 m 56 ls []) := by
              intro N
              induction N with
              | zero => intro k d2 H locs ls hMs; exact absurd hMs (Nat.not_lt_zero _)
              | succ N ih56 =>
                intro k d2 H locs ls hMs hk2 hD2 hl hP hD hS
                refine lv_iload_n hx hb zdM_build_56 rfl (lv_at hl 2 rfl) ?_
                refine lv_bipush (v := nI 23) hx hb zdM_build_57 (by decide) ?_
                refine si_icmp_ge (tgt := 80) hx hb zdM_build_59 rfl (by omega) (by decide) (fun h59 => ?_) (fun h59 => ?_)
                · refine lv_iconst (v := nI 1) hx hb zdM_build_80 (by decide) ?_
                  exact hret (nI 1) (nI t.length, k5, o5, b5, w5, n5, h5, d2) _ _ _ _ (rfl) (by rw [hd]; exact ⟨rfl, fun _ => ⟨sr, hs1, hs2, rfl, fun k9 hk9 => (hD2 k9 (by omega)).trans (hw5 k9 hk9)⟩, fun z => absurd z (by decide)⟩) (hP.sub [0, 1, 2, 3, 4, 5, 6, 7, 8] rfl) (hD.sub [0, 1, 2, 3, 4, 5, 6, 7, 8] (by decide) rfl) hS zdM_build_81
                · refine lv_aload_n hx hb zdM_build_62 rfl (lv_at hl 0 rfl) ?_
                  refine va_get (D := g.1) (ci := 6) (v := .ref mD) (C := zRM) (T := zTM) (N := 19) hx hb hts ziM hown hK hP 0 rfl rfl 2 (by decide) (hts _ zlM_13) (fun _ h => h) rfl zdM_build_63 ?_
                  refine lv_iload_n hx hb zdM_build_66 rfl (lv_at hl 2 rfl) ?_
                  refine lv_aload_n hx hb zdM_build_67 rfl (lv_at hl 0 rfl) ?_
                  refine va_get (D := g.1) (ci := 6) (v := .ref mI) (C := zRM) (T := zTM) (N := 19) hx hb hts ziM hown hK hP 0 rfl rfl 15 (by decide) (hts _ zlM_38) (fun _ h => h) rfl zdM_build_68 ?_
                  refine lv_iload_n hx hb zdM_build_71 rfl (lv_at hl 2 rfl) ?_
                  refine si_lald (v := w5 k) hx hb hK hP 6 1 rfl rfl (by decide) (by omega) (rfl) zdM_build_72 ?_
                  refine si_last hx hb hK hP hD hS 2 1 rfl rfl (by decide) (by omega) zdM_build_73 (fun H locs hP hD hS => ?_)
                  have hP : va_P g.1 vwCl [(y0, .inr (6, [.int (nI t.length), .ref mW, .ref mD, .int zt, .int zn, .ref mT, .int ze, .ref mP, .ref mR, .int za, .ref mA, .int (nI t.length), .ref mK, .ref mO, .ref mB, .ref mI, .ref mN, .ref mH, .ref mC])), (mW, .inl (g.2.1, 60, .inl f)), (mD, .inl (g.2.2, 23, .inr (.inl (vp_updL d2 k (w5 k))))), (mK, .inl (g.2.1, 61, .inl k5)), (mO, .inl (g.2.1, 61, .inl o5)), (mB, .inl (g.2.1, 61, .inl b5)), (mI, .inl (g.2.2, 23, .inr (.inl w5))), (mN, .inl (g.2.1, 61, .inl n5)), (mH, .inl (g.2.1, 61, .inl h5))] H := hP
                  have hD : va_D A [(y0, .inr (6, [.int (nI t.length), .ref mW, .ref mD, .int zt, .int zn, .ref mT, .int ze, .ref mP, .ref mR, .int za, .ref mA, .int (nI t.length), .ref mK, .ref mO, .ref mB, .ref mI, .ref mN, .ref mH, .ref mC])), (mW, .inl (g.2.1, 60, .inl f)), (mD, .inl (g.2.2, 23, .inr (.inl (vp_updL d2 k (w5 k))))), (mK, .inl (g.2.1, 61, .inl k5)), (mO, .inl (g.2.1, 61, .inl o5)), (mB, .inl (g.2.1, 61, .inl b5)), (mI, .inl (g.2.2, 23, .inr (.inl w5))), (mN, .inl (g.2.1, 61, .inl n5)), (mH, .inl (g.2.1, 61, .inl h5))] := hD
                  refine lv_iinc (k := 2) (v := nI (k + 1)) (lv' := [(2, .int (nI (k + 1))), (0, .ref y0), (1, .int (nI sr))]) hx hb zdM_build_74 hl rfl (si_inc _) (Nat.le_of_ble_eq_true rfl) rfl (fun ls hl => ?_)
                  refine lv_goto (tgt := 56) hx hb zdM_build_77 rfl ?_
                  exact ih56 (k + 1) (vp_updL d2 k (w5 k)) _ _ _ (by omega) (by omega) (fun x hx => by by_cases e9 : x = k <;> first | (subst e9; rw [pk_uLs]; done) | (rw [pk_uLn e9]; exact hD2 x (by omega))) (lv_sub hl [1, 2, 0] rfl) (hP.sub [0, 1, 2, 3, 4, 5, 6, 7, 8] rfl) (hD.sub [0, 1, 2, 3, 4, 5, 6, 7, 8] (by decide) rfl) hS
            exact L56 (23 - 0 + 1) 0 fd _ _ _ (by omega) (by omega) (fun x hx => absurd hx (Nat.not_lt_zero _)) (lv_sub hl [1, 2, 0] rfl) (hP.sub [2, 0, 1, 3, 4, 5, 6, 7, 8] rfl) (hD.sub [2, 0, 1, 3, 4, 5, 6, 7, 8] (by decide) rfl) hS
          · refine lv_aload_n hx hb zdM_build_31 rfl (lv_at hl 0 rfl) ?_
            refine va_get (D := g.1) (ci := 6) (v := .ref mK) (C := zRM) (T := zTM) (N := 19) hx hb hts ziM hown hK hP 0 rfl rfl 12 (by decide) (hts _ zlM_29) (fun _ h => h) rfl zdM_build_32 ?_
            refine lv_iload_n hx hb zdM_build_35 rfl (lv_at hl 2 rfl) ?_
            refine lv_aload_n hx hb zdM_build_36 rfl (lv_at hl 0 rfl) ?_
            refine va_get (D := g.1) (ci := 6) (v := .ref mW) (C := zRM) (T := zTM) (N := 19) hx hb hts ziM hown hK hP 0 rfl rfl 1 (by decide) (hts _ zlM_7) (fun _ h => h) rfl zdM_build_37 ?_
            refine lv_iload_n hx hb zdM_build_40 rfl (lv_at hl 2 rfl) ?_
            refine si_iald (v := f k) hx hb hK hP 1 0 rfl rfl (by decide) (by omega) (rfl) zdM_build_41 ?_
            refine si_iast hx hb hK hP hD hS 3 0 rfl rfl (by decide) (by omega) zdM_build_42 (fun H locs hP hD hS => ?_)
            have hP : va_P g.1 vwCl [(y0, .inr (6, [.int (nI t.length), .ref mW, .ref mD, .int zt, .int zn, .ref mT, .int ze, .ref mP, .ref mR, .int za, .ref mA, .int (nI t.length), .ref mK, .ref mO, .ref mB, .ref mI, .ref mN, .ref mH, .ref mC])), (mW, .inl (g.2.1, 60, .inl f)), (mD, .inl (g.2.2, 23, .inr (.inl fd))), (mK, .inl (g.2.1, 61, .inl (upd f2 k (f k)))), (mO, .inl (g.2.1, 61, .inl fo)), (mB, .inl (g.2.1, 61, .inl fb)), (mI, .inl (g.2.2, 23, .inr (.inl fi))), (mN, .inl (g.2.1, 61, .inl fn)), (mH, .inl (g.2.1, 61, .inl fh))] H := hP
            have hD : va_D A [(y0, .inr (6, [.int (nI t.length), .ref mW, .ref mD, .int zt, .int zn, .ref mT, .int ze, .ref mP, .ref mR, .int za, .ref mA, .int (nI t.length), .ref mK, .ref mO, .ref mB, .ref mI, .ref mN, .ref mH, .ref mC])), (mW, .inl (g.2.1, 60, .inl f)), (mD, .inl (g.2.2, 23, .inr (.inl fd))), (mK, .inl (g.2.1, 61, .inl (upd f2 k (f k)))), (mO, .inl (g.2.1, 61, .inl fo)), (mB, .inl (g.2.1, 61, .inl fb)), (mI, .inl (g.2.2, 23, .inr (.inl fi))), (mN, .inl (g.2.1, 61, .inl fn)), (mH, .inl (g.2.1, 61, .inl fh))] := hD
            refine lv_iinc (k := 2) (v := nI (k + 1)) (lv' := [(2, .int (nI (k + 1))), (0, .ref y0), (1, .int (nI sr))]) hx hb zdM_build_43 hl rfl (si_inc _) (Nat.le_of_ble_eq_true rfl) rfl (fun ls hl => ?_)
            refine lv_goto (tgt := 23) hx hb zdM_build_46 rfl ?_
            exact ih23 (k + 1) (upd f2 k (f k)) _ _ _ (by omega) (by omega) (si_up hC rfl) (lv_sub hl [1, 2, 0] rfl) (hP.sub [0, 1, 2, 3, 4, 5, 6, 7, 8] rfl) (hD.sub [0, 1, 2, 3, 4, 5, 6, 7, 8] (by decide) rfl) hS
      exact L23 (t.length - 0 + 1) 0 fk _ _ _ (by omega) (by omega) (fun x hx => absurd hx (Nat.not_lt_zero _)) (lv_sub hl [1, 2, 0] rfl) (hP.sub [0, 1, 2, 3, 4, 5, 6, 7, 8] rfl) (hD.sub [0, 1, 2, 3, 4, 5, 6, 7, 8] (by decide) rfl) hS
    · have hd := si_rq_f (Or.inr h8)
      refine lv_iconst (v := nI 0) hx hb zdM_build_11 (by decide) ?_
      exact hret (nI 0) (zm, fk, fo, fb, fi, fn, fh, fd) _ _ _ _ (rfl) (by rw [hd]; exact ⟨rfl, fun z => absurd z (by decide), fun _ => rfl⟩) (hP.sub [0, 1, 2, 3, 4, 5, 6, 7, 8] rfl) (hD.sub [0, 1, 2, 3, 4, 5, 6, 7, 8] (by decide) rfl) hS zdM_build_12

set_option maxHeartbeats 4000000 in
set_option maxRecDepth 100000 in
/-- before -/
theorem cM_before (l : Launch) (g : si_G) (y0 mW mD mT mP mR mA mK mO mB mI mN mH mC : Nat) (zs zt zn ze za : Int32) (fc : Nat → Int32) (cx : Nat → Nat) (nn kr : Nat) (hn : nn ≤ 60) (hcx : ∀ x, x < nn + 1 → fc x = nI (cx x)) (hc7 : ∀ x, x < nn + 1 → cx x < 128) (hkr : kr < nn + 1) : si_Mi (S := Unit) l g vwCl zyM_before zwM_before ({ frames := 0, cells := 0, slots := 0, locals := 0 } : Room) [.ref y0, .int (nI kr)] [(y0, .inr (6, [.int zs, .ref mW, .ref mD, .int zt, .int zn, .ref mT, .int ze, .ref mP, .ref mR, .int za, .ref mA, .int (nI nn), .ref mK, .ref mO, .ref mB, .ref mI, .ref mN, .ref mH, .ref mC])), (mC, .inl (g.2.1, 61, .inl fc))] (fun r u => r = nI (si_lf cx (nn + 1) kr)) (fun u => [(y0, .inr (6, [.int zs, .ref mW, .ref mD, .int zt, .int zn, .ref mT, .int ze, .ref mP, .ref mR, .int za, .ref mA, .int (nI nn), .ref mK, .ref mO, .ref mB, .ref mI, .ref mN, .ref mH, .ref mC])), (mC, .inl (g.2.1, 61, .inl fc))]) := by
  refine si_Mi.of (cc := zkM_before) (maxL := 4) (by decide) rfl (Nat.le_of_ble_eq_true rfl) ?_
  intro p e s m args below meth c A Q ls hF0 hin hK hN hP hD hA hS hl hret
  obtain ⟨hx, hb, hml, hown, hts0⟩ := hF0
  have hts : ∀ w ∈ si_tbl, w.before args s = true := fun w hw => hts0 w (List.mem_cons_of_mem _ hw)
  have hF : CallFix p m c zkM_before 4 s args si_tbl zRM := ⟨hx, hb, hml, hown, hts⟩
  have hl : lv_has ls 4 [(0, .ref y0), (1, .int (nI kr))] := hl
  have hckr := hc7 kr hkr
  refine lv_iconst (v := nI 0) hx hb zdM_before_0 (by decide) ?_
  refine lv_istore_n (lv' := [(2, .int (nI 0)), (0, .ref y0), (1, .int (nI kr))]) hx hb zdM_before_1 rfl hl (Nat.le_of_ble_eq_true rfl) rfl (fun ls hl => ?_)
  refine lv_iconst (v := nI 0) hx hb zdM_before_2 (by decide) ?_
  refine lv_istore_n (lv' := [(3, .int (nI 0)), (2, .int (nI 0)), (0, .ref y0), (1, .int (nI kr))]) hx hb zdM_before_3 rfl hl (Nat.le_of_ble_eq_true rfl) rfl (fun ls hl => ?_)
  have L4 : ∀ (N : Nat) (k : Nat) (row : Nat) (H : Heap) (locs : List Loc) (ls : Array Slot), nn + 1 - k < N → (k ≤ nn + 1) → (row = si_cn k (fun x => si_lo cx x kr)) → lv_has ls 4 [(0, .ref y0), (1, .int (nI kr)), (2, .int (nI row)), (3, .int (nI k))] → va_P g.1 vwCl [(y0, .inr (6, [.int zs, .ref mW, .ref mD, .int zt, .int zn, .ref mT, .int ze, .ref mP, .ref mR, .int za, .ref mA, .int (nI nn), .ref mK, .ref mO, .ref mB, .ref mI, .ref mN, .ref mH, .ref mC])), (mC, .inl (g.2.1, 61, .inl fc))] H → va_D A [(y0, .inr (6, [.int zs, .ref mW, .ref mD, .int zt, .int zn, .ref mT, .int ze, .ref mP, .ref mR, .int za, .ref mA, .int (nI nn), .ref mK, .ref mO, .ref mB, .ref mI, .ref mN, .ref mH, .ref mC])), (mC, .inl (g.2.1, 61, .inl fc))] → va_S A s.heap H locs → W p l e ({ frames := 0, cells := 0, slots := 0, locals := 0 } : Room) s m args below meth c H locs 0 0 Q (F0 m 4 ls []) := by
    intro N
    induction N with
    | zero => intro k row H locs ls hMs; exact absurd hMs (Nat.not_lt_zero _)
    | succ N ih4 =>
      intro k row H locs ls hMs hk hrw hl hP hD hS
      refine lv_iload_n hx hb zdM_before_4 rfl (lv_at hl 3 rfl) ?_
      refine lv_aload_n hx hb zdM_before_5 rfl (lv_at hl 0 rfl) ?_
      refine va_get (D := g.1) (ci := 6) (v := .int (nI nn)) (C := zRM) (T := zTM) (N := 19) hx hb hts ziM hown hK hP 0 rfl rfl 11 (by decide) (hts _ zlM_54) (fun _ h => h) rfl zdM_before_6 ?_
      refine si_icmp_gt (tgt := 61) hx hb zdM_before_9 rfl (by omega) (by omega) (fun h9 => ?_) (fun h9 => ?_)
      · refine lv_iload_n hx hb zdM_before_61 rfl (lv_at hl 2 rfl) ?_
        exact hret (nI row) () _ _ _ _ (rfl) (by rw [hrw, show k = nn + 1 by omega]; rfl) (hP.sub [0, 1] rfl) (hD.sub [0, 1] (by decide) rfl) hS zdM_before_62
      · have hck := hc7 k (by omega)
        have hrl : row ≤ k := by rw [hrw]; exact si_cn_le _ _
        refine lv_aload_n hx hb zdM_before_12 rfl (lv_at hl 0 rfl) ?_
        refine va_get (D := g.1) (ci := 6) (v := .ref mC) (C := zRM) (T := zTM) (N := 19) hx hb hts ziM hown hK hP 0 rfl rfl 18 (by decide) (hts _ zlM_47) (fun _ h => h) rfl zdM_before_13 ?_
        refine lv_iload_n hx hb zdM_before_16 rfl (lv_at hl 3 rfl) ?_
        refine si_iald (v := nI (cx k)) hx hb hK hP 1 0 rfl rfl (by decide) (by omega) (hcx k (by omega)) zdM_before_17 ?_
        refine lv_aload_n hx hb zdM_before_18 rfl (lv_at hl 0 rfl) ?_
        refine va_get (D := g.1) (ci := 6) (v := .ref mC) (C := zRM) (T := zTM) (N := 19) hx hb hts ziM hown hK hP 0 rfl rfl 18 (by decide) (hts _ zlM_47) (fun _ h => h) rfl zdM_before_19 ?_
        refine lv_iload_n hx hb zdM_before_22 rfl (lv_at hl 1 rfl) ?_
        refine si_iald (v := nI (cx kr)) hx hb hK hP 1 0 rfl rfl (by decide) (by omega) (hcx kr hkr) zdM_before_23 ?_
        refine si_icmp_lt (tgt := 47) hx hb zdM_before_24 rfl (by omega) (by omega) (fun h24 => ?_) (fun h24 => ?_)
        · have hs : si_lo cx k kr = true := by simp [si_lo, h24]
          refine lv_iload_n hx hb zdM_before_47 rfl (lv_at hl 2 rfl) ?_
          refine lv_iconst (v := nI 1) hx hb zdM_before_48 (by decide) ?_
          refine si_iadd (v := nI (row + 1)) hx hb zdM_before_49 (nI_add _ _) ?_
          refine lv_goto (tgt := 54) hx hb zdM_before_50 rfl ?_
          refine lv_istore_n (lv' := [(2, .int (nI (row + 1))), (0, .ref y0), (1, .int (nI kr)), (3, .int (nI k))]) hx hb zdM_before_54 rfl hl (Nat.le_of_ble_eq_true rfl) rfl (fun ls hl => ?_)
          refine lv_iinc (k := 3) (v := nI (k + 1)) (lv' := [(3, .int (nI (k + 1))), (2, .int (nI (row + 1))), (0, .ref y0), (1, .int (nI kr))]) hx hb zdM_before_55 hl rfl (si_inc _) (Nat.le_of_ble_eq_true rfl) rfl (fun ls hl => ?_)
          refine lv_goto (tgt := 4) hx hb zdM_before_58 rfl ?_
          exact ih4 (k + 1) (row + 1) _ _ _ (by omega) (by omega) (by first | (rw [si_cn_t (P := fun x => si_lo cx x kr) hs, hrw]; done) | (rw [si_cn_f (P := fun x => si_lo cx x kr) hs2, hrw]; done)) (lv_sub hl [2, 3, 1, 0] rfl) (hP.sub [0, 1] rfl) (hD.sub [0, 1] (by decide) rfl) hS
        · refine lv_aload_n hx hb zdM_before_27 rfl (lv_at hl 0 rfl) ?_
          refine va_get (D := g.1) (ci := 6) (v := .ref mC) (C := zRM) (T := zTM) (N := 19) hx hb hts ziM hown hK hP 0 rfl rfl 18 (by decide) (hts _ zlM_47) (fun _ h => h) rfl zdM_before_28 ?_
          refine lv_iload_n hx hb zdM_before_31 rfl (lv_at hl 3 rfl) ?_
          refine si_iald (v := nI (cx k)) hx hb hK hP 1 0 rfl rfl (by decide) (by omega) (hcx k (by omega)) zdM_before_32 ?_
          refine lv_aload_n hx hb zdM_before_33 rfl (lv_at hl 0 rfl) ?_
          refine va_get (D := g.1) (ci := 6) (v := .ref mC) (C := zRM) (T := zTM) (N := 19) hx hb hts ziM hown hK hP 0 rfl rfl 18 (by decide) (hts _ zlM_47) (fun _ h => h) rfl zdM_before_34 ?_
          refine lv_iload_n hx hb zdM_before_37 rfl (lv_at hl 1 rfl) ?_
          refine si_iald (v := nI (cx kr)) hx hb hK hP 1 0 rfl rfl (by decide) (by omega) (hcx kr hkr) zdM_before_38 ?_
          refine si_icmp_ne (tgt := 53) hx hb zdM_before_39 rfl (by omega) (by omega) (fun h39 => ?_) (fun h39 => ?_)
          · have hs2 : si_lo cx k kr = false := by
              have h9 : ¬ cx k < cx kr := by omega
              simp [si_lo, h9, h39]
            refine lv_iload_n hx hb zdM_before_53 rfl (lv_at hl 2 rfl) ?_
            refine lv_istore_n (lv' := [(2, .int (nI row)), (0, .ref y0), (1, .int (nI kr)), (3, .int (nI k))]) hx hb zdM_before_54 rfl hl (Nat.le_of_ble_eq_true rfl) rfl (fun ls hl => ?_)
            refine lv_iinc (k := 3) (v := nI (k + 1)) (lv' := [(3, .int (nI (k + 1))), (2, .int (nI row)), (0, .ref y0), (1, .int (nI kr))]) hx hb zdM_before_55 hl rfl (si_inc _) (Nat.le_of_ble_eq_true rfl) rfl (fun ls hl => ?_)
            refine lv_goto (tgt := 4) hx hb zdM_before_58 rfl ?_
            exact ih4 (k + 1) row _ _ _ (by omega) (by omega) (by first | (rw [si_cn_t (P := fun x => si_lo cx x kr) hs, hrw]; done) | (rw [si_cn_f (P := fun x => si_lo cx x kr) hs2, hrw]; done)) (lv_sub hl [2, 3, 1, 0] rfl) (hP.sub [0, 1] rfl) (hD.sub [0, 1] (by decide) rfl) hS
          · refine lv_iload_n hx hb zdM_before_42 rfl (lv_at hl 3 rfl) ?_
            refine lv_iload_n hx hb zdM_before_43 rfl (lv_at hl 1 rfl) ?_
            refine si_icmp_ge (tgt := 53) hx hb zdM_before_44 rfl (by omega) (by omega) (fun h44 => ?_) (fun h44 => ?_)
            · have hs2 : si_lo cx k kr = false := by
                have h9 : ¬ cx k < cx kr := by omega
                have h8 : ¬ k < kr := by omega
                simp [si_lo, h8, h9]
              refine lv_iload_n hx hb zdM_before_53 rfl (lv_at hl 2 rfl) ?_
              refine lv_istore_n (lv' := [(2, .int (nI row)), (0, .ref y0), (1, .int (nI kr)), (3, .int (nI k))]) hx hb zdM_before_54 rfl hl (Nat.le_of_ble_eq_true rfl) rfl (fun ls hl => ?_)
              refine lv_iinc (k := 3) (v := nI (k + 1)) (lv' := [(3, .int (nI (k + 1))), (2, .int (nI row)), (0, .ref y0), (1, .int (nI kr))]) hx hb zdM_before_55 hl rfl (si_inc _) (Nat.le_of_ble_eq_true rfl) rfl (fun ls hl => ?_)
              refine lv_goto (tgt := 4) hx hb zdM_before_58 rfl ?_
              exact ih4 (k + 1) row _ _ _ (by omega) (by omega) (by first | (rw [si_cn_t (P := fun x => si_lo cx x kr) hs, hrw]; done) | (rw [si_cn_f (P := fun x => si_lo cx x kr) hs2, hrw]; done)) (lv_sub hl [2, 3, 1, 0] rfl) (hP.sub [0, 1] rfl) (hD.sub [0, 1] (by decide) rfl) hS
            · have hs : si_lo cx k kr = true := by simp [si_lo, h39, h44]
              refine lv_iload_n hx hb zdM_before_47 rfl (lv_at hl 2 rfl) ?_
              refine lv_iconst (v := nI 1) hx hb zdM_before_48 (by decide) ?_
              refine si_iadd (v := nI (row + 1)) hx hb zdM_before_49 (nI_add _ _) ?_
              refine lv_goto (tgt := 54) hx hb zdM_before_50 rfl ?_
              refine lv_istore_n (lv' := [(2, .int (nI (row + 1))), (0, .ref y0), (1, .int (nI kr)), (3, .int (nI k))]) hx hb zdM_before_54 rfl hl (Nat.le_of_ble_eq_true rfl) rfl (fun ls hl => ?_)
              refine lv_iinc (k := 3) (v := nI (k + 1)) (lv' := [(3, .int (nI (k + 1))), (2, .int (nI (row + 1))), (0, .ref y0), (1, .int (nI kr))]) hx hb zdM_before_55 hl rfl (si_inc _) (Nat.le_of_ble_eq_true rfl) rfl (fun ls hl => ?_)
              refine lv_goto (tgt := 4) hx hb zdM_before_58 rfl ?_
              exact ih4 (k + 1) (row + 1) _ _ _ (by omega) (by omega) (by first | (rw [si_cn_t (P := fun x => si_lo cx x kr) hs, hrw]; done) | (rw [si_cn_f (P := fun x => si_lo cx x kr) hs2, hrw]; done)) (lv_sub hl [2, 3, 1, 0] rfl) (hP.sub [0, 1] rfl) (hD.sub [0, 1] (by decide) rfl) hS
  exact L4 (nn + 1 - 0 + 1) 0 0 _ _ _ (by omega) (by omega) (rfl) (lv_sub hl [2, 3, 1, 0] rfl) (hP.sub [0, 1] rfl) (hD.sub [0, 1] (by decide) rfl) hS

section SIRC
variable {n j i : Nat} {b : Nat → Nat → Bool} {F : Nat → Int32} {P Q : Nat → Prop}
theorem si_rvD (hi : i < n) (hD : ∀ x, x < n → P x → F x = nI (si_rc b n (j + 1) x)) (hPQ : ∀ x, x < n → Q x → P x ∨ si_rp b n j x = i) {v : Nat} (hv : v = (b j i).toNat) : ∀ x, x < n → Q x → upd F (si_iv n (si_rp b n j) i) (nI (2 * si_rc b n j (si_iv n (si_rp b n j) i) + v)) x = nI (si_rc b n (j + 1) x) := by
  intro x hx hq
  have h1 := si_iv_ok (si_rp_bij b n j) hi
  by_cases e : x = si_iv n (si_rp b n j) i
  · rw [← e, pk_us, si_rc_s, hv]
    have : si_rp b n j x = i := by rw [e]; exact h1.2
    rw [this]
    cases b j i <;> rfl
  · rw [pk_un e]
    rcases hPQ x hx hq with h | h
    · exact hD x hx h
    · exact absurd ((si_rp_bij b n j).2 _ _ hx h1.1 (h.trans h1.2.symm)) e
theorem si_rvU (hi : i < n) (hU : ∀ x, x < n → ¬ P x → F x = nI (si_rc b n j x)) (hPQ : ∀ x, x < n → ¬ Q x → ¬ P x ∧ si_rp b n j x ≠ i) {v : Int32} : ∀ x, x < n → ¬ Q x → upd F (si_iv n (si_rp b n j) i) v x = nI (si_rc b n j x) := by
  intro x hx hq
  have h1 := si_iv_ok (si_rp_bij b n j) hi
  obtain ⟨h2, h3⟩ := hPQ x hx hq
  rw [pk_un (fun e => h3 (by rw [e]; exact h1.2))]
  exact hU x hx h2
end SIRC
set_option maxHeartbeats 4000000 in
set_option maxRecDepth 100000 in
/-- readCodes -/
theorem cM_readCodes (l : Launch) (g : si_G) (y0 mW mD mT mP mR mA mK mO mB mI mN mH mC : Nat) (zs zt zn ze za : Int32) (fn fh fc : Nat → Int32) (fd : Nat → Int64) (nn : Nat) (hn : nn ≤ 60) : si_Mv (S := (Nat → Int32) × (Nat → Int32) × (Nat → Int32)) l g vwCl zyM_readCodes zwM_readCodes ({ frames := 0, cells := 0, slots := 0, locals := 0 } : Room) [.ref y0] [(y0, .inr (6, [.int zs, .ref mW, .ref mD, .int zt, .int zn, .ref mT, .int ze, .ref mP, .ref mR, .int za, .ref mA, .int (nI nn), .ref mK, .ref mO, .ref mB, .ref mI, .ref mN, .ref mH, .ref mC])), (mD, .inl (g.2.2, 23, .inr (.inl fd))), (mN, .inl (g.2.1, 61, .inl fn)), (mH, .inl (g.2.1, 61, .inl fh)), (mC, .inl (g.2.1, 61, .inl fc))] (fun u => ∀ x, x < nn + 1 → u.2.2 x = nI (si_rc (si_db fd) (nn + 1) 7 x)) (fun u => [(y0, .inr (6, [.int zs, .ref mW, .ref mD, .int zt, .int zn, .ref mT, .int ze, .ref mP, .ref mR, .int za, .ref mA, .int (nI nn), .ref mK, .ref mO, .ref mB, .ref mI, .ref mN, .ref mH, .ref mC])), (mD, .inl (g.2.2, 23, .inr (.inl fd))), (mN, .inl (g.2.1, 61, .inl u.1)), (mH, .inl (g.2.1, 61, .inl u.2.1)), (mC, .inl (g.2.1, 61, .inl u.2.2))]) := by
  refine si_Mv.of (cc := zkM_readCodes) (maxL := 5) (by decide) rfl (Nat.le_of_ble_eq_true rfl) ?_
  intro p e s m args below meth c A Q ls hF0 hin hK hN hP hD hA hS hl hret
  obtain ⟨hx, hb, hml, hown, hts0⟩ := hF0
  have hts : ∀ w ∈ si_tbl, w.before args s = true := fun w hw => hts0 w (List.mem_cons_of_mem _ hw)
  have hF : CallFix p m c zkM_readCodes 5 s args si_tbl zRM := ⟨hx, hb, hml, hown, hts⟩
  have hl : lv_has ls 5 [(0, .ref y0)] := hl
  refine lv_iconst (v := nI 0) hx hb zdM_readCodes_0 (by decide) ?_
  refine lv_istore_n (lv' := [(1, .int (nI 0)), (0, .ref y0)]) hx hb zdM_readCodes_1 rfl hl (Nat.le_of_ble_eq_true rfl) rfl (fun ls hl => ?_)
  have L2 : ∀ (N : Nat) (k : Nat) (g1 : Nat → Int32) (c1 : Nat → Int32) (H : Heap) (locs : List Loc) (ls : Array Slot), nn + 1 - k < N → (k ≤ nn + 1) → (∀ x, x < k → g1 x = nI x) → (∀ x, x < k → c1 x = nI 0) → lv_has ls 5 [(0, .ref y0), (1, .int (nI k))] → va_P g.1 vwCl [(y0, .inr (6, [.int zs, .ref mW, .ref mD, .int zt, .int zn, .ref mT, .int ze, .ref mP, .ref mR, .int za, .ref mA, .int (nI nn), .ref mK, .ref mO, .ref mB, .ref mI, .ref mN, .ref mH, .ref mC])), (mD, .inl (g.2.2, 23, .inr (.inl fd))), (mN, .inl (g.2.1, 61, .inl g1)), (mH, .inl (g.2.1, 61, .inl fh)), (mC, .inl (g.2.1, 61, .inl c1))] H → va_D A [(y0, .inr (6, [.int zs, .ref mW, .ref mD, .int zt, .int zn, .ref mT, .int ze, .ref mP, .ref mR, .int za, .ref mA, .int (nI nn), .ref mK, .ref mO, .ref mB, .ref mI, .ref mN, .ref mH, .ref mC])), (mD, .inl (g.2.2, 23, .inr (.inl fd))), (mN, .inl (g.2.1, 61, .inl g1)), (mH, .inl (g.2.1, 61, .inl fh)), (mC, .inl (g.2.1, 61, .inl c1))] → va_S A s.heap H locs → W p l e ({ frames := 0, cells := 0, slots := 0, locals := 0 } : Room) s m args below meth c H locs 0 0 Q (F0 m 2 ls []) := by
    intro N
    induction N with
    | zero => intro k g1 c1 H locs ls hMs; exact absurd hMs (Nat.not_lt_zero _)
    | succ N ih2 =>
      intro k g1 c1 H locs ls hMs hk hO hC0 hl hP hD hS
      refine lv_iload_n hx hb zdM_readCodes_2 rfl (lv_at hl 1 rfl) ?_
      refine lv_aload_n hx hb zdM_readCodes_3 rfl (lv_at hl 0 rfl) ?_
      refine va_get (D := g.1) (ci := 6) (v := .int (nI nn)) (C := zRM) (T := zTM) (N := 19) hx hb hts ziM hown hK hP 0 rfl rfl 11 (by decide) (hts _ zlM_54) (fun _ h => h) rfl zdM_readCodes_4 ?_
      refine si_icmp_gt (tgt := 30) hx hb zdM_readCodes_7 rfl (by omega) (by omega) (fun h7 => ?_) (fun h7 => ?_)
      · refine lv_iconst (v := nI 0) hx hb zdM_readCodes_30 (by decide) ?_
        refine lv_istore_n (lv' := [(1, .int (nI 0)), (0, .ref y0)]) hx hb zdM_readCodes_31 rfl hl (Nat.le_of_ble_eq_true rfl) rfl (fun ls hl => ?_)
        have L32 : ∀ (N : Nat) (j : Nat) (g2 : Nat → Int32) (h2 : Nat → Int32) (c2 : Nat → Int32) (H : Heap) (locs : List Loc) (ls : Array Slot), 7 - j < N → (j ≤ 7) → (∀ x, x < nn + 1 → g2 (si_rp (si_db fd) (nn + 1) j x) = nI x) → (∀ x, x < nn + 1 → c2 x = nI (si_rc (si_db fd) (nn + 1) j x)) → lv_has ls 5 [(0, .ref y0), (1, .int (nI j))] → va_P g.1 vwCl [(y0, .inr (6, [.int zs, .ref mW, .ref mD, .int zt, .int zn, .ref mT, .int ze, .ref mP, .ref mR, .int za, .ref mA, .int (nI nn), .ref mK, .ref mO, .ref mB, .ref mI, .ref mN, .ref mH, .ref mC])), (mD, .inl (g.2.2, 23, .inr (.inl fd))), (mN, .inl (g.2.1, 61, .inl g2)), (mH, .inl (g.2.1, 61, .inl h2)), (mC, .inl (g.2.1, 61, .inl c2))] H → va_D A [(y0, .inr (6, [.int zs, .ref mW, .ref mD, .int zt, .int zn, .ref mT, .int ze, .ref mP, .ref mR, .int za, .ref mA, .int (nI nn), .ref mK, .ref mO, .ref mB, .ref mI, .ref mN, .ref mH, .ref mC])), (mD, .inl (g.2.2, 23, .inr (.inl fd))), (mN, .inl (g.2.1, 61, .inl g2)), (mH, .inl (g.2.1, 61, .inl h2)), (mC, .inl (g.2.1, 61, .inl c2))] → va_S A s.heap H locs → W p l e ({ frames := 0, cells := 0, slots := 0, locals := 0 } : Room) s m args below meth c H locs 0 0 Q (F0 m 32 ls []) := by
          intro N
          induction N with
          | zero => intro j g2 h2 c2 H locs ls hMs; exact absurd hMs (Nat.not_lt_zero _)
          | succ N ih32 =>
            intro j g2 h2 c2 H locs ls hMs hj hN2 hC hl hP hD hS
            refine lv_iload_n hx hb zdM_readCodes_32 rfl (lv_at hl 1 rfl) ?_
            refine lv_bipush (v := nI 7) hx hb zdM_readCodes_33 (by decide) ?_
            refine si_icmp_ge (tgt := 168) hx hb zdM_readCodes_35 rfl (by omega) (by decide) (fun h35 => ?_) (fun h35 => ?_)
            · have hj7 : j = 7 := by omega
              subst hj7
              exact hret (g2, h2, c2) _ _ _ _ (hC) (hP.sub [0, 1, 2, 3, 4] rfl) (hD.sub [0, 1, 2, 3, 4] (by decide) rfl) hS zdM_readCodes_168
            · refine lv_iconst (v := nI 0) hx hb zdM_readCodes_38 (by decide) ?_
              refine lv_istore_n (lv' := [(2, .int (nI 0)), (0, .ref y0), (1, .int (nI j))]) hx hb zdM_readCodes_39 rfl hl (Nat.le_of_ble_eq_true rfl) rfl (fun ls hl => ?_)
              refine lv_iconst (v := nI 0) hx hb zdM_readCodes_40 (by decide) ?_
              refine lv_istore_n (lv' := [(3, .int (nI 0)), (2, .int (nI 0)), (0, .ref y0), (1, .int (nI j))]) hx hb zdM_readCodes_41 rfl hl (Nat.le_of_ble_eq_true rfl) rfl (fun ls hl => ?_)
              refine lv_iload_n hx hb zdM_readCodes_42 rfl (lv_at hl 0 rfl) ?_
              refine lv_iconst (v := nI 2) hx hb zdM_readCodes_43 (by decide) ?_
              refine si_icmp_ge (tgt := 134) hx hb zdM_readCodes_44 rfl (by decide) (by decide) (fun h44 => ?_) (fun h44 => ?_)
              · exact absurd h44 (by decide)
              · refine lv_iconst (v := nI 0) hx hb zdM_readCodes_47 (by decide) ?_
                refine lv_istore (lv' := [(4, .int (nI 0)), (3, .int (nI 0)), (2, .int (nI 0)), (0, .ref y0), (1, .int (nI j))]) hx hb zdM_readCodes_48 hl (Nat.le_of_ble_eq_true rfl) rfl (fun ls hl => ?_)
                have L50 : ∀ (N : Nat) (i : Nat) (kk : Nat) (h3 : Nat → Int32) (c3 : Nat → Int32) (H : Heap) (locs : List Loc) (ls : Array Slot), nn + 1 - i < N → (i ≤ nn + 1) → (kk = si_cn i (fun k => !si_db fd j k)) → (∀ x, x < i → si_db fd j x = false → h3 (si_cn x (fun k => !si_db fd j k)) = g2 x) → (∀ x, x < nn + 1 → (si_rp (si_db fd) (nn + 1) j x < i ∧ si_db fd j (si_rp (si_db fd) (nn + 1) j x) = false) → c3 x = nI (si_rc (si_db fd) (nn + 1) (j + 1) x)) → (∀ x, x < nn + 1 → ¬ (si_rp (si_db fd) (nn + 1) j x < i ∧ si_db fd j (si_rp (si_db fd) (nn + 1) j x) = false) → c3 x = nI (si_rc (si_db fd) (nn + 1) j x)) → lv_has ls 5 [(0, .ref y0), (1, .int (nI j)), (2, .int (nI kk)), (3, .int (nI 0)), (4, .int (nI i))] → va_P g.1 vwCl [(y0, .inr (6, [.int zs, .ref mW, .ref mD, .int zt, .int zn, .ref mT, .int ze, .ref mP, .ref mR, .int za, .ref mA, .int (nI nn), .ref mK, .ref mO, .ref mB, .ref mI, .ref mN, .ref mH, .ref mC])), (mD, .inl (g.2.2, 23, .inr (.inl fd))), (mN, .inl (g.2.1, 61, .inl g2)), (mH, .inl (g.2.1, 61, .inl h3)), (mC, .inl (g.2.1, 61, .inl c3))] H → va_D A [(y0, .inr (6, [.int zs, .ref mW, .ref mD, .int zt, .int zn, .ref mT, .int ze, .ref mP, .ref mR, .int za, .ref mA, .int (nI nn), .ref mK, .ref mO, .ref mB, .ref mI, .ref mN, .ref mH, .ref mC])), (mD, .inl (g.2.2, 23, .inr (.inl fd))), (mN, .inl (g.2.1, 61, .inl g2)), (mH, .inl (g.2.1, 61, .inl h3)), (mC, .inl (g.2.1, 61, .inl c3))] → va_S A s.heap H locs → W p l e ({ frames := 0, cells := 0, slots := 0, locals := 0 } : Room) s m args below meth c H locs 0 0 Q (F0 m 50 ls []) := by
                  intro N
                  induction N with
                  | zero => intro i kk h3 c3 H locs ls hMs; exact absurd hMs (Nat.not_lt_zero _)
                  | succ N ih50 =>
                    intro i kk h3 c3 H locs ls hMs hi hkk hZ hCd hCu hl hP hD hS
                    refine lv_iload hx hb zdM_readCodes_50 (lv_at hl 4 rfl) ?_
                    refine lv_aload_n hx hb zdM_readCodes_52 rfl (lv_at hl 0 rfl) ?_
                    refine va_get (D := g.1) (ci := 6) (v := .int (nI nn)) (C := zRM) (T := zTM) (N := 19) hx hb hts ziM hown hK hP 0 rfl rfl 11 (by decide) (hts _ zlM_54) (fun _ h => h) rfl zdM_readCodes_53 ?_
                    refine si_icmp_gt (tgt := 128) hx hb zdM_readCodes_56 rfl (by omega) (by omega) (fun h56 => ?_) (fun h56 => ?_)
                    · refine lv_iinc (k := 3) (v := nI 1) (lv' := [(3, .int (nI 1)), (0, .ref y0), (1, .int (nI j)), (2, .int (nI kk)), (4, .int (nI i))]) hx hb zdM_readCodes_128 hl rfl (by decide) (Nat.le_of_ble_eq_true rfl) rfl (fun ls hl => ?_)
                      refine lv_goto (tgt := 42) hx hb zdM_readCodes_131 rfl ?_
                      refine lv_iload_n hx hb zdM_readCodes_42 rfl (lv_at hl 0 rfl) ?_
                      refine lv_iconst (v := nI 2) hx hb zdM_readCodes_43 (by decide) ?_
                      refine si_icmp_ge (tgt := 134) hx hb zdM_readCodes_44 rfl (by decide) (by decide) (fun h44 => ?_) (fun h44 => ?_)
                      · exact absurd h44 (by decide)
                      · refine lv_iconst (v := nI 0) hx hb zdM_readCodes_47 (by decide) ?_
                        refine lv_istore (lv' := [(4, .int (nI 0)), (3, .int (nI 1)), (0, .ref y0), (1, .int (nI j)), (2, .int (nI kk))]) hx hb zdM_readCodes_48 hl (Nat.le_of_ble_eq_true rfl) rfl (fun ls hl => ?_)
                        have L50_2 : ∀ (N : Nat) (i : Nat) (kk : Nat) (h4 : Nat → Int32) (c4 : Nat → Int32) (H : Heap) (locs : List Loc) (ls : Array Slot), nn + 1 - i < N → (i ≤ nn + 1) → (kk = si_cn (nn + 1) (fun k => !si_db fd j k) + si_cn i (si_db fd j)) → (∀ x, x < nn + 1 → si_db fd j x = false → h4 (si_cn x (fun k => !si_db fd j k)) = g2 x) → (∀ x, x < i → si_db fd j x = true → h4 (si_cn (nn + 1) (fun k => !si_db fd j k) + si_cn x (si_db fd j)) = g2 x) → (∀ x, x < nn + 1 → (si_db fd j (si_rp (si_db fd) (nn + 1) j x) = false ∨ si_rp (si_db fd) (nn + 1) j x < i) → c4 x = nI (si_rc (si_db fd) (nn + 1) (j + 1) x)) → (∀ x, x < nn + 1 → ¬ (si_db fd j (si_rp (si_db fd) (nn + 1) j x) = false ∨ si_rp (si_db fd) (nn + 1) j x < i) → c4 x = nI (si_rc (si_db fd) (nn + 1) j x)) → lv_has ls 5 [(0, .ref y0), (1, .int (nI j)), (2, .int (nI kk)), (3, .int (nI 1)), (4, .int (nI i))] → va_P g.1 vwCl [(y0, .inr (6, [.int zs, .ref mW, .ref mD, .int zt, .int zn, .ref mT, .int ze, .ref mP, .ref mR, .int za, .ref mA, .int (nI nn), .ref mK, .ref mO, .ref mB, .ref mI, .ref mN, .ref mH, .ref mC])), (mD, .inl (g.2.2, 23, .inr (.inl fd))), (mN, .inl (g.2.1, 61, .inl g2)), (mH, .inl (g.2.1, 61, .inl h4)), (mC, .inl (g.2.1, 61, .inl c4))] H → va_D A [(y0, .inr (6, [.int zs, .ref mW, .ref mD, .int zt, .int zn, .ref mT, .int ze, .ref mP, .ref mR, .int za, .ref mA, .int (nI nn), .ref mK, .ref mO, .ref mB, .ref mI, .ref mN, .ref mH, .ref mC])), (mD, .inl (g.2.2, 23, .inr (.inl fd))), (mN, .inl (g.2.1, 61, .inl g2)), (mH, .inl (g.2.1, 61, .inl h4)), (mC, .inl (g.2.1, 61, .inl c4))] → va_S A s.heap H locs → W p l e ({ frames := 0, cells := 0, slots := 0, locals := 0 } : Room) s m args below meth c H locs 0 0 Q (F0 m 50 ls []) := by
                          intro N
                          induction N with
                          | zero => intro i kk h4 c4 H locs ls hMs; exact absurd hMs (Nat.not_lt_zero _)
                          | succ N ih50_2 =>
                            intro i kk h4 c4 H locs ls hMs hi2 hkk2 hZ2 hO2 hCd2 hCu2 hl hP hD hS
                            refine lv_iload hx hb zdM_readCodes_50 (lv_at hl 4 rfl) ?_
                            refine lv_aload_n hx hb zdM_readCodes_52 rfl (lv_at hl 0 rfl) ?_
                            refine va_get (D := g.1) (ci := 6) (v := .int (nI nn)) (C := zRM) (T := zTM) (N := 19) hx hb hts ziM hown hK hP 0 rfl rfl 11 (by decide) (hts _ zlM_54) (fun _ h => h) rfl zdM_readCodes_53 ?_
                            refine si_icmp_gt (tgt := 128) hx hb zdM_readCodes_56 rfl (by omega) (by omega) (fun h56 => ?_) (fun h56 => ?_)
                            · refine lv_iinc (k := 3) (v := nI 2) (lv' := [(3, .int (nI 2)), (0, .ref y0), (1, .int (nI j)), (2, .int (nI kk)), (4, .int (nI i))]) hx hb zdM_readCodes_128 hl rfl (by decide) (Nat.le_of_ble_eq_true rfl) rfl (fun ls hl => ?_)
                              refine lv_goto (tgt := 42) hx hb zdM_readCodes_131 rfl ?_
                              refine lv_iload_n hx hb zdM_readCodes_42 rfl (lv_at hl 0 rfl) ?_
                              refine lv_iconst (v := nI 2) hx hb zdM_readCodes_43 (by decide) ?_
                              refine si_icmp_ge (tgt := 134) hx hb zdM_readCodes_44 rfl (by decide) (by decide) (fun h44 => ?_) (fun h44 => ?_)
                              · have hfin := si_qE hZ2 (fun x hx => hO2 x (by omega))
                                have hcd3 : ∀ x, x < nn + 1 → c4 x = nI (si_rc (si_db fd) (nn + 1) (j + 1) x) := fun x hx => hCd2 x hx (Or.inr (by have := (si_rp_bij (si_db fd) (nn + 1) j).1 x hx; omega))
                                refine lv_iconst (v := nI 0) hx hb zdM_readCodes_134 (by decide) ?_
                                refine lv_istore_n (lv' := [(3, .int (nI 0)), (0, .ref y0), (1, .int (nI j)), (2, .int (nI kk)), (4, .int (nI i))]) hx hb zdM_readCodes_135 rfl hl (Nat.le_of_ble_eq_true rfl) rfl (fun ls hl => ?_)
                                have L136 : ∀ (N : Nat) (q : Nat) (g5 : Nat → Int32) (H : Heap) (locs : List Loc) (ls : Array Slot), nn + 1 - q < N → (q ≤ nn + 1) → (∀ x, x < q → g5 x = h4 x) → lv_has ls 5 [(0, .ref y0), (1, .int (nI j)), (3, .int (nI q))] → va_P g.1 vwCl [(y0, .inr (6, [.int zs, .ref mW, .ref mD, .int zt, .int zn, .ref mT, .int ze, .ref mP, .ref mR, .int za, .ref mA, .int (nI nn), .ref mK, .ref mO, .ref mB, .ref mI, .ref mN, .ref mH, .ref mC])), (mD, .inl (g.2.2, 23, .inr (.inl fd))), (mN, .inl (g.2.1, 61, .inl g5)), (mH, .inl (g.2.1, 61, .inl h4)), (mC, .inl (g.2.1, 61, .inl c4))] H → va_D A [(y0, .inr (6, [.int zs, .ref mW, .ref mD, .int zt, .int zn, .ref mT, .int ze, .ref mP, .ref mR, .int za, .ref mA, .int (nI nn), .ref mK, .ref mO, .ref mB, .ref mI, .ref mN, .ref mH, .ref mC])), (mD, .inl (g.2.2, 23, .inr (.inl fd))), (mN, .inl (g.2.1, 61, .inl g5)), (mH, .inl (g.2.1, 61, .inl h4)), (mC, .inl (g.2.1, 61, .inl c4))] → va_S A s.heap H locs → W p l e ({ frames := 0, cells := 0, slots := 0, locals := 0 } : Room) s m args below meth c H locs 0 0 Q (F0 m 136 ls []) := by
                                  intro N
                                  induction N with
                                  | zero => intro q g5 H locs ls hMs; exact absurd hMs (Nat.not_lt_zero _)
                                  | succ N ih136 =>
                                    intro q g5 H locs ls hMs hq hcp0 hl hP hD hS
                                    refine lv_iload_n hx hb zdM_readCodes_136 rfl (lv_at hl 2 rfl) ?_
                                    refine lv_aload_n hx hb zdM_readCodes_137 rfl (lv_at hl 0 rfl) ?_
                                    refine va_get (D := g.1) (ci := 6) (v := .int (nI nn)) (C := zRM) (T := zTM) (N := 19) hx hb hts ziM hown hK hP 0 rfl rfl 11 (by decide) (hts _ zlM_54) (fun _ h => h) rfl zdM_readCodes_138 ?_
                                    refine si_icmp_gt (tgt := 162) hx hb zdM_readCodes_141 rfl (by omega) (by omega) (fun h141 => ?_) (fun h141 => ?_)
                                    · have hcp : ∀ x, x < nn + 1 → g5 x = h4 x := fun x hx => hcp0 x (by omega)
                                      refine lv_iinc (k := 1) (v := nI (j + 1)) (lv' := [(1, .int (nI (j + 1))), (0, .ref y0), (3, .int (nI q))]) hx hb zdM_readCodes_162 hl rfl (si_inc _) (Nat.le_of_ble_eq_true rfl) rfl (fun ls hl => ?_)
                                      refine lv_goto (tgt := 32) hx hb zdM_readCodes_165 rfl ?_
                                      exact ih32 (j + 1) g5 h4 c4 _ _ _ (by omega) (by omega) (fun x hx => by have h9 := (si_rp_bij (si_db fd) (nn + 1) j).1 x hx; rw [si_rp_s, hcp _ ((si_ps_bij _ _).1 _ h9), hfin _ h9, hN2 x hx]) (hcd3) (lv_sub hl [1, 0] rfl) (hP.sub [0, 1, 2, 3, 4] rfl) (hD.sub [0, 1, 2, 3, 4] (by decide) rfl) hS
                                    · refine lv_aload_n hx hb zdM_readCodes_144 rfl (lv_at hl 0 rfl) ?_
                                      refine va_get (D := g.1) (ci := 6) (v := .ref mN) (C := zRM) (T := zTM) (N := 19) hx hb hts ziM hown hK hP 0 rfl rfl 16 (by decide) (hts _ zlM_41) (fun _ h => h) rfl zdM_readCodes_145 ?_
                                      refine lv_iload_n hx hb zdM_readCodes_148 rfl (lv_at hl 2 rfl) ?_
                                      refine lv_aload_n hx hb zdM_readCodes_149 rfl (lv_at hl 0 rfl) ?_
                                      refine va_get (D := g.1) (ci := 6) (v := .ref mH) (C := zRM) (T := zTM) (N := 19) hx hb hts ziM hown hK hP 0 rfl rfl 17 (by decide) (hts _ zlM_44) (fun _ h => h) rfl zdM_readCodes_150 ?_
                                      refine lv_iload_n hx hb zdM_readCodes_153 rfl (lv_at hl 2 rfl) ?_
                                      refine si_iald (v := h4 q) hx hb hK hP 3 0 rfl rfl (by decide) (by omega) (rfl) zdM_readCodes_154 ?_
                                      refine si_iast hx hb hK hP hD hS 2 0 rfl rfl (by decide) (by omega) zdM_readCodes_155 (fun H locs hP hD hS => ?_)
                                      have hP : va_P g.1 vwCl [(y0, .inr (6, [.int zs, .ref mW, .ref mD, .int zt, .int zn, .ref mT, .int ze, .ref mP, .ref mR, .int za, .ref mA, .int (nI nn), .ref mK, .ref mO, .ref mB, .ref mI, .ref mN, .ref mH, .ref mC])), (mD, .inl (g.2.2, 23, .inr (.inl fd))), (mN, .inl (g.2.1, 61, .inl (upd g5 q (h4 q)))), (mH, .inl (g.2.1, 61, .inl h4)), (mC, .inl (g.2.1, 61, .inl c4))] H := hP
                                      have hD : va_D A [(y0, .inr (6, [.int zs, .ref mW, .ref mD, .int zt, .int zn, .ref mT, .int ze, .ref mP, .ref mR, .int za, .ref mA, .int (nI nn), .ref mK, .ref mO, .ref mB, .ref mI, .ref mN, .ref mH, .ref mC])), (mD, .inl (g.2.2, 23, .inr (.inl fd))), (mN, .inl (g.2.1, 61, .inl (upd g5 q (h4 q)))), (mH, .inl (g.2.1, 61, .inl h4)), (mC, .inl (g.2.1, 61, .inl c4))] := hD
                                      refine lv_iinc (k := 2) (v := nI (q + 1)) (lv' := [(3, .int (nI (q + 1))), (0, .ref y0), (1, .int (nI j))]) hx hb zdM_readCodes_156 hl rfl (si_inc _) (Nat.le_of_ble_eq_true rfl) rfl (fun ls hl => ?_)
                                      refine lv_goto (tgt := 136) hx hb zdM_readCodes_159 rfl ?_
                                      exact ih136 (q + 1) (upd g5 q (h4 q)) _ _ _ (by omega) (by omega) (si_up hcp0 rfl) (lv_sub hl [1, 2, 0] rfl) (hP.sub [0, 1, 2, 3, 4] rfl) (hD.sub [0, 1, 2, 3, 4] (by decide) rfl) hS
                                exact L136 (nn + 1 - 0 + 1) 0 g2 _ _ _ (by omega) (by omega) (fun x hx => absurd hx (Nat.not_lt_zero _)) (lv_sub hl [1, 2, 0] rfl) (hP.sub [0, 1, 2, 3, 4] rfl) (hD.sub [0, 1, 2, 3, 4] (by decide) rfl) hS
                              · exact absurd h44 (by decide)
                            · have hxi := si_iv_ok (si_rp_bij (si_db fd) (nn + 1) j) (show i < nn + 1 by omega)
                              refine lv_aload_n hx hb zdM_readCodes_59 rfl (lv_at hl 0 rfl) ?_
                              refine va_get (D := g.1) (ci := 6) (v := .ref mD) (C := zRM) (T := zTM) (N := 19) hx hb hts ziM hown hK hP 0 rfl rfl 2 (by decide) (hts _ zlM_13) (fun _ h => h) rfl zdM_readCodes_60 ?_
                              refine lv_iconst (v := nI 1) hx hb zdM_readCodes_63 (by decide) ?_
                              refine lv_iload_n hx hb zdM_readCodes_64 rfl (lv_at hl 1 rfl) ?_
                              refine si_iadd (v := nI (1 + j)) hx hb zdM_readCodes_65 (nI_add _ _) ?_
                              refine si_lald (v := fd (1 + j)) hx hb hK hP 1 1 rfl rfl (by decide) (by omega) (rfl) zdM_readCodes_66 ?_
                              refine lv_iload hx hb zdM_readCodes_67 (lv_at hl 4 rfl) ?_
                              refine lv_lshr (v := (fd (1 + j)) >>> ((nI i).toInt64 &&& 63)) hx hb zdM_readCodes_69 (rfl) ?_
                              refine lv_lconst (v := 1) hx hb zdM_readCodes_70 (by decide) ?_
                              refine si_land (v := if si_bi (fd (1 + j)) i = true then 1 else 0) hx hb zdM_readCodes_71 (si_ssh _ (by omega)) ?_
                              refine lv_iload_n hx hb zdM_readCodes_72 rfl (lv_at hl 3 rfl) ?_
                              refine lv_i2l (v := lN 1) hx hb zdM_readCodes_73 (nI_l (by omega)) ?_
                              refine W.lcmp hx hb zdM_readCodes_74 ?_
                              refine lv_if_ne (tgt := 122) hx hb zdM_readCodes_75 rfl (fun h75 => ?_) (fun h75 => ?_)
                              · have hbf : si_db fd j i = false := si_nt (fun z => h75 ((si_bz1 _).mpr z))
                                refine lv_iinc (k := 4) (v := nI (i + 1)) (lv' := [(4, .int (nI (i + 1))), (0, .ref y0), (1, .int (nI j)), (2, .int (nI kk)), (3, .int (nI 1))]) hx hb zdM_readCodes_122 hl rfl (si_inc _) (Nat.le_of_ble_eq_true rfl) rfl (fun ls hl => ?_)
                                refine lv_goto (tgt := 50) hx hb zdM_readCodes_125 rfl ?_
                                exact ih50_2 (i + 1) kk h4 c4 _ _ _ (by omega) (by omega) (by first | (rw [si_cn_t hbt, hkk2]; rfl) | (rw [si_cn_f hbf, hkk2]; done)) (by first | exact hZ2 | exact si_qK hkk2 hZ2) (by first | exact si_qO hkk2 hO2 | exact si_poS (v := false) hbf hO2) (by first | exact si_rvD (b := si_db fd) (by omega) hCd2 (fun x hx h9 => by by_cases e9 : si_rp (si_db fd) (nn + 1) j x = i <;> first | exact Or.inr e9 | exact Or.inl (h9.elim Or.inl (fun z9 => Or.inr (by omega)))) (by rw [hbt]; rfl) | exact fun x hx h9 => hCd2 x hx (h9.elim Or.inl (fun z9 => by by_cases e9 : si_rp (si_db fd) (nn + 1) j x = i <;> first | (exact Or.inl (by rw [e9]; exact hbf)) | exact Or.inr (by omega)))) (by first | exact si_rvU (b := si_db fd) (by omega) hCu2 (fun x hx h9 => ⟨fun z9 => h9 (z9.elim Or.inl (fun y9 => Or.inr (by omega))), fun e9 => h9 (Or.inr (by omega))⟩) | exact fun x hx h9 => hCu2 x hx (fun z9 => h9 (z9.elim Or.inl (fun y9 => Or.inr (by omega))))) (lv_sub hl [1, 2, 3, 4, 0] rfl) (hP.sub [0, 1, 2, 3, 4] rfl) (hD.sub [0, 1, 2, 3, 4] (by decide) rfl) hS
                              · have hbt : si_db fd j i = true := (si_bz1 _).mp h75
                                have hkl : kk < nn + 1 := by
                                  have z1 := si_cn_ups (b := nn + 1) (show i < nn + 1 by omega) hbt
                                  have z2 := si_cn_not (nn + 1) (si_db fd j)
                                  omega
                                refine lv_aload_n hx hb zdM_readCodes_78 rfl (lv_at hl 0 rfl) ?_
                                refine va_get (D := g.1) (ci := 6) (v := .ref mC) (C := zRM) (T := zTM) (N := 19) hx hb hts ziM hown hK hP 0 rfl rfl 18 (by decide) (hts _ zlM_47) (fun _ h => h) rfl zdM_readCodes_79 ?_
                                refine lv_aload_n hx hb zdM_readCodes_82 rfl (lv_at hl 0 rfl) ?_
                                refine va_get (D := g.1) (ci := 6) (v := .ref mN) (C := zRM) (T := zTM) (N := 19) hx hb hts ziM hown hK hP 0 rfl rfl 16 (by decide) (hts _ zlM_41) (fun _ h => h) rfl zdM_readCodes_83 ?_
                                refine lv_iload hx hb zdM_readCodes_86 (lv_at hl 4 rfl) ?_
                                refine si_iald (v := nI (si_iv (nn + 1) (si_rp (si_db fd) (nn + 1) j) i)) hx hb hK hP 2 0 rfl rfl (by decide) (by omega) (si_ivv (si_rp_bij (si_db fd) (nn + 1) j) hN2 (by omega)) zdM_readCodes_88 ?_
                                refine lv_iconst (v := nI 2) hx hb zdM_readCodes_89 (by decide) ?_
                                refine lv_aload_n hx hb zdM_readCodes_90 rfl (lv_at hl 0 rfl) ?_
                                refine va_get (D := g.1) (ci := 6) (v := .ref mC) (C := zRM) (T := zTM) (N := 19) hx hb hts ziM hown hK hP 0 rfl rfl 18 (by decide) (hts _ zlM_47) (fun _ h => h) rfl zdM_readCodes_91 ?_
                                refine lv_aload_n hx hb zdM_readCodes_94 rfl (lv_at hl 0 rfl) ?_
                                refine va_get (D := g.1) (ci := 6) (v := .ref mN) (C := zRM) (T := zTM) (N := 19) hx hb hts ziM hown hK hP 0 rfl rfl 16 (by decide) (hts _ zlM_41) (fun _ h => h) rfl zdM_readCodes_95 ?_
                                refine lv_iload hx hb zdM_readCodes_98 (lv_at hl 4 rfl) ?_
                                refine si_iald (v := nI (si_iv (nn + 1) (si_rp (si_db fd) (nn + 1) j) i)) hx hb hK hP 2 0 rfl rfl (by decide) (by omega) (si_ivv (si_rp_bij (si_db fd) (nn + 1) j) hN2 (by omega)) zdM_readCodes_100 ?_
                                refine si_iald (v := nI (si_rc (si_db fd) (nn + 1) j (si_iv (nn + 1) (si_rp (si_db fd) (nn + 1) j) i))) hx hb hK hP 4 0 rfl rfl (by decide) (by omega) (hCu2 _ hxi.1 (fun z9 => by rw [hxi.2] at z9; rcases z9 with z9 | z9 <;> first | (rw [hbt] at z9; exact absurd z9 (by decide)) | omega)) zdM_readCodes_101 ?_
                                refine si_imul (v := nI (2 * (si_rc (si_db fd) (nn + 1) j (si_iv (nn + 1) (si_rp (si_db fd) (nn + 1) j) i)))) hx hb zdM_readCodes_102 (pk_mul _ _) ?_
                                refine lv_iload_n hx hb zdM_readCodes_103 rfl (lv_at hl 3 rfl) ?_
                                refine si_iadd (v := nI (2 * (si_rc (si_db fd) (nn + 1) j (si_iv (nn + 1) (si_rp (si_db fd) (nn + 1) j) i)) + 1)) hx hb zdM_readCodes_104 (nI_add _ _) ?_
                                refine si_iast hx hb hK hP hD hS 4 0 rfl rfl (by decide) (by omega) zdM_readCodes_105 (fun H locs hP hD hS => ?_)
                                have hP : va_P g.1 vwCl [(y0, .inr (6, [.int zs, .ref mW, .ref mD, .int zt, .int zn, .ref mT, .int ze, .ref mP, .ref mR, .int za, .ref mA, .int (nI nn), .ref mK, .ref mO, .ref mB, .ref mI, .ref mN, .ref mH, .ref mC])), (mD, .inl (g.2.2, 23, .inr (.inl fd))), (mN, .inl (g.2.1, 61, .inl g2)), (mH, .inl (g.2.1, 61, .inl h4)), (mC, .inl (g.2.1, 61, .inl (upd c4 (si_iv (nn + 1) (si_rp (si_db fd) (nn + 1) j) i) (nI (2 * (si_rc (si_db fd) (nn + 1) j (si_iv (nn + 1) (si_rp (si_db fd) (nn + 1) j) i)) + 1)))))] H := hP
                                have hD : va_D A [(y0, .inr (6, [.int zs, .ref mW, .ref mD, .int zt, .int zn, .ref mT, .int ze, .ref mP, .ref mR, .int za, .ref mA, .int (nI nn), .ref mK, .ref mO, .ref mB, .ref mI, .ref mN, .ref mH, .ref mC])), (mD, .inl (g.2.2, 23, .inr (.inl fd))), (mN, .inl (g.2.1, 61, .inl g2)), (mH, .inl (g.2.1, 61, .inl h4)), (mC, .inl (g.2.1, 61, .inl (upd c4 (si_iv (nn + 1) (si_rp (si_db fd) (nn + 1) j) i) (nI (2 * (si_rc (si_db fd) (nn + 1) j (si_iv (nn + 1) (si_rp (si_db fd) (nn + 1) j) i)) + 1)))))] := hD
                                refine lv_aload_n hx hb zdM_readCodes_106 rfl (lv_at hl 0 rfl) ?_
                                refine va_get (D := g.1) (ci := 6) (v := .ref mH) (C := zRM) (T := zTM) (N := 19) hx hb hts ziM hown hK hP 0 rfl rfl 17 (by decide) (hts _ zlM_44) (fun _ h => h) rfl zdM_readCodes_107 ?_
                                refine lv_iload_n hx hb zdM_readCodes_110 rfl (lv_at hl 2 rfl) ?_
                                refine lv_aload_n hx hb zdM_readCodes_111 rfl (lv_at hl 0 rfl) ?_
                                refine va_get (D := g.1) (ci := 6) (v := .ref mN) (C := zRM) (T := zTM) (N := 19) hx hb hts ziM hown hK hP 0 rfl rfl 16 (by decide) (hts _ zlM_41) (fun _ h => h) rfl zdM_readCodes_112 ?_
                                refine lv_iload hx hb zdM_readCodes_115 (lv_at hl 4 rfl) ?_
                                refine si_iald (v := g2 i) hx hb hK hP 2 0 rfl rfl (by decide) (by omega) (rfl) zdM_readCodes_117 ?_
                                refine si_iast hx hb hK hP hD hS 3 0 rfl rfl (by decide) (by omega) zdM_readCodes_118 (fun H locs hP hD hS => ?_)
                                have hP : va_P g.1 vwCl [(y0, .inr (6, [.int zs, .ref mW, .ref mD, .int zt, .int zn, .ref mT, .int ze, .ref mP, .ref mR, .int za, .ref mA, .int (nI nn), .ref mK, .ref mO, .ref mB, .ref mI, .ref mN, .ref mH, .ref mC])), (mD, .inl (g.2.2, 23, .inr (.inl fd))), (mN, .inl (g.2.1, 61, .inl g2)), (mH, .inl (g.2.1, 61, .inl (upd h4 kk (g2 i)))), (mC, .inl (g.2.1, 61, .inl (upd c4 (si_iv (nn + 1) (si_rp (si_db fd) (nn + 1) j) i) (nI (2 * (si_rc (si_db fd) (nn + 1) j (si_iv (nn + 1) (si_rp (si_db fd) (nn + 1) j) i)) + 1)))))] H := hP
                                have hD : va_D A [(y0, .inr (6, [.int zs, .ref mW, .ref mD, .int zt, .int zn, .ref mT, .int ze, .ref mP, .ref mR, .int za, .ref mA, .int (nI nn), .ref mK, .ref mO, .ref mB, .ref mI, .ref mN, .ref mH, .ref mC])), (mD, .inl (g.2.2, 23, .inr (.inl fd))), (mN, .inl (g.2.1, 61, .inl g2)), (mH, .inl (g.2.1, 61, .inl (upd h4 kk (g2 i)))), (mC, .inl (g.2.1, 61, .inl (upd c4 (si_iv (nn + 1) (si_rp (si_db fd) (nn + 1) j) i) (nI (2 * (si_rc (si_db fd) (nn + 1) j (si_iv (nn + 1) (si_rp (si_db fd) (nn + 1) j) i)) + 1)))))] := hD
                                refine lv_iinc (k := 2) (v := nI (kk + 1)) (lv' := [(2, .int (nI (kk + 1))), (0, .ref y0), (1, .int (nI j)), (3, .int (nI 1)), (4, .int (nI i))]) hx hb zdM_readCodes_119 hl rfl (si_inc _) (Nat.le_of_ble_eq_true rfl) rfl (fun ls hl => ?_)
                                refine lv_iinc (k := 4) (v := nI (i + 1)) (lv' := [(4, .int (nI (i + 1))), (2, .int (nI (kk + 1))), (0, .ref y0), (1, .int (nI j)), (3, .int (nI 1))]) hx hb zdM_readCodes_122 hl rfl (si_inc _) (Nat.le_of_ble_eq_true rfl) rfl (fun ls hl => ?_)
                                refine lv_goto (tgt := 50) hx hb zdM_readCodes_125 rfl ?_
                                exact ih50_2 (i + 1) (kk + 1) (upd h4 kk (g2 i)) (upd c4 (si_iv (nn + 1) (si_rp (si_db fd) (nn + 1) j) i) (nI (2 * (si_rc (si_db fd) (nn + 1) j (si_iv (nn + 1) (si_rp (si_db fd) (nn + 1) j) i)) + 1))) _ _ _ (by omega) (by omega) (by first | (rw [si_cn_t hbt, hkk2]; rfl) | (rw [si_cn_f hbf, hkk2]; done)) (by first | exact hZ2 | exact si_qK hkk2 hZ2) (by first | exact si_qO hkk2 hO2 | exact si_poS (v := false) hbf hO2) (by first | exact si_rvD (b := si_db fd) (by omega) hCd2 (fun x hx h9 => by by_cases e9 : si_rp (si_db fd) (nn + 1) j x = i <;> first | exact Or.inr e9 | exact Or.inl (h9.elim Or.inl (fun z9 => Or.inr (by omega)))) (by rw [hbt]; rfl) | exact fun x hx h9 => hCd2 x hx (h9.elim Or.inl (fun z9 => by by_cases e9 : si_rp (si_db fd) (nn + 1) j x = i <;> first | (exact Or.inl (by rw [e9]; exact hbf)) | exact Or.inr (by omega)))) (by first | exact si_rvU (b := si_db fd) (by omega) hCu2 (fun x hx h9 => ⟨fun z9 => h9 (z9.elim Or.inl (fun y9 => Or.inr (by omega))), fun e9 => h9 (Or.inr (by omega))⟩) | exact fun x hx h9 => hCu2 x hx (fun z9 => h9 (z9.elim Or.inl (fun y9 => Or.inr (by omega))))) (lv_sub hl [2, 3, 1, 4, 0] rfl) (hP.sub [0, 1, 2, 3, 4] rfl) (hD.sub [0, 1, 2, 3, 4] (by decide) rfl) hS
                        exact L50_2 (nn + 1 - 0 + 1) 0 kk h3 c3 _ _ _ (by omega) (by omega) (by rw [hkk, show i = nn + 1 by omega]; rfl) (fun x hx => hZ x (by omega)) (fun x hx => absurd hx (Nat.not_lt_zero _)) (fun x hx h9 => hCd x hx ⟨by have := (si_rp_bij (si_db fd) (nn + 1) j).1 x hx; omega, h9.elim id (fun z9 => absurd z9 (Nat.not_lt_zero _))⟩) (fun x hx h9 => hCu x hx (fun z9 => h9 (Or.inl z9.2))) (lv_sub hl [2, 3, 4, 1, 0] rfl) (hP.sub [0, 1, 2, 3, 4] rfl) (hD.sub [0, 1, 2, 3, 4] (by decide) rfl) hS
                    · have hxi := si_iv_ok (si_rp_bij (si_db fd) (nn + 1) j) (show i < nn + 1 by omega)
                      refine lv_aload_n hx hb zdM_readCodes_59 rfl (lv_at hl 0 rfl) ?_
                      refine va_get (D := g.1) (ci := 6) (v := .ref mD) (C := zRM) (T := zTM) (N := 19) hx hb hts ziM hown hK hP 0 rfl rfl 2 (by decide) (hts _ zlM_13) (fun _ h => h) rfl zdM_readCodes_60 ?_
                      refine lv_iconst (v := nI 1) hx hb zdM_readCodes_63 (by decide) ?_
                      refine lv_iload_n hx hb zdM_readCodes_64 rfl (lv_at hl 1 rfl) ?_
                      refine si_iadd (v := nI (1 + j)) hx hb zdM_readCodes_65 (nI_add _ _) ?_
                      refine si_lald (v := fd (1 + j)) hx hb hK hP 1 1 rfl rfl (by decide) (by omega) (rfl) zdM_readCodes_66 ?_
                      refine lv_iload hx hb zdM_readCodes_67 (lv_at hl 4 rfl) ?_
                      refine lv_lshr (v := (fd (1 + j)) >>> ((nI i).toInt64 &&& 63)) hx hb zdM_readCodes_69 (rfl) ?_
                      refine lv_lconst (v := 1) hx hb zdM_readCodes_70 (by decide) ?_
                      refine si_land (v := if si_bi (fd (1 + j)) i = true then 1 else 0) hx hb zdM_readCodes_71 (si_ssh _ (by omega)) ?_
                      refine lv_iload_n hx hb zdM_readCodes_72 rfl (lv_at hl 3 rfl) ?_
                      refine lv_i2l (v := lN 0) hx hb zdM_readCodes_73 (nI_l (by omega)) ?_
                      refine W.lcmp hx hb zdM_readCodes_74 ?_
                      refine lv_if_ne (tgt := 122) hx hb zdM_readCodes_75 rfl (fun h75 => ?_) (fun h75 => ?_)
                      · have hbt : si_db fd j i = true := si_nf (fun z => h75 ((si_bz _).mpr z))
                        refine lv_iinc (k := 4) (v := nI (i + 1)) (lv' := [(4, .int (nI (i + 1))), (0, .ref y0), (1, .int (nI j)), (2, .int (nI kk)), (3, .int (nI 0))]) hx hb zdM_readCodes_122 hl rfl (si_inc _) (Nat.le_of_ble_eq_true rfl) rfl (fun ls hl => ?_)
                        refine lv_goto (tgt := 50) hx hb zdM_readCodes_125 rfl ?_
                        exact ih50 (i + 1) kk h3 c3 _ _ _ (by omega) (by omega) (by first | (rw [si_cn_t (P := (fun k => !si_db fd j k)) (by simp [hbf]), hkk]; done) | (rw [si_cn_f (P := (fun k => !si_db fd j k)) (by simp [hbt]), hkk]; done)) (by first | exact si_qZ hkk hZ | exact si_poS (v := true) hbt hZ) (by first | exact si_rvD (b := si_db fd) (by omega) hCd (fun x hx h9 => by by_cases e9 : si_rp (si_db fd) (nn + 1) j x = i <;> first | exact Or.inr e9 | exact Or.inl ⟨by omega, h9.2⟩) (by rw [hbf]; rfl) | exact fun x hx h9 => hCd x hx ⟨by by_cases e9 : si_rp (si_db fd) (nn + 1) j x = i <;> first | (rw [e9, hbt] at h9; exact absurd h9.2 (by decide)) | omega, h9.2⟩) (by first | exact si_rvU (b := si_db fd) (by omega) hCu (fun x hx h9 => ⟨fun z9 => h9 ⟨by omega, z9.2⟩, fun e9 => h9 ⟨by omega, by rw [e9]; exact hbf⟩⟩) | exact fun x hx h9 => hCu x hx (fun z9 => h9 ⟨by omega, z9.2⟩)) (lv_sub hl [1, 2, 3, 4, 0] rfl) (hP.sub [0, 1, 2, 3, 4] rfl) (hD.sub [0, 1, 2, 3, 4] (by decide) rfl) hS
                      · have hbf : si_db fd j i = false := (si_bz _).mp h75
                        have hkl : kk ≤ i := by rw [hkk]; exact si_cn_le _ _
                        refine lv_aload_n hx hb zdM_readCodes_78 rfl (lv_at hl 0 rfl) ?_
                        refine va_get (D := g.1) (ci := 6) (v := .ref mC) (C := zRM) (T := zTM) (N := 19) hx hb hts ziM hown hK hP 0 rfl rfl 18 (by decide) (hts _ zlM_47) (fun _ h => h) rfl zdM_readCodes_79 ?_
                        refine lv_aload_n hx hb zdM_readCodes_82 rfl (lv_at hl 0 rfl) ?_
                        refine va_get (D := g.1) (ci := 6) (v := .ref mN) (C := zRM) (T := zTM) (N := 19) hx hb hts ziM hown hK hP 0 rfl rfl 16 (by decide) (hts _ zlM_41) (fun _ h => h) rfl zdM_readCodes_83 ?_
                        refine lv_iload hx hb zdM_readCodes_86 (lv_at hl 4 rfl) ?_
                        refine si_iald (v := nI (si_iv (nn + 1) (si_rp (si_db fd) (nn + 1) j) i)) hx hb hK hP 2 0 rfl rfl (by decide) (by omega) (si_ivv (si_rp_bij (si_db fd) (nn + 1) j) hN2 (by omega)) zdM_readCodes_88 ?_
                        refine lv_iconst (v := nI 2) hx hb zdM_readCodes_89 (by decide) ?_
                        refine lv_aload_n hx hb zdM_readCodes_90 rfl (lv_at hl 0 rfl) ?_
                        refine va_get (D := g.1) (ci := 6) (v := .ref mC) (C := zRM) (T := zTM) (N := 19) hx hb hts ziM hown hK hP 0 rfl rfl 18 (by decide) (hts _ zlM_47) (fun _ h => h) rfl zdM_readCodes_91 ?_
                        refine lv_aload_n hx hb zdM_readCodes_94 rfl (lv_at hl 0 rfl) ?_
                        refine va_get (D := g.1) (ci := 6) (v := .ref mN) (C := zRM) (T := zTM) (N := 19) hx hb hts ziM hown hK hP 0 rfl rfl 16 (by decide) (hts _ zlM_41) (fun _ h => h) rfl zdM_readCodes_95 ?_
                        refine lv_iload hx hb zdM_readCodes_98 (lv_at hl 4 rfl) ?_
                        refine si_iald (v := nI (si_iv (nn + 1) (si_rp (si_db fd) (nn + 1) j) i)) hx hb hK hP 2 0 rfl rfl (by decide) (by omega) (si_ivv (si_rp_bij (si_db fd) (nn + 1) j) hN2 (by omega)) zdM_readCodes_100 ?_
                        refine si_iald (v := nI (si_rc (si_db fd) (nn + 1) j (si_iv (nn + 1) (si_rp (si_db fd) (nn + 1) j) i))) hx hb hK hP 4 0 rfl rfl (by decide) (by omega) (hCu _ hxi.1 (fun z9 => by rw [hxi.2] at z9; omega)) zdM_readCodes_101 ?_
                        refine si_imul (v := nI (2 * (si_rc (si_db fd) (nn + 1) j (si_iv (nn + 1) (si_rp (si_db fd) (nn + 1) j) i)))) hx hb zdM_readCodes_102 (pk_mul _ _) ?_
                        refine lv_iload_n hx hb zdM_readCodes_103 rfl (lv_at hl 3 rfl) ?_
                        refine si_iadd (v := nI (2 * (si_rc (si_db fd) (nn + 1) j (si_iv (nn + 1) (si_rp (si_db fd) (nn + 1) j) i)) + 0)) hx hb zdM_readCodes_104 (nI_add _ _) ?_
                        refine si_iast hx hb hK hP hD hS 4 0 rfl rfl (by decide) (by omega) zdM_readCodes_105 (fun H locs hP hD hS => ?_)
                        have hP : va_P g.1 vwCl [(y0, .inr (6, [.int zs, .ref mW, .ref mD, .int zt, .int zn, .ref mT, .int ze, .ref mP, .ref mR, .int za, .ref mA, .int (nI nn), .ref mK, .ref mO, .ref mB, .ref mI, .ref mN, .ref mH, .ref mC])), (mD, .inl (g.2.2, 23, .inr (.inl fd))), (mN, .inl (g.2.1, 61, .inl g2)), (mH, .inl (g.2.1, 61, .inl h3)), (mC, .inl (g.2.1, 61, .inl (upd c3 (si_iv (nn + 1) (si_rp (si_db fd) (nn + 1) j) i) (nI (2 * (si_rc (si_db fd) (nn + 1) j (si_iv (nn + 1) (si_rp (si_db fd) (nn + 1) j) i)) + 0)))))] H := hP
                        have hD : va_D A [(y0, .inr (6, [.int zs, .ref mW, .ref mD, .int zt, .int zn, .ref mT, .int ze, .ref mP, .ref mR, .int za, .ref mA, .int (nI nn), .ref mK, .ref mO, .ref mB, .ref mI, .ref mN, .ref mH, .ref mC])), (mD, .inl (g.2.2, 23, .inr (.inl fd))), (mN, .inl (g.2.1, 61, .inl g2)), (mH, .inl (g.2.1, 61, .inl h3)), (mC, .inl (g.2.1, 61, .inl (upd c3 (si_iv (nn + 1) (si_rp (si_db fd) (nn + 1) j) i) (nI (2 * (si_rc (si_db fd) (nn + 1) j (si_iv (nn + 1) (si_rp (si_db fd) (nn + 1) j) i)) + 0)))))] := hD
                        refine lv_aload_n hx hb zdM_readCodes_106 rfl (lv_at hl 0 rfl) ?_
                        refine va_get (D := g.1) (ci := 6) (v := .ref mH) (C := zRM) (T := zTM) (N := 19) hx hb hts ziM hown hK hP 0 rfl rfl 17 (by decide) (hts _ zlM_44) (fun _ h => h) rfl zdM_readCodes_107 ?_
                        refine lv_iload_n hx hb zdM_readCodes_110 rfl (lv_at hl 2 rfl) ?_
                        refine lv_aload_n hx hb zdM_readCodes_111 rfl (lv_at hl 0 rfl) ?_
                        refine va_get (D := g.1) (ci := 6) (v := .ref mN) (C := zRM) (T := zTM) (N := 19) hx hb hts ziM hown hK hP 0 rfl rfl 16 (by decide) (hts _ zlM_41) (fun _ h => h) rfl zdM_readCodes_112 ?_
                        refine lv_iload hx hb zdM_readCodes_115 (lv_at hl 4 rfl) ?_
                        refine si_iald (v := g2 i) hx hb hK hP 2 0 rfl rfl (by decide) (by omega) (rfl) zdM_readCodes_117 ?_
                        refine si_iast hx hb hK hP hD hS 3 0 rfl rfl (by decide) (by omega) zdM_readCodes_118 (fun H locs hP hD hS => ?_)
                        have hP : va_P g.1 vwCl [(y0, .inr (6, [.int zs, .ref mW, .ref mD, .int zt, .int zn, .ref mT, .int ze, .ref mP, .ref mR, .int za, .ref mA, .int (nI nn), .ref mK, .ref mO, .ref mB, .ref mI, .ref mN, .ref mH, .ref mC])), (mD, .inl (g.2.2, 23, .inr (.inl fd))), (mN, .inl (g.2.1, 61, .inl g2)), (mH, .inl (g.2.1, 61, .inl (upd h3 kk (g2 i)))), (mC, .inl (g.2.1, 61, .inl (upd c3 (si_iv (nn + 1) (si_rp (si_db fd) (nn + 1) j) i) (nI (2 * (si_rc (si_db fd) (nn + 1) j (si_iv (nn + 1) (si_rp (si_db fd) (nn + 1) j) i)) + 0)))))] H := hP
                        have hD : va_D A [(y0, .inr (6, [.int zs, .ref mW, .ref mD, .int zt, .int zn, .ref mT, .int ze, .ref mP, .ref mR, .int za, .ref mA, .int (nI nn), .ref mK, .ref mO, .ref mB, .ref mI, .ref mN, .ref mH, .ref mC])), (mD, .inl (g.2.2, 23, .inr (.inl fd))), (mN, .inl (g.2.1, 61, .inl g2)), (mH, .inl (g.2.1, 61, .inl (upd h3 kk (g2 i)))), (mC, .inl (g.2.1, 61, .inl (upd c3 (si_iv (nn + 1) (si_rp (si_db fd) (nn + 1) j) i) (nI (2 * (si_rc (si_db fd) (nn + 1) j (si_iv (nn + 1) (si_rp (si_db fd) (nn + 1) j) i)) + 0)))))] := hD
                        refine lv_iinc (k := 2) (v := nI (kk + 1)) (lv' := [(2, .int (nI (kk + 1))), (0, .ref y0), (1, .int (nI j)), (3, .int (nI 0)), (4, .int (nI i))]) hx hb zdM_readCodes_119 hl rfl (si_inc _) (Nat.le_of_ble_eq_true rfl) rfl (fun ls hl => ?_)
                        refine lv_iinc (k := 4) (v := nI (i + 1)) (lv' := [(4, .int (nI (i + 1))), (2, .int (nI (kk + 1))), (0, .ref y0), (1, .int (nI j)), (3, .int (nI 0))]) hx hb zdM_readCodes_122 hl rfl (si_inc _) (Nat.le_of_ble_eq_true rfl) rfl (fun ls hl => ?_)
                        refine lv_goto (tgt := 50) hx hb zdM_readCodes_125 rfl ?_
                        exact ih50 (i + 1) (kk + 1) (upd h3 kk (g2 i)) (upd c3 (si_iv (nn + 1) (si_rp (si_db fd) (nn + 1) j) i) (nI (2 * (si_rc (si_db fd) (nn + 1) j (si_iv (nn + 1) (si_rp (si_db fd) (nn + 1) j) i)) + 0))) _ _ _ (by omega) (by omega) (by first | (rw [si_cn_t (P := (fun k => !si_db fd j k)) (by simp [hbf]), hkk]; done) | (rw [si_cn_f (P := (fun k => !si_db fd j k)) (by simp [hbt]), hkk]; done)) (by first | exact si_qZ hkk hZ | exact si_poS (v := true) hbt hZ) (by first | exact si_rvD (b := si_db fd) (by omega) hCd (fun x hx h9 => by by_cases e9 : si_rp (si_db fd) (nn + 1) j x = i <;> first | exact Or.inr e9 | exact Or.inl ⟨by omega, h9.2⟩) (by rw [hbf]; rfl) | exact fun x hx h9 => hCd x hx ⟨by by_cases e9 : si_rp (si_db fd) (nn + 1) j x = i <;> first | (rw [e9, hbt] at h9; exact absurd h9.2 (by decide)) | omega, h9.2⟩) (by first | exact si_rvU (b := si_db fd) (by omega) hCu (fun x hx h9 => ⟨fun z9 => h9 ⟨by omega, z9.2⟩, fun e9 => h9 ⟨by omega, by rw [e9]; exact hbf⟩⟩) | exact fun x hx h9 => hCu x hx (fun z9 => h9 ⟨by omega, z9.2⟩)) (lv_sub hl [2, 3, 1, 4, 0] rfl) (hP.sub [0, 1, 2, 3, 4] rfl) (hD.sub [0, 1, 2, 3, 4] (by decide) rfl) hS
                exact L50 (nn + 1 - 0 + 1) 0 0 h2 c2 _ _ _ (by omega) (by omega) (rfl) (fun x hx => absurd hx (Nat.not_lt_zero _)) (fun x hx h9 => absurd h9.1 (Nat.not_lt_zero _)) (fun x hx _ => hC x hx) (lv_sub hl [3, 4, 2, 1, 0] rfl) (hP.sub [0, 1, 2, 3, 4] rfl) (hD.sub [0, 1, 2, 3, 4] (by decide) rfl) hS
        exact L32 (7 - 0 + 1) 0 g1 fh c1 _ _ _ (by omega) (by omega) (fun x hx => hO x (by omega)) (fun x hx => hC0 x (by omega)) (lv_sub hl [1, 0] rfl) (hP.sub [0, 1, 2, 3, 4] rfl) (hD.sub [0, 1, 2, 3, 4] (by decide) rfl) hS
      · refine lv_aload_n hx hb zdM_readCodes_10 rfl (lv_at hl 0 rfl) ?_
        refine va_get (D := g.1) (ci := 6) (v := .ref mN) (C := zRM) (T := zTM) (N := 19) hx hb hts ziM hown hK hP 0 rfl rfl 16 (by decide) (hts _ zlM_41) (fun _ h => h) rfl zdM_readCodes_11 ?_
        refine lv_iload_n hx hb zdM_readCodes_14 rfl (lv_at hl 1 rfl) ?_
        refine lv_iload_n hx hb zdM_readCodes_15 rfl (lv_at hl 1 rfl) ?_
        refine si_iast hx hb hK hP hD hS 2 0 rfl rfl (by decide) (by omega) zdM_readCodes_16 (fun H locs hP hD hS => ?_)
        have hP : va_P g.1 vwCl [(y0, .inr (6, [.int zs, .ref mW, .ref mD, .int zt, .int zn, .ref mT, .int ze, .ref mP, .ref mR, .int za, .ref mA, .int (nI nn), .ref mK, .ref mO, .ref mB, .ref mI, .ref mN, .ref mH, .ref mC])), (mD, .inl (g.2.2, 23, .inr (.inl fd))), (mN, .inl (g.2.1, 61, .inl (upd g1 k (nI k)))), (mH, .inl (g.2.1, 61, .inl fh)), (mC, .inl (g.2.1, 61, .inl c1))] H := hP
        have hD : va_D A [(y0, .inr (6, [.int zs, .ref mW, .ref mD, .int zt, .int zn, .ref mT, .int ze, .ref mP, .ref mR, .int za, .ref mA, .int (nI nn), .ref mK, .ref mO, .ref mB, .ref mI, .ref mN, .ref mH, .ref mC])), (mD, .inl (g.2.2, 23, .inr (.inl fd))), (mN, .inl (g.2.1, 61, .inl (upd g1 k (nI k)))), (mH, .inl (g.2.1, 61, .inl fh)), (mC, .inl (g.2.1, 61, .inl c1))] := hD
        refine lv_aload_n hx hb zdM_readCodes_17 rfl (lv_at hl 0 rfl) ?_
        refine va_get (D := g.1) (ci := 6) (v := .ref mC) (C := zRM) (T := zTM) (N := 19) hx hb hts ziM hown hK hP 0 rfl rfl 18 (by decide) (hts _ zlM_47) (fun _ h => h) rfl zdM_readCodes_18 ?_
        refine lv_iload_n hx hb zdM_readCodes_21 rfl (lv_at hl 1 rfl) ?_
        refine lv_iconst (v := nI 0) hx hb zdM_readCodes_22 (by decide) ?_
        refine si_iast hx hb hK hP hD hS 4 0 rfl rfl (by decide) (by omega) zdM_readCodes_23 (fun H locs hP hD hS => ?_)
        have hP : va_P g.1 vwCl [(y0, .inr (6, [.int zs, .ref mW, .ref mD, .int zt, .int zn, .ref mT, .int ze, .ref mP, .ref mR, .int za, .ref mA, .int (nI nn), .ref mK, .ref mO, .ref mB, .ref mI, .ref mN, .ref mH, .ref mC])), (mD, .inl (g.2.2, 23, .inr (.inl fd))), (mN, .inl (g.2.1, 61, .inl (upd g1 k (nI k)))), (mH, .inl (g.2.1, 61, .inl fh)), (mC, .inl (g.2.1, 61, .inl (upd c1 k (nI 0))))] H := hP
        have hD : va_D A [(y0, .inr (6, [.int zs, .ref mW, .ref mD, .int zt, .int zn, .ref mT, .int ze, .ref mP, .ref mR, .int za, .ref mA, .int (nI nn), .ref mK, .ref mO, .ref mB, .ref mI, .ref mN, .ref mH, .ref mC])), (mD, .inl (g.2.2, 23, .inr (.inl fd))), (mN, .inl (g.2.1, 61, .inl (upd g1 k (nI k)))), (mH, .inl (g.2.1, 61, .inl fh)), (mC, .inl (g.2.1, 61, .inl (upd c1 k (nI 0))))] := hD
        refine lv_iinc (k := 1) (v := nI (k + 1)) (lv' := [(1, .int (nI (k + 1))), (0, .ref y0)]) hx hb zdM_readCodes_24 hl rfl (si_inc _) (Nat.le_of_ble_eq_true rfl) rfl (fun ls hl => ?_)
        refine lv_goto (tgt := 2) hx hb zdM_readCodes_27 rfl ?_
        exact ih2 (k + 1) (upd g1 k (nI k)) (upd c1 k (nI 0)) _ _ _ (by omega) (by omega) (si_up (F := fun x => nI x) hO rfl) (si_up (F := fun _ => nI 0) hC0 rfl) (lv_sub hl [1, 0] rfl) (hP.sub [0, 1, 2, 3, 4] rfl) (hD.sub [0, 1, 2, 3, 4] (by decide) rfl) hS
  exact L2 (nn + 1 - 0 + 1) 0 fn fc _ _ _ (by omega) (by omega) (fun x hx => absurd hx (Nat.not_lt_zero _)) (fun x hx => absurd hx (Nat.not_lt_zero _)) (lv_sub hl [1, 0] rfl) (hP.sub [0, 1, 2, 3, 4] rfl) (hD.sub [0, 1, 2, 3, 4] (by decide) rfl) hS

