/-! Contracts of the reference: load, writing, questions. Written by wip/draft/p25.py -/
theorem si_is_sh {f : Nat → Int64} {hd : Nat} (h : si_hd f hd) {v : List Nat} {k : Nat} (hv : si_is f v k) : lN hd >>> ((nI 8).toInt64 &&& 63) = lN k ∧ hd % 256 = v.length := by
  have h1 := si_is_hd h hv
  have l1 := hv.1.1
  have l2 := hv.2.2.1
  refine ⟨?_, by omega⟩
  rw [pf_shr (d := 8) (by decide) (by omega)]
  congr 1
  omega
theorem si_ml_no {f : Nat → Int64} {hd : Nat} (h : si_hd f hd) (h1 : si_isR (lN hd >>> ((nI 8).toInt64 &&& 63)) = false) : ∀ v k, ¬ si_is f v k := by
  intro v k hv
  rw [(si_is_sh h hv).1, si_isR_n hv.2.1 hv.2.2.1] at h1
  cases h1
theorem si_ml_is {f : Nat → Int64} {hd s0 : Nat} (h : si_hd f hd) (hs : s0 ≤ 16) (h1 : lN hd >>> ((nI 8).toInt64 &&& 63) = lN s0) {v : List Nat} {k : Nat} (hv : si_is f v k) : v.length = hd % 256 ∧ k = s0 ∧ ∀ x, x < hd % 256 + 1 → si_rc (si_db f) (hd % 256 + 1) 7 x = si_B v x := by
  have h2 := si_is_sh h hv
  have h3 := h2.1
  rw [h1] at h3
  have h4 := (pk_lEQ (a := s0) (b := k) (by omega) (by have := hv.2.2.1; omega)).mp h3
  refine ⟨h2.2.symm, h4.symm, fun x hx => ?_⟩
  rw [h2.2] at hx ⊢
  exact si_is_codes hv hx
/-- what the reference has spelled from the end down to place k -/
def si_bs (cx : Nat → Nat) (nn k row : Nat) (f : Nat → Int32) : Prop := (∀ i, k ≤ i → i < nn → ∃ a, (32 ≤ a ∧ a ≤ 126) ∧ f i = nI a) ∧ ∀ v, si_ok v → v.length = nn → (∀ x, x < nn + 1 → cx x = si_B v x) → row = si_rk v k ∧ ∀ i, k ≤ i → i < nn → f i = nI (si_g v i)
theorem si_bs_0 {cx : Nat → Nat} {nn : Nat} {f : Nat → Int32} : si_bs cx nn nn 0 f :=
  ⟨fun i h1 h2 => absurd h2 (by omega), fun v hv hl h => ⟨by subst hl; exact (si_rk_n v).symm, fun i h1 h2 => absurd h2 (by omega)⟩⟩
theorem si_bs_g {cx : Nat → Nat} {nn j row : Nat} {f : Nat → Int32} (h : si_bs cx nn (j + 1) row f) (hj : j < nn) {v : List Nat} (hv : si_ok v) (hl : v.length = nn) (hB : ∀ x, x < nn + 1 → cx x = si_B v x) : row = si_rk v (j + 1) ∧ cx row = si_g v j := by
  obtain ⟨e1, -⟩ := h.2 v hv hl hB
  subst hl
  refine ⟨e1, ?_⟩
  rw [e1, hB _ (si_rk_le (by omega)), si_B_rk (by omega)]
  unfold si_bf
  rw [if_neg (by omega), Nat.add_sub_cancel]
theorem si_bs_s {cx : Nat → Nat} {nn j row : Nat} {f : Nat → Int32} (h : si_bs cx nn (j + 1) row f) (hj : j < nn) (hr : row < nn + 1) (hc : 32 ≤ cx row ∧ cx row ≤ 126) : si_bs cx nn j (si_lf cx (nn + 1) row) (upd f j (nI (cx row))) := by
  refine ⟨fun i h1 h2 => ?_, fun v hv hl hB => ?_⟩
  · by_cases e : i = j
    · subst e; exact ⟨cx row, hc, pk_us⟩
    · rw [pk_un e]; exact h.1 i (by omega) h2
  · obtain ⟨e1, e2⟩ := si_bs_g h hj hv hl hB
    have e3 := (h.2 v hv hl hB).2
    subst hl
    refine ⟨?_, fun i h1 h2 => ?_⟩
    · rw [si_lf_congr hr hB, e1, si_lf_rk hv (by omega) (by omega), Nat.add_sub_cancel]
    · by_cases e : i = j
      · subst e; rw [pk_us, e2]
      · rw [pk_un e]; exact e3 i (by omega) h2
theorem si_bs_no {cx : Nat → Nat} {nn j row : Nat} {f : Nat → Int32} (h : si_bs cx nn (j + 1) row f) (hj : j < nn) (hc : ¬ (32 ≤ cx row ∧ cx row ≤ 126)) : ∀ v, si_ok v → v.length = nn → (∀ x, x < nn + 1 → cx x = si_B v x) → False := by
  intro v hv hl hB
  obtain ⟨e1, e2⟩ := si_bs_g h hj hv hl hB
  rw [e2] at hc
  exact hc (si_ok_at hv (by omega))
theorem si_bs_end {cx : Nat → Nat} {nn row : Nat} {f : Nat → Int32} (h : si_bs cx nn 0 row f) (hn : nn ≤ 60) : ∃ t, si_ok t ∧ t.length = nn ∧ (∀ x, x < t.length → f x = nI (si_g t x)) ∧ ∀ v, si_ok v → v.length = nn → (∀ x, x < nn + 1 → cx x = si_B v x) → v = t := by
  have hg : ∀ i, i < nn → si_g ((List.range nn).map (fun i => (f i).toNatClampNeg)) i = (f i).toNatClampNeg := by
    intro i hi
    rw [si_g_in (by simpa using hi)]
    simp
  refine ⟨(List.range nn).map (fun i => (f i).toNatClampNeg), ⟨by simpa using hn, fun c hc => ?_⟩, by simp, fun x hx => ?_, fun v hv hl hB => ?_⟩
  · obtain ⟨i, hi, rfl⟩ := List.mem_map.mp hc
    obtain ⟨a, ha, he⟩ := h.1 i (Nat.zero_le _) (List.mem_range.mp hi)
    rw [he, nI_clamp (by omega)]
    exact ha
  · have hx : x < nn := by simpa using hx
    obtain ⟨a, ha, he⟩ := h.1 x (Nat.zero_le _) hx
    rw [hg x hx, he, nI_clamp (by omega)]
  · obtain ⟨-, e2⟩ := h.2 v hv hl hB
    apply List.ext_getElem (by simpa using hl)
    intro i h1 h2
    have h3 : i < nn := by omega
    rw [← si_g_in h1, ← si_g_in h2, hg i h3, e2 i (Nat.zero_le _) h3]
    rw [nI_clamp (si_g_lt hv.2)]
set_option maxHeartbeats 4000000 in
set_option maxRecDepth 100000 in
/-- load -/
theorem cM_load (l : Launch) (g : si_G) (y0 mW mD mT mP mR mA mK mO mB mI mN mH mC : Nat) (zs zt zn ze za zm : Int32) (ft fp fr fk fo fb fn fh fc : Nat → Int32) (fi fd : Nat → Int64)  : si_Mi (S := Int32 × Int32 × Int32 × Int32 × (Nat → Int32) × (Nat → Int32) × (Nat → Int32) × (Nat → Int32) × (Nat → Int32) × (Nat → Int32) × (Nat → Int64) × (Nat → Int32) × (Nat → Int32) × (Nat → Int32)) l g vwCl zyM_load zwM_load ({ frames := 3, cells := 0, slots := 0, locals := 70 } : Room) [.ref y0] [(y0, .inr (6, [.int zs, .ref mW, .ref mD, .int zt, .int zn, .ref mT, .int ze, .ref mP, .ref mR, .int za, .ref mA, .int zm, .ref mK, .ref mO, .ref mB, .ref mI, .ref mN, .ref mH, .ref mC])), (mD, .inl (g.2.2, 23, .inr (.inl fd))), (mT, .inl (g.2.1, 61, .inl ft)), (mP, .inl (g.2.1, 61, .inl fp)), (mR, .inl (g.2.1, 61, .inl fr)), (mK, .inl (g.2.1, 61, .inl fk)), (mO, .inl (g.2.1, 61, .inl fo)), (mB, .inl (g.2.1, 61, .inl fb)), (mI, .inl (g.2.2, 23, .inr (.inl fi))), (mN, .inl (g.2.1, 61, .inl fn)), (mH, .inl (g.2.1, 61, .inl fh)), (mC, .inl (g.2.1, 61, .inl fc))] (fun r u => (r = nI 1 ∧ ∃ t sr, si_is fd t sr ∧ u.1 = nI 1 ∧ u.2.1 = nI t.length ∧ u.2.2.1 = nI sr ∧ (∀ x, x < t.length + 1 → u.2.2.2.2.1 x = nI (si_g t x)) ∧ si_su t u.2.2.2.2.2.2.1 u.2.2.2.2.2.1) ∨ (r = nI 0 ∧ (∀ v k, ¬ si_is fd v k) ∧ u.1 = zt ∧ u.2.1 = zn ∧ u.2.2.1 = ze ∧ u.2.2.2.2.1 = ft ∧ u.2.2.2.2.2.1 = fp ∧ u.2.2.2.2.2.2.1 = fr)) (fun u => [(y0, .inr (6, [.int zs, .ref mW, .ref mD, .int u.1, .int u.2.1, .ref mT, .int u.2.2.1, .ref mP, .ref mR, .int za, .ref mA, .int u.2.2.2.1, .ref mK, .ref mO, .ref mB, .ref mI, .ref mN, .ref mH, .ref mC])), (mD, .inl (g.2.2, 23, .inr (.inl fd))), (mT, .inl (g.2.1, 61, .inl u.2.2.2.2.1)), (mP, .inl (g.2.1, 61, .inl u.2.2.2.2.2.1)), (mR, .inl (g.2.1, 61, .inl u.2.2.2.2.2.2.1)), (mK, .inl (g.2.1, 61, .inl u.2.2.2.2.2.2.2.1)), (mO, .inl (g.2.1, 61, .inl u.2.2.2.2.2.2.2.2.1)), (mB, .inl (g.2.1, 61, .inl u.2.2.2.2.2.2.2.2.2.1)), (mI, .inl (g.2.2, 23, .inr (.inl u.2.2.2.2.2.2.2.2.2.2.1))), (mN, .inl (g.2.1, 61, .inl u.2.2.2.2.2.2.2.2.2.2.2.1)), (mH, .inl (g.2.1, 61, .inl u.2.2.2.2.2.2.2.2.2.2.2.2.1)), (mC, .inl (g.2.1, 61, .inl u.2.2.2.2.2.2.2.2.2.2.2.2.2))]) := by
  refine si_Mi.of (cc := zkM_load) (maxL := 5) (by decide) rfl (Nat.le_of_ble_eq_true rfl) ?_
  intro p e s m args below meth c A Q ls hF0 hin hK hN hP hD hA hS hl hret
  obtain ⟨hx, hb, hml, hown, hts0⟩ := hF0
  have hts : ∀ w ∈ si_tbl, w.before args s = true := fun w hw => hts0 w (List.mem_cons_of_mem _ hw)
  have hF : CallFix p m c zkM_load 5 s args si_tbl zRM := ⟨hx, hb, hml, hown, hts⟩
  have hl : lv_has ls 5 [(0, .ref y0)] := hl
  obtain ⟨hd, hhd⟩ := si_hd_of fd
  refine lv_aload_n hx hb zdM_load_0 rfl (lv_at hl 0 rfl) ?_
  refine va_get (D := g.1) (ci := 6) (v := .ref mD) (C := zRM) (T := zTM) (N := 19) hx hb hts ziM hown hK hP 0 rfl rfl 2 (by decide) (hts _ zlM_13) (fun _ h => h) rfl zdM_load_1 ?_
  refine lv_iconst (v := nI 0) hx hb zdM_load_4 (by decide) ?_
  refine si_lald (v := lN hd) hx hb hK hP 1 1 rfl rfl (by decide) (by omega) (hhd.1) zdM_load_5 ?_
  refine lv_bipush (v := nI 8) hx hb zdM_load_6 (by decide) ?_
  refine lv_lshr (v := (lN hd) >>> ((nI 8).toInt64 &&& 63)) hx hb zdM_load_8 (rfl) ?_
  refine lv_lstore_n (lv' := [(1, .long ((lN hd) >>> ((nI 8).toInt64 &&& 63))), (0, .ref y0)]) hx hb zdM_load_9 rfl hl (Nat.le_of_ble_eq_true rfl) rfl (fun ls hl => ?_)
  refine lv_lload_n hx hb zdM_load_10 rfl (lv_at hl 0 rfl) ?_
  refine lv_lconst (v := 1) hx hb zdM_load_11 (by decide) ?_
  refine W.lcmp hx hb zdM_load_12 ?_
  refine lv_if_lt (tgt := 41) hx hb zdM_load_13 rfl (fun h13 => ?_) (fun h13 => ?_)
  · have hno := si_ml_no hhd (decide_eq_false (fun z => z.1 ((si_lcL _ _).mp h13)))
    refine lv_iconst (v := nI 0) hx hb zdM_load_41 (by decide) ?_
    exact hret (nI 0) (zt, zn, ze, zm, ft, fp, fr, fk, fo, fb, fi, fn, fh, fc) _ _ _ _ (rfl) (Or.inr ⟨rfl, hno, rfl, rfl, rfl, rfl, rfl, rfl⟩) (hP.sub [0, 1, 2, 3, 4, 5, 6, 7, 8, 9, 10, 11] rfl) (hD.sub [0, 1, 2, 3, 4, 5, 6, 7, 8, 9, 10, 11] (by decide) rfl) hS zdM_load_42
  · refine lv_lload_n hx hb zdM_load_16 rfl (lv_at hl 0 rfl) ?_
    refine lv_ldc2 (v := 16) hx hb hown (hts (.constantLong zRM 73 16) (by decide +kernel)) zdM_load_17 ?_
    refine W.lcmp hx hb zdM_load_20 ?_
    refine lv_if_gt (tgt := 41) hx hb zdM_load_21 rfl (fun h21 => ?_) (fun h21 => ?_)
    · have hno := si_ml_no hhd (decide_eq_false (fun z => z.2 ((si_lcG _ _).mp h21)))
      refine lv_iconst (v := nI 0) hx hb zdM_load_41 (by decide) ?_
      exact hret (nI 0) (zt, zn, ze, zm, ft, fp, fr, fk, fo, fb, fi, fn, fh, fc) _ _ _ _ (rfl) (Or.inr ⟨rfl, hno, rfl, rfl, rfl, rfl, rfl, rfl⟩) (hP.sub [0, 1, 2, 3, 4, 5, 6, 7, 8, 9, 10, 11] rfl) (hD.sub [0, 1, 2, 3, 4, 5, 6, 7, 8, 9, 10, 11] (by decide) rfl) hS zdM_load_42
    · refine lv_aload_n hx hb zdM_load_24 rfl (lv_at hl 1 rfl) ?_
      refine va_get (D := g.1) (ci := 6) (v := .ref mD) (C := zRM) (T := zTM) (N := 19) hx hb hts ziM hown hK hP 0 rfl rfl 2 (by decide) (hts _ zlM_13) (fun _ h => h) rfl zdM_load_25 ?_
      refine lv_iconst (v := nI 0) hx hb zdM_load_28 (by decide) ?_
      refine si_lald (v := lN hd) hx hb hK hP 1 1 rfl rfl (by decide) (by omega) (hhd.1) zdM_load_29 ?_
      refine lv_ldc2 (v := 255) hx hb hown (hts (.constantLong zRM 75 255) (by decide +kernel)) zdM_load_30 ?_
      refine si_land (v := lN (hd % 256)) hx hb zdM_load_33 (wb_mask (k := 8) hhd.2 (by decide)) ?_
      refine lv_ldc2 (v := 60) hx hb hown (hts (.constantLong zRM 77 60) (by decide +kernel)) zdM_load_34 ?_
      refine W.lcmp hx hb zdM_load_37 ?_
      refine lv_if_le (tgt := 43) hx hb zdM_load_38 rfl (fun h38 => ?_) (fun h38 => ?_)
      · have hn := si_rd_60 (k := hd % 256) (by omega) (fun z => absurd h38 (Int32.not_le.mpr ((si_lcG _ _).mpr z)))
        have hisr : si_isR (lN hd >>> ((nI 8).toInt64 &&& 63)) = true := decide_eq_true ⟨fun z => h13 ((si_lcL _ _).mpr z), fun z => h21 ((si_lcG _ _).mpr z)⟩
        obtain ⟨s0, hs1, hs2, hxs⟩ := si_isR_t hisr
        refine lv_aload_n hx hb zdM_load_43 rfl (lv_at hl 1 rfl) ?_
        refine lv_aload_n hx hb zdM_load_44 rfl (lv_at hl 1 rfl) ?_
        refine va_get (D := g.1) (ci := 6) (v := .ref mD) (C := zRM) (T := zTM) (N := 19) hx hb hts ziM hown hK hP 0 rfl rfl 2 (by decide) (hts _ zlM_13) (fun _ h => h) rfl zdM_load_45 ?_
        refine lv_iconst (v := nI 0) hx hb zdM_load_48 (by decide) ?_
        refine si_lald (v := lN hd) hx hb hK hP 1 1 rfl rfl (by decide) (by omega) (hhd.1) zdM_load_49 ?_
        refine lv_ldc2 (v := 255) hx hb hown (hts (.constantLong zRM 75 255) (by decide +kernel)) zdM_load_50 ?_
        refine si_land (v := lN (hd % 256)) hx hb zdM_load_53 (wb_mask (k := 8) hhd.2 (by decide)) ?_
        refine lv_l2i (v := nI (hd % 256)) hx hb zdM_load_54 (lN_i _) ?_
        refine va_put (D := g.1) (ci := 6) (v := .int (nI (hd % 256))) (ty := .int) (C := zRM) (T := zTM) (N := 19) hx hb hts ziM ztM ztoM znM hown hK hP hD hS 0 rfl rfl 11 (by decide) (hts _ zlM_54) (fun _ h => h) rfl (by decide +kernel) rfl rfl (Nat.le_of_ble_eq_true rfl) zdM_load_55 (fun H locs hP hD hS => ?_)
        have hP : va_P g.1 vwCl [(y0, .inr (6, [.int zs, .ref mW, .ref mD, .int zt, .int zn, .ref mT, .int ze, .ref mP, .ref mR, .int za, .ref mA, .int (nI (hd % 256)), .ref mK, .ref mO, .ref mB, .ref mI, .ref mN, .ref mH, .ref mC])), (mD, .inl (g.2.2, 23, .inr (.inl fd))), (mT, .inl (g.2.1, 61, .inl ft)), (mP, .inl (g.2.1, 61, .inl fp)), (mR, .inl (g.2.1, 61, .inl fr)), (mK, .inl (g.2.1, 61, .inl fk)), (mO, .inl (g.2.1, 61, .inl fo)), (mB, .inl (g.2.1, 61, .inl fb)), (mI, .inl (g.2.2, 23, .inr (.inl fi))), (mN, .inl (g.2.1, 61, .inl fn)), (mH, .inl (g.2.1, 61, .inl fh)), (mC, .inl (g.2.1, 61, .inl fc))] H := hP
        have hD : va_D A [(y0, .inr (6, [.int zs, .ref mW, .ref mD, .int zt, .int zn, .ref mT, .int ze, .ref mP, .ref mR, .int za, .ref mA, .int (nI (hd % 256)), .ref mK, .ref mO, .ref mB, .ref mI, .ref mN, .ref mH, .ref mC])), (mD, .inl (g.2.2, 23, .inr (.inl fd))), (mT, .inl (g.2.1, 61, .inl ft)), (mP, .inl (g.2.1, 61, .inl fp)), (mR, .inl (g.2.1, 61, .inl fr)), (mK, .inl (g.2.1, 61, .inl fk)), (mO, .inl (g.2.1, 61, .inl fo)), (mB, .inl (g.2.1, 61, .inl fb)), (mI, .inl (g.2.2, 23, .inr (.inl fi))), (mN, .inl (g.2.1, 61, .inl fn)), (mH, .inl (g.2.1, 61, .inl fh)), (mC, .inl (g.2.1, 61, .inl fc))] := hD
        refine lv_aload_n hx hb zdM_load_58 rfl (lv_at hl 1 rfl) ?_
        refine (cM_readCodes l g y0 mW mD mT mP mR mA mK mO mB mI mN mH mC zs zt zn ze za fn fh fc fd (hd % 256) hn).callV (wr := [(mT, .inl (g.2.1, 61, .inl ft)), (mP, .inl (g.2.1, 61, .inl fp)), (mR, .inl (g.2.1, 61, .inl fr)), (mK, .inl (g.2.1, 61, .inl fk)), (mO, .inl (g.2.1, 61, .inl fo)), (mB, .inl (g.2.1, 61, .inl fb)), (mI, .inl (g.2.2, 23, .inr (.inl fi)))]) (As := []) (rest := []) hF (si_cV 0 hts zcM_readCodes zlM_79 zimM_readCodes zseM_readCodes ziniM zhM_readCodes ⟨Nat.le_of_ble_eq_true rfl, Nat.le_of_ble_eq_true rfl⟩) hK hN hP hD hS hA [0, 1, 9, 10, 11] [2, 3, 4, 5, 6, 7, 8] rfl rfl (by decide) (by decide) (va_recv (q := (zRM, zTM, 19)) hK hP (ci := 6) (q0 := 0) rfl rfl) rfl hl.1 rfl (Nat.le_of_ble_eq_true rfl) zdM_load_59 ⟨Nat.le_of_ble_eq_true rfl, Nat.le_of_ble_eq_true rfl⟩ rfl rfl (fun u_ H locs hc2 hP hD hS => ?_)
        obtain ⟨n2, h2, c2⟩ := u_
        obtain ⟨cx, hcxe⟩ : ∃ z, z = si_rc (si_db fd) (hd % 256 + 1) 7 := ⟨_, rfl⟩
        have hc2x : ∀ x, x < hd % 256 + 1 → c2 x = nI (cx x) := by rw [hcxe]; exact hc2
        have hc7 : ∀ x, x < hd % 256 + 1 → cx x < 128 := fun x _ => by rw [hcxe]; exact si_rc_lt _ _ 7 x
        have hP : va_P g.1 vwCl [(mT, .inl (g.2.1, 61, .inl ft)), (mP, .inl (g.2.1, 61, .inl fp)), (mR, .inl (g.2.1, 61, .inl fr)), (mK, .inl (g.2.1, 61, .inl fk)), (mO, .inl (g.2.1, 61, .inl fo)), (mB, .inl (g.2.1, 61, .inl fb)), (mI, .inl (g.2.2, 23, .inr (.inl fi))), (y0, .inr (6, [.int zs, .ref mW, .ref mD, .int zt, .int zn, .ref mT, .int ze, .ref mP, .ref mR, .int za, .ref mA, .int (nI (hd % 256)), .ref mK, .ref mO, .ref mB, .ref mI, .ref mN, .ref mH, .ref mC])), (mD, .inl (g.2.2, 23, .inr (.inl fd))), (mN, .inl (g.2.1, 61, .inl n2)), (mH, .inl (g.2.1, 61, .inl h2)), (mC, .inl (g.2.1, 61, .inl c2))] H := hP
        have hD : va_D A [(mT, .inl (g.2.1, 61, .inl ft)), (mP, .inl (g.2.1, 61, .inl fp)), (mR, .inl (g.2.1, 61, .inl fr)), (mK, .inl (g.2.1, 61, .inl fk)), (mO, .inl (g.2.1, 61, .inl fo)), (mB, .inl (g.2.1, 61, .inl fb)), (mI, .inl (g.2.2, 23, .inr (.inl fi))), (y0, .inr (6, [.int zs, .ref mW, .ref mD, .int zt, .int zn, .ref mT, .int ze, .ref mP, .ref mR, .int za, .ref mA, .int (nI (hd % 256)), .ref mK, .ref mO, .ref mB, .ref mI, .ref mN, .ref mH, .ref mC])), (mD, .inl (g.2.2, 23, .inr (.inl fd))), (mN, .inl (g.2.1, 61, .inl n2)), (mH, .inl (g.2.1, 61, .inl h2)), (mC, .inl (g.2.1, 61, .inl c2))] := hD
        refine lv_iconst (v := nI 0) hx hb zdM_load_62 (by decide) ?_
        refine lv_istore_n (lv' := [(3, .int (nI 0)), (1, .long ((lN hd) >>> ((nI 8).toInt64 &&& 63))), (0, .ref y0)]) hx hb zdM_load_63 rfl hl (Nat.le_of_ble_eq_true rfl) rfl (fun ls hl => ?_)
        refine lv_aload_n hx hb zdM_load_64 rfl (lv_at hl 2 rfl) ?_
        refine va_get (D := g.1) (ci := 6) (v := .int (nI (hd % 256))) (C := zRM) (T := zTM) (N := 19) hx hb hts ziM hown hK hP 7 rfl rfl 11 (by decide) (hts _ zlM_54) (fun _ h => h) rfl zdM_load_65 ?_
        refine lv_iconst (v := nI 1) hx hb zdM_load_68 (by decide) ?_
        refine si_isub (v := nI (hd % 256) - nI 1) hx hb zdM_load_69 (rfl) ?_
        refine lv_istore (lv' := [(4, .int (nI (hd % 256) - nI 1)), (3, .int (nI 0)), (1, .long ((lN hd) >>> ((nI 8).toInt64 &&& 63))), (0, .ref y0)]) hx hb zdM_load_70 hl (Nat.le_of_ble_eq_true rfl) rfl (fun ls hl => ?_)
        have L72 : ∀ (N : Nat) (k : Nat) (q : Int32) (row : Nat) (k2 : Nat → Int32) (H : Heap) (locs : List Loc) (ls : Array Slot), k < N → (si_dw q k) → (k ≤ hd % 256) → (row < hd % 256 + 1) → (si_bs cx (hd % 256) k row k2) → lv_has ls 5 [(0, .ref y0), (1, .long (lN hd >>> ((nI 8).toInt64 &&& 63))), (3, .int (nI row)), (4, .int q)] → va_P g.1 vwCl [(y0, .inr (6, [.int zs, .ref mW, .ref mD, .int zt, .int zn, .ref mT, .int ze, .ref mP, .ref mR, .int za, .ref mA, .int (nI (hd % 256)), .ref mK, .ref mO, .ref mB, .ref mI, .ref mN, .ref mH, .ref mC])), (mD, .inl (g.2.2, 23, .inr (.inl fd))), (mT, .inl (g.2.1, 61, .inl ft)), (mP, .inl (g.2.1, 61, .inl fp)), (mR, .inl (g.2.1, 61, .inl fr)), (mK, .inl (g.2.1, 61, .inl k2)), (mO, .inl (g.2.1, 61, .inl fo)), (mB, .inl (g.2.1, 61, .inl fb)), (mI, .inl (g.2.2, 23, .inr (.inl fi))), (mN, .inl (g.2.1, 61, .inl n2)), (mH, .inl (g.2.1, 61, .inl h2)), (mC, .inl (g.2.1, 61, .inl c2))] H → va_D A [(y0, .inr (6, [.int zs, .ref mW, .ref mD, .int zt, .int zn, .ref mT, .int ze, .ref mP, .ref mR, .int za, .ref mA, .int (nI (hd % 256)), .ref mK, .ref mO, .ref mB, .ref mI, .ref mN, .ref mH, .ref mC])), (mD, .inl (g.2.2, 23, .inr (.inl fd))), (mT, .inl (g.2.1, 61, .inl ft)), (mP, .inl (g.2.1, 61, .inl fp)), (mR, .inl (g.2.1, 61, .inl fr)), (mK, .inl (g.2.1, 61, .inl k2)), (mO, .inl (g.2.1, 61, .inl fo)), (mB, .inl (g.2.1, 61, .inl fb)), (mI, .inl (g.2.2, 23, .inr (.inl fi))), (mN, .inl (g.2.1, 61, .inl n2)), (mH, .inl (g.2.1, 61, .inl h2)), (mC, .inl (g.2.1, 61, .inl c2))] → va_S A s.heap H locs → W p l e ({ frames := 3, cells := 0, slots := 0, locals := 70 } : Room) s m args below meth c H locs 0 0 Q (F0 m 72 ls []) := by
          intro N
          induction N with
          | zero => intro k q row k2 H locs ls hMs; exact absurd hMs (Nat.not_lt_zero _)
          | succ N ih72 =>
            intro k q row k2 H locs ls hMs hdw hk hrow hbs hl hP hD hS
            refine lv_iload hx hb zdM_load_72 (lv_at hl 3 rfl) ?_
            refine lv_if_lt (tgt := 128) hx hb zdM_load_74 rfl (fun h74 => ?_) (fun h74 => ?_)
            · have hk0 : k = 0 := si_dw_0 (by omega) hdw h74
              subst hk0
              obtain ⟨t, ho, hlt, hK0, hall⟩ := si_bs_end hbs hn
              rw [← hlt] at hP hD
              refine lv_aload_n hx hb zdM_load_128 rfl (lv_at hl 0 rfl) ?_
              refine lv_lload_n hx hb zdM_load_129 rfl (lv_at hl 1 rfl) ?_
              refine lv_l2i (v := nI s0) hx hb zdM_load_130 (by rw [hxs]; exact lN_i _) ?_
              refine (cM_picture l g y0 mW mD mT mP mR mA mK mO mB mI mN mH mC zs zt zn ze za k2 fo fb n2 h2 fi t s0 ho hK0 hs1 hs2).callV (wr := [(mD, .inl (g.2.2, 23, .inr (.inl fd))), (mT, .inl (g.2.1, 61, .inl ft)), (mP, .inl (g.2.1, 61, .inl fp)), (mR, .inl (g.2.1, 61, .inl fr)), (mC, .inl (g.2.1, 61, .inl c2))]) (As := [.int (nI s0)]) (rest := []) hF (si_cV 1 hts zcM_picture zlM_69 zimM_picture zseM_picture ziniM zhM_picture ⟨Nat.le_of_ble_eq_true rfl, Nat.le_of_ble_eq_true rfl⟩) hK hN hP hD hS hA [0, 5, 6, 7, 8, 9, 10] [1, 2, 3, 4, 11] rfl rfl (by decide) (by decide) (va_recv (q := (zRM, zTM, 19)) hK hP (ci := 6) (q0 := 0) rfl rfl) rfl hl.1 rfl (Nat.le_of_ble_eq_true rfl) zdM_load_131 ⟨Nat.le_of_ble_eq_true rfl, Nat.le_of_ble_eq_true rfl⟩ rfl rfl (fun u_ H locs hq_ hP hD hS => ?_)
              obtain ⟨k5, o5, b5, w5, n5, h5⟩ := u_
              obtain ⟨hK5, hsu5, hw5⟩ := hq_
              have hw5 : ∀ k, k < 23 → w5 k = si_im t s0 k := hw5
              have hP : va_P g.1 vwCl [(mD, .inl (g.2.2, 23, .inr (.inl fd))), (mT, .inl (g.2.1, 61, .inl ft)), (mP, .inl (g.2.1, 61, .inl fp)), (mR, .inl (g.2.1, 61, .inl fr)), (mC, .inl (g.2.1, 61, .inl c2)), (y0, .inr (6, [.int zs, .ref mW, .ref mD, .int zt, .int zn, .ref mT, .int ze, .ref mP, .ref mR, .int za, .ref mA, .int (nI t.length), .ref mK, .ref mO, .ref mB, .ref mI, .ref mN, .ref mH, .ref mC])), (mK, .inl (g.2.1, 61, .inl k5)), (mO, .inl (g.2.1, 61, .inl o5)), (mB, .inl (g.2.1, 61, .inl b5)), (mI, .inl (g.2.2, 23, .inr (.inl w5))), (mN, .inl (g.2.1, 61, .inl n5)), (mH, .inl (g.2.1, 61, .inl h5))] H := hP
              have hD : va_D A [(mD, .inl (g.2.2, 23, .inr (.inl fd))), (mT, .inl (g.2.1, 61, .inl ft)), (mP, .inl (g.2.1, 61, .inl fp)), (mR, .inl (g.2.1, 61, .inl fr)), (mC, .inl (g.2.1, 61, .inl c2)), (y0, .inr (6, [.int zs, .ref mW, .ref mD, .int zt, .int zn, .ref mT, .int ze, .ref mP, .ref mR, .int za, .ref mA, .int (nI t.length), .ref mK, .ref mO, .ref mB, .ref mI, .ref mN, .ref mH, .ref mC])), (mK, .inl (g.2.1, 61, .inl k5)), (mO, .inl (g.2.1, 61, .inl o5)), (mB, .inl (g.2.1, 61, .inl b5)), (mI, .inl (g.2.2, 23, .inr (.inl w5))), (mN, .inl (g.2.1, 61, .inl n5)), (mH, .inl (g.2.1, 61, .inl h5))] := hD
              refine lv_iconst (v := nI 0) hx hb zdM_load_134 (by decide) ?_
              refine lv_istore (lv' := [(4, .int (nI 0)), (0, .ref y0), (1, .long (lN hd >>> ((nI 8).toInt64 &&& 63))), (3, .int (nI row))]) hx hb zdM_load_135 hl (Nat.le_of_ble_eq_true rfl) rfl (fun ls hl => ?_)
              have L137 : ∀ (N : Nat) (k : Nat) (H : Heap) (locs : List Loc) (ls : Array Slot), 23 - k < N → (k ≤ 23) → (∀ x, x < k → w5 x = fd x) → lv_has ls 5 [(0, .ref y0), (1, .long (lN hd >>> ((nI 8).toInt64 &&& 63))), (4, .int (nI k))] → va_P g.1 vwCl [(y0, .inr (6, [.int zs, .ref mW, .ref mD, .int zt, .int zn, .ref mT, .int ze, .ref mP, .ref mR, .int za, .ref mA, .int (nI t.length), .ref mK, .ref mO, .ref mB, .ref mI, .ref mN, .ref mH, .ref mC])), (mD, .inl (g.2.2, 23, .inr (.inl fd))), (mT, .inl (g.2.1, 61, .inl ft)), (mP, .inl (g.2.1, 61, .inl fp)), (mR, .inl (g.2.1, 61, .inl fr)), (mK, .inl (g.2.1, 61, .inl k5)), (mO, .inl (g.2.1, 61, .inl o5)), (mB, .inl (g.2.1, 61, .inl b5)), (mI, .inl (g.2.2, 23, .inr (.inl w5))), (mN, .inl (g.2.1, 61, .inl n5)), (mH, .inl (g.2.1, 61, .inl h5)), (mC, .inl (g.2.1, 61, .inl c2))] H → va_D A [(y0, .inr (6, [.int zs, .ref mW, .ref mD, .int zt, .int zn, .ref mT, .int ze, .ref mP, .ref mR, .int za, .ref mA, .int (nI t.length), .ref mK, .ref mO, .ref mB, .ref mI, .ref mN, .ref mH, .ref mC])), (mD, .inl (g.2.2, 23, .inr (.inl fd))), (mT, .inl (g.2.1, 61, .inl ft)), (mP, .inl (g.2.1, 61, .inl fp)), (mR, .inl (g.2.1, 61, .inl fr)), (mK, .inl (g.2.1, 61, .inl k5)), (mO, .inl (g.2.1, 61, .inl o5)), (mB, .inl (g.2.1, 61, .inl b5)), (mI, .inl (g.2.2, 23, .inr (.inl w5))), (mN, .inl (g.2.1, 61, .inl n5)), (mH, .inl (g.2.1, 61, .inl h5)), (mC, .inl (g.2.1, 61, .inl c2))] → va_S A s.heap H locs → W p l e ({ frames := 3, cells := 0, slots := 0, locals := 70 } : Room) s m args below meth c H locs 0 0 Q (F0 m 137 ls []) := by
                intro N
                induction N with
                | zero => intro k H locs ls hMs; exact absurd hMs (Nat.not_lt_zero _)
                | succ N ih137 =>
                  intro k H locs ls hMs hk hE hl hP hD hS
                  refine lv_iload hx hb zdM_load_137 (lv_at hl 2 rfl) ?_
                  refine lv_bipush (v := nI 23) hx hb zdM_load_139 (by decide) ?_
                  refine si_icmp_ge (tgt := 170) hx hb zdM_load_141 rfl (by omega) (by decide) (fun h141 => ?_) (fun h141 => ?_)
                  · have his : si_is fd t s0 := ⟨ho, hs1, hs2, fun k9 hk9 => by rw [← hE k9 (by omega), hw5 k9 hk9]⟩
                    have hn2 := ho.1
                    refine lv_aload_n hx hb zdM_load_170 rfl (lv_at hl 0 rfl) ?_
                    refine lv_iconst (v := nI 1) hx hb zdM_load_171 (by decide) ?_
                    refine va_put (D := g.1) (ci := 6) (v := .int (nI 1)) (ty := .boolean) (C := zRM) (T := zTM) (N := 19) hx hb hts ziM ztM ztoM znM hown hK hP hD hS 0 rfl rfl 3 (by decide) (hts _ zlM_86) (fun _ h => h) rfl (by decide +kernel) rfl rfl (Nat.le_of_ble_eq_true rfl) zdM_load_172 (fun H locs hP hD hS => ?_)
                    have hP : va_P g.1 vwCl [(y0, .inr (6, [.int zs, .ref mW, .ref mD, .int (nI 1), .int zn, .ref mT, .int ze, .ref mP, .ref mR, .int za, .ref mA, .int (nI t.length), .ref mK, .ref mO, .ref mB, .ref mI, .ref mN, .ref mH, .ref mC])), (mD, .inl (g.2.2, 23, .inr (.inl fd))), (mT, .inl (g.2.1, 61, .inl ft)), (mP, .inl (g.2.1, 61, .inl fp)), (mR, .inl (g.2.1, 61, .inl fr)), (mK, .inl (g.2.1, 61, .inl k5)), (mO, .inl (g.2.1, 61, .inl o5)), (mB, .inl (g.2.1, 61, .inl b5)), (mI, .inl (g.2.2, 23, .inr (.inl w5))), (mN, .inl (g.2.1, 61, .inl n5)), (mH, .inl (g.2.1, 61, .inl h5)), (mC, .inl (g.2.1, 61, .inl c2))] H := hP
                    have hD : va_D A [(y0, .inr (6, [.int zs, .ref mW, .ref mD, .int (nI 1), .int zn, .ref mT, .int ze, .ref mP, .ref mR, .int za, .ref mA, .int (nI t.length), .ref mK, .ref mO, .ref mB, .ref mI, .ref mN, .ref mH, .ref mC])), (mD, .inl (g.2.2, 23, .inr (.inl fd))), (mT, .inl (g.2.1, 61, .inl ft)), (mP, .inl (g.2.1, 61, .inl fp)), (mR, .inl (g.2.1, 61, .inl fr)), (mK, .inl (g.2.1, 61, .inl k5)), (mO, .inl (g.2.1, 61, .inl o5)), (mB, .inl (g.2.1, 61, .inl b5)), (mI, .inl (g.2.2, 23, .inr (.inl w5))), (mN, .inl (g.2.1, 61, .inl n5)), (mH, .inl (g.2.1, 61, .inl h5)), (mC, .inl (g.2.1, 61, .inl c2))] := hD
                    refine lv_aload_n hx hb zdM_load_175 rfl (lv_at hl 0 rfl) ?_
                    refine lv_aload_n hx hb zdM_load_176 rfl (lv_at hl 0 rfl) ?_
                    refine va_get (D := g.1) (ci := 6) (v := .int (nI t.length)) (C := zRM) (T := zTM) (N := 19) hx hb hts ziM hown hK hP 0 rfl rfl 11 (by decide) (hts _ zlM_54) (fun _ h => h) rfl zdM_load_177 ?_
                    refine va_put (D := g.1) (ci := 6) (v := .int (nI t.length)) (ty := .int) (C := zRM) (T := zTM) (N := 19) hx hb hts ziM ztM ztoM znM hown hK hP hD hS 0 rfl rfl 4 (by decide) (hts _ zlM_90) (fun _ h => h) rfl (by decide +kernel) rfl rfl (Nat.le_of_ble_eq_true rfl) zdM_load_180 (fun H locs hP hD hS => ?_)
                    have hP : va_P g.1 vwCl [(y0, .inr (6, [.int zs, .ref mW, .ref mD, .int (nI 1), .int (nI t.length), .ref mT, .int ze, .ref mP, .ref mR, .int za, .ref mA, .int (nI t.length), .ref mK, .ref mO, .ref mB, .ref mI, .ref mN, .ref mH, .ref mC])), (mD, .inl (g.2.2, 23, .inr (.inl fd))), (mT, .inl (g.2.1, 61, .inl ft)), (mP, .inl (g.2.1, 61, .inl fp)), (mR, .inl (g.2.1, 61, .inl fr)), (mK, .inl (g.2.1, 61, .inl k5)), (mO, .inl (g.2.1, 61, .inl o5)), (mB, .inl (g.2.1, 61, .inl b5)), (mI, .inl (g.2.2, 23, .inr (.inl w5))), (mN, .inl (g.2.1, 61, .inl n5)), (mH, .inl (g.2.1, 61, .inl h5)), (mC, .inl (g.2.1, 61, .inl c2))] H := hP
                    have hD : va_D A [(y0, .inr (6, [.int zs, .ref mW, .ref mD, .int (nI 1), .int (nI t.length), .ref mT, .int ze, .ref mP, .ref mR, .int za, .ref mA, .int (nI t.length), .ref mK, .ref mO, .ref mB, .ref mI, .ref mN, .ref mH, .ref mC])), (mD, .inl (g.2.2, 23, .inr (.inl fd))), (mT, .inl (g.2.1, 61, .inl ft)), (mP, .inl (g.2.1, 61, .inl fp)), (mR, .inl (g.2.1, 61, .inl fr)), (mK, .inl (g.2.1, 61, .inl k5)), (mO, .inl (g.2.1, 61, .inl o5)), (mB, .inl (g.2.1, 61, .inl b5)), (mI, .inl (g.2.2, 23, .inr (.inl w5))), (mN, .inl (g.2.1, 61, .inl n5)), (mH, .inl (g.2.1, 61, .inl h5)), (mC, .inl (g.2.1, 61, .inl c2))] := hD
                    refine lv_aload_n hx hb zdM_load_183 rfl (lv_at hl 0 rfl) ?_
                    refine lv_lload_n hx hb zdM_load_184 rfl (lv_at hl 1 rfl) ?_
                    refine lv_l2i (v := nI s0) hx hb zdM_load_185 (by rw [hxs]; exact lN_i _) ?_
                    refine va_put (D := g.1) (ci := 6) (v := .int (nI s0)) (ty := .int) (C := zRM) (T := zTM) (N := 19) hx hb hts ziM ztM ztoM znM hown hK hP hD hS 0 rfl rfl 6 (by decide) (hts _ zlM_93) (fun _ h => h) rfl (by decide +kernel) rfl rfl (Nat.le_of_ble_eq_true rfl) zdM_load_186 (fun H locs hP hD hS => ?_)
                    have hP : va_P g.1 vwCl [(y0, .inr (6, [.int zs, .ref mW, .ref mD, .int (nI 1), .int (nI t.length), .ref mT, .int (nI s0), .ref mP, .ref mR, .int za, .ref mA, .int (nI t.length), .ref mK, .ref mO, .ref mB, .ref mI, .ref mN, .ref mH, .ref mC])), (mD, .inl (g.2.2, 23, .inr (.inl fd))), (mT, .inl (g.2.1, 61, .inl ft)), (mP, .inl (g.2.1, 61, .inl fp)), (mR, .inl (g.2.1, 61, .inl fr)), (mK, .inl (g.2.1, 61, .inl k5)), (mO, .inl (g.2.1, 61, .inl o5)), (mB, .inl (g.2.1, 61, .inl b5)), (mI, .inl (g.2.2, 23, .inr (.inl w5))), (mN, .inl (g.2.1, 61, .inl n5)), (mH, .inl (g.2.1, 61, .inl h5)), (mC, .inl (g.2.1, 61, .inl c2))] H := hP
                    have hD : va_D A [(y0, .inr (6, [.int zs, .ref mW, .ref mD, .int (nI 1), .int (nI t.length), .ref mT, .int (nI s0), .ref mP, .ref mR, .int za, .ref mA, .int (nI t.length), .ref mK, .ref mO, .ref mB, .ref mI, .ref mN, .ref mH, .ref mC])), (mD, .inl (g.2.2, 23, .inr (.inl fd))), (mT, .inl (g.2.1, 61, .inl ft)), (mP, .inl (g.2.1, 61, .inl fp)), (mR, .inl (g.2.1, 61, .inl fr)), (mK, .inl (g.2.1, 61, .inl k5)), (mO, .inl (g.2.1, 61, .inl o5)), (mB, .inl (g.2.1, 61, .inl b5)), (mI, .inl (g.2.2, 23, .inr (.inl w5))), (mN, .inl (g.2.1, 61, .inl n5)), (mH, .inl (g.2.1, 61, .inl h5)), (mC, .inl (g.2.1, 61, .inl c2))] := hD
                    refine lv_iconst (v := nI 0) hx hb zdM_load_189 (by decide) ?_
                    refine lv_istore (lv' := [(4, .int (nI 0)), (0, .ref y0), (1, .long (lN hd >>> ((nI 8).toInt64 &&& 63)))]) hx hb zdM_load_190 hl (Nat.le_of_ble_eq_true rfl) rfl (fun ls hl => ?_)
                    have L192 : ∀ (N : Nat) (k : Nat) (t2 : Nat → Int32) (p2 : Nat → Int32) (r2 : Nat → Int32) (H : Heap) (locs : List Loc) (ls : Array Slot), t.length + 1 - k < N → (k ≤ t.length + 1) → (∀ x, x < k → t2 x = k5 x) → (∀ x, x < k → p2 x = o5 x) → (∀ x, x < k → r2 x = b5 x) → lv_has ls 5 [(0, .ref y0), (1, .long (lN hd >>> ((nI 8).toInt64 &&& 63))), (4, .int (nI k))] → va_P g.1 vwCl [(y0, .inr (6, [.int zs, .ref mW, .ref mD, .int (nI 1), .int (nI t.length), .ref mT, .int (nI s0), .ref mP, .ref mR, .int za, .ref mA, .int (nI t.length), .ref mK, .ref mO, .ref mB, .ref mI, .ref mN, .ref mH, .ref mC])), (mD, .inl (g.2.2, 23, .inr (.inl fd))), (mT, .inl (g.2.1, 61, .inl t2)), (mP, .inl (g.2.1, 61, .inl p2)), (mR, .inl (g.2.1, 61, .inl r2)), (mK, .inl (g.2.1, 61, .inl k5)), (mO, .inl (g.2.1, 61, .inl o5)), (mB, .inl (g.2.1, 61, .inl b5)), (mI, .inl (g.2.2, 23, .inr (.inl w5))), (mN, .inl (g.2.1, 61, .inl n5)), (mH, .inl (g.2.1, 61, .inl h5)), (mC, .inl (g.2.1, 61, .inl c2))] H → va_D A [(y0, .inr (6, [.int zs, .ref mW, .ref mD, .int (nI 1), .int (nI t.length), .ref mT, .int (nI s0), .ref mP, .ref mR, .int za, .ref mA, .int (nI t.length), .ref mK, .ref mO, .ref mB, .ref mI, .ref mN, .ref mH, .ref mC])), (mD, .inl (g.2.2, 23, .inr (.inl fd))), (mT, .inl (g.2.1, 61, .inl t2)), (mP, .inl (g.2.1, 61, .inl p2)), (mR, .inl (g.2.1, 61, .inl r2)), (mK, .inl (g.2.1, 61, .inl k5)), (mO, .inl (g.2.1, 61, .inl o5)), (mB, .inl (g.2.1, 61, .inl b5)), (mI, .inl (g.2.2, 23, .inr (.inl w5))), (mN, .inl (g.2.1, 61, .inl n5)), (mH, .inl (g.2.1, 61, .inl h5)), (mC, .inl (g.2.1, 61, .inl c2))] → va_S A s.heap H locs → W p l e ({ frames := 3, cells := 0, slots := 0, locals := 70 } : Room) s m args below meth c H locs 0 0 Q (F0 m 192 ls []) := by
                      intro N
                      induction N with
                      | zero => intro k t2 p2 r2 H locs ls hMs; exact absurd hMs (Nat.not_lt_zero _)
                      | succ N ih192 =>
                        intro k t2 p2 r2 H locs ls hMs hk hc1 hc2b hc3 hl hP hD hS
                        refine lv_iload hx hb zdM_load_192 (lv_at hl 2 rfl) ?_
                        refine lv_aload_n hx hb zdM_load_194 rfl (lv_at hl 0 rfl) ?_
                        refine va_get (D := g.1) (ci := 6) (v := .int (nI t.length)) (C := zRM) (T := zTM) (N := 19) hx hb hts ziM hown hK hP 0 rfl rfl 11 (by decide) (hts _ zlM_54) (fun _ h => h) rfl zdM_load_195 ?_
                        refine si_icmp_gt (tgt := 249) hx hb zdM_load_198 rfl (by omega) (by omega) (fun h198 => ?_) (fun h198 => ?_)
                        · refine lv_iconst (v := nI 1) hx hb zdM_load_249 (by decide) ?_
                          exact hret (nI 1) (nI 1, nI t.length, nI s0, nI t.length, t2, p2, r2, k5, o5, b5, w5, n5, h5, c2) _ _ _ _ (rfl) (Or.inl ⟨rfl, t, s0, his, rfl, rfl, rfl, fun x hx => (hc1 x (by omega)).trans (hK5 x hx), fun x hx => (hc3 x (by omega)).trans (hsu5.1 x hx), fun x hx => (hc2b x (by omega)).trans (hsu5.2 x hx)⟩) (hP.sub [0, 1, 2, 3, 4, 5, 6, 7, 8, 9, 10, 11] rfl) (hD.sub [0, 1, 2, 3, 4, 5, 6, 7, 8, 9, 10, 11] (by decide) rfl) hS zdM_load_250
                        · refine lv_aload_n hx hb zdM_load_201 rfl (lv_at hl 0 rfl) ?_
                          refine va_get (D := g.1) (ci := 6) (v := .ref mT) (C := zRM) (T := zTM) (N := 19) hx hb hts ziM hown hK hP 0 rfl rfl 5 (by decide) (hts _ zlM_17) (fun _ h => h) rfl zdM_load_202 ?_
                          refine lv_iload hx hb zdM_load_205 (lv_at hl 2 rfl) ?_
                          refine lv_aload_n hx hb zdM_load_207 rfl (lv_at hl 0 rfl) ?_
                          refine va_get (D := g.1) (ci := 6) (v := .ref mK) (C := zRM) (T := zTM) (N := 19) hx hb hts ziM hown hK hP 0 rfl rfl 12 (by decide) (hts _ zlM_29) (fun _ h => h) rfl zdM_load_208 ?_
                          refine lv_iload hx hb zdM_load_211 (lv_at hl 2 rfl) ?_
                          refine si_iald (v := k5 k) hx hb hK hP 5 0 rfl rfl (by decide) (by omega) (rfl) zdM_load_213 ?_
                          refine si_iast hx hb hK hP hD hS 2 0 rfl rfl (by decide) (by omega) zdM_load_214 (fun H locs hP hD hS => ?_)
                          have hP : va_P g.1 vwCl [(y0, .inr (6, [.int zs, .ref mW, .ref mD, .int (nI 1), .int (nI t.length), .ref mT, .int (nI s0), .ref mP, .ref mR, .int za, .ref mA, .int (nI t.length), .ref mK, .ref mO, .ref mB, .ref mI, .ref mN, .ref mH, .ref mC])), (mD, .inl (g.2.2, 23, .inr (.inl fd))), (mT, .inl (g.2.1, 61, .inl (upd t2 k (k5 k)))), (mP, .inl (g.2.1, 61, .inl p2)), (mR, .inl (g.2.1, 61, .inl r2)), (mK, .inl (g.2.1, 61, .inl k5)), (mO, .inl (g.2.1, 61, .inl o5)), (mB, .inl (g.2.1, 61, .inl b5)), (mI, .inl (g.2.2, 23, .inr (.inl w5))), (mN, .inl (g.2.1, 61, .inl n5)), (mH, .inl (g.2.1, 61, .inl h5)), (mC, .inl (g.2.1, 61, .inl c2))] H := hP
                          have hD : va_D A [(y0, .inr (6, [.int zs, .ref mW, .ref mD, .int (nI 1), .int (nI t.length), .ref mT, .int (nI s0), .ref mP, .ref mR, .int za, .ref mA, .int (nI t.length), .ref mK, .ref mO, .ref mB, .ref mI, .ref mN, .ref mH, .ref mC])), (mD, .inl (g.2.2, 23, .inr (.inl fd))), (mT, .inl (g.2.1, 61, .inl (upd t2 k (k5 k)))), (mP, .inl (g.2.1, 61, .inl p2)), (mR, .inl (g.2.1, 61, .inl r2)), (mK, .inl (g.2.1, 61, .inl k5)), (mO, .inl (g.2.1, 61, .inl o5)), (mB, .inl (g.2.1, 61, .inl b5)), (mI, .inl (g.2.2, 23, .inr (.inl w5))), (mN, .inl (g.2.1, 61, .inl n5)), (mH, .inl (g.2.1, 61, .inl h5)), (mC, .inl (g.2.1, 61, .inl c2))] := hD
                          refine lv_aload_n hx hb zdM_load_215 rfl (lv_at hl 0 rfl) ?_
                          refine va_get (D := g.1) (ci := 6) (v := .ref mP) (C := zRM) (T := zTM) (N := 19) hx hb hts ziM hown hK hP 0 rfl rfl 7 (by decide) (hts _ zlM_20) (fun _ h => h) rfl zdM_load_216 ?_
                          refine lv_iload hx hb zdM_load_219 (lv_at hl 2 rfl) ?_
                          refine lv_aload_n hx hb zdM_load_221 rfl (lv_at hl 0 rfl) ?_
                          refine va_get (D := g.1) (ci := 6) (v := .ref mO) (C := zRM) (T := zTM) (N := 19) hx hb hts ziM hown hK hP 0 rfl rfl 13 (by decide) (hts _ zlM_32) (fun _ h => h) rfl zdM_load_222 ?_
                          refine lv_iload hx hb zdM_load_225 (lv_at hl 2 rfl) ?_
                          refine si_iald (v := o5 k) hx hb hK hP 6 0 rfl rfl (by decide) (by omega) (rfl) zdM_load_227 ?_
                          refine si_iast hx hb hK hP hD hS 3 0 rfl rfl (by decide) (by omega) zdM_load_228 (fun H locs hP hD hS => ?_)
                          have hP : va_P g.1 vwCl [(y0, .inr (6, [.int zs, .ref mW, .ref mD, .int (nI 1), .int (nI t.length), .ref mT, .int (nI s0), .ref mP, .ref mR, .int za, .ref mA, .int (nI t.length), .ref mK, .ref mO, .ref mB, .ref mI, .ref mN, .ref mH, .ref mC])), (mD, .inl (g.2.2, 23, .inr (.inl fd))), (mT, .inl (g.2.1, 61, .inl (upd t2 k (k5 k)))), (mP, .inl (g.2.1, 61, .inl (upd p2 k (o5 k)))), (mR, .inl (g.2.1, 61, .inl r2)), (mK, .inl (g.2.1, 61, .inl k5)), (mO, .inl (g.2.1, 61, .inl o5)), (mB, .inl (g.2.1, 61, .inl b5)), (mI, .inl (g.2.2, 23, .inr (.inl w5))), (mN, .inl (g.2.1, 61, .inl n5)), (mH, .inl (g.2.1, 61, .inl h5)), (mC, .inl (g.2.1, 61, .inl c2))] H := hP
                          have hD : va_D A [(y0, .inr (6, [.int zs, .ref mW, .ref mD, .int (nI 1), .int (nI t.length), .ref mT, .int (nI s0), .ref mP, .ref mR, .int za, .ref mA, .int (nI t.length), .ref mK, .ref mO, .ref mB, .ref mI, .ref mN, .ref mH, .ref mC])), (mD, .inl (g.2.2, 23, .inr (.inl fd))), (mT, .inl (g.2.1, 61, .inl (upd t2 k (k5 k)))), (mP, .inl (g.2.1, 61, .inl (upd p2 k (o5 k)))), (mR, .inl (g.2.1, 61, .inl r2)), (mK, .inl (g.2.1, 61, .inl k5)), (mO, .inl (g.2.1, 61, .inl o5)), (mB, .inl (g.2.1, 61, .inl b5)), (mI, .inl (g.2.2, 23, .inr (.inl w5))), (mN, .inl (g.2.1, 61, .inl n5)), (mH, .inl (g.2.1, 61, .inl h5)), (mC, .inl (g.2.1, 61, .inl c2))] := hD
                          refine lv_aload_n hx hb zdM_load_229 rfl (lv_at hl 0 rfl) ?_
                          refine va_get (D := g.1) (ci := 6) (v := .ref mR) (C := zRM) (T := zTM) (N := 19) hx hb hts ziM hown hK hP 0 rfl rfl 8 (by decide) (hts _ zlM_23) (fun _ h => h) rfl zdM_load_230 ?_
                          refine lv_iload hx hb zdM_load_233 (lv_at hl 2 rfl) ?_
                          refine lv_aload_n hx hb zdM_load_235 rfl (lv_at hl 0 rfl) ?_
                          refine va_get (D := g.1) (ci := 6) (v := .ref mB) (C := zRM) (T := zTM) (N := 19) hx hb hts ziM hown hK hP 0 rfl rfl 14 (by decide) (hts _ zlM_35) (fun _ h => h) rfl zdM_load_236 ?_
                          refine lv_iload hx hb zdM_load_239 (lv_at hl 2 rfl) ?_
                          refine si_iald (v := b5 k) hx hb hK hP 7 0 rfl rfl (by decide) (by omega) (rfl) zdM_load_241 ?_
                          refine si_iast hx hb hK hP hD hS 4 0 rfl rfl (by decide) (by omega) zdM_load_242 (fun H locs hP hD hS => ?_)
                          have hP : va_P g.1 vwCl [(y0, .inr (6, [.int zs, .ref mW, .ref mD, .int (nI 1), .int (nI t.length), .ref mT, .int (nI s0), .ref mP, .ref mR, .int za, .ref mA, .int (nI t.length), .ref mK, .ref mO, .ref mB, .ref mI, .ref mN, .ref mH, .ref mC])), (mD, .inl (g.2.2, 23, .inr (.inl fd))), (mT, .inl (g.2.1, 61, .inl (upd t2 k (k5 k)))), (mP, .inl (g.2.1, 61, .inl (upd p2 k (o5 k)))), (mR, .inl (g.2.1, 61, .inl (upd r2 k (b5 k)))), (mK, .inl (g.2.1, 61, .inl k5)), (mO, .inl (g.2.1, 61, .inl o5)), (mB, .inl (g.2.1, 61, .inl b5)), (mI, .inl (g.2.2, 23, .inr (.inl w5))), (mN, .inl (g.2.1, 61, .inl n5)), (mH, .inl (g.2.1, 61, .inl h5)), (mC, .inl (g.2.1, 61, .inl c2))] H := hP
                          have hD : va_D A [(y0, .inr (6, [.int zs, .ref mW, .ref mD, .int (nI 1), .int (nI t.length), .ref mT, .int (nI s0), .ref mP, .ref mR, .int za, .ref mA, .int (nI t.length), .ref mK, .ref mO, .ref mB, .ref mI, .ref mN, .ref mH, .ref mC])), (mD, .inl (g.2.2, 23, .inr (.inl fd))), (mT, .inl (g.2.1, 61, .inl (upd t2 k (k5 k)))), (mP, .inl (g.2.1, 61, .inl (upd p2 k (o5 k)))), (mR, .inl (g.2.1, 61, .inl (upd r2 k (b5 k)))), (mK, .inl (g.2.1, 61, .inl k5)), (mO, .inl (g.2.1, 61, .inl o5)), (mB, .inl (g.2.1, 61, .inl b5)), (mI, .inl (g.2.2, 23, .inr (.inl w5))), (mN, .inl (g.2.1, 61, .inl n5)), (mH, .inl (g.2.1, 61, .inl h5)), (mC, .inl (g.2.1, 61, .inl c2))] := hD
                          refine lv_iinc (k := 2) (v := nI (k + 1)) (lv' := [(4, .int (nI (k + 1))), (0, .ref y0), (1, .long (lN hd >>> ((nI 8).toInt64 &&& 63)))]) hx hb zdM_load_243 hl rfl (si_inc _) (Nat.le_of_ble_eq_true rfl) rfl (fun ls hl => ?_)
                          refine lv_goto (tgt := 192) hx hb zdM_load_246 rfl ?_
                          exact ih192 (k + 1) (upd t2 k (k5 k)) (upd p2 k (o5 k)) (upd r2 k (b5 k)) _ _ _ (by omega) (by omega) (si_up hc1 rfl) (si_up hc2b rfl) (si_up hc3 rfl) (lv_sub hl [1, 2, 0] rfl) (hP.sub [0, 1, 2, 3, 4, 5, 6, 7, 8, 9, 10, 11] rfl) (hD.sub [0, 1, 2, 3, 4, 5, 6, 7, 8, 9, 10, 11] (by decide) rfl) hS
                    exact L192 (t.length + 1 - 0 + 1) 0 ft fp fr _ _ _ (by omega) (by omega) (fun x hx => absurd hx (Nat.not_lt_zero _)) (fun x hx => absurd hx (Nat.not_lt_zero _)) (fun x hx => absurd hx (Nat.not_lt_zero _)) (lv_sub hl [1, 2, 0] rfl) (hP.sub [0, 1, 2, 3, 4, 5, 6, 7, 8, 9, 10, 11] rfl) (hD.sub [0, 1, 2, 3, 4, 5, 6, 7, 8, 9, 10, 11] (by decide) rfl) hS
                  · refine lv_aload_n hx hb zdM_load_144 rfl (lv_at hl 0 rfl) ?_
                    refine va_get (D := g.1) (ci := 6) (v := .ref mI) (C := zRM) (T := zTM) (N := 19) hx hb hts ziM hown hK hP 0 rfl rfl 15 (by decide) (hts _ zlM_38) (fun _ h => h) rfl zdM_load_145 ?_
                    refine lv_iload hx hb zdM_load_148 (lv_at hl 2 rfl) ?_
                    refine si_lald (v := w5 k) hx hb hK hP 8 1 rfl rfl (by decide) (by omega) (rfl) zdM_load_150 ?_
                    refine lv_aload_n hx hb zdM_load_151 rfl (lv_at hl 0 rfl) ?_
                    refine va_get (D := g.1) (ci := 6) (v := .ref mD) (C := zRM) (T := zTM) (N := 19) hx hb hts ziM hown hK hP 0 rfl rfl 2 (by decide) (hts _ zlM_13) (fun _ h => h) rfl zdM_load_152 ?_
                    refine lv_iload hx hb zdM_load_155 (lv_at hl 2 rfl) ?_
                    refine si_lald (v := fd k) hx hb hK hP 1 1 rfl rfl (by decide) (by omega) (rfl) zdM_load_157 ?_
                    refine W.lcmp hx hb zdM_load_158 ?_
                    refine lv_if_eq (tgt := 164) hx hb zdM_load_159 rfl (fun h159 => ?_) (fun h159 => ?_)
                    · refine lv_iinc (k := 2) (v := nI (k + 1)) (lv' := [(4, .int (nI (k + 1))), (0, .ref y0), (1, .long (lN hd >>> ((nI 8).toInt64 &&& 63)))]) hx hb zdM_load_164 hl rfl (si_inc _) (Nat.le_of_ble_eq_true rfl) rfl (fun ls hl => ?_)
                      refine lv_goto (tgt := 137) hx hb zdM_load_167 rfl ?_
                      exact ih137 (k + 1) _ _ _ (by omega) (by omega) (lt_s hE ((si_lc0 _ _).mp h159)) (lv_sub hl [1, 2, 0] rfl) (hP.sub [0, 1, 2, 3, 4, 5, 6, 7, 8, 9, 10, 11] rfl) (hD.sub [0, 1, 2, 3, 4, 5, 6, 7, 8, 9, 10, 11] (by decide) rfl) hS
                    · have hno : ∀ v k, ¬ si_is fd v k := by
                        intro v k9 hv
                        obtain ⟨e1, e2, e3⟩ := si_ml_is hhd hs2 hxs hv
                        have e4 := hall v hv.1 e1 (by rw [hcxe]; exact e3)
                        subst e4 e2
                        exact h159 ((si_lc0 _ _).mpr (by rw [hw5 k (by omega), hv.2.2.2 k (by omega)]))
                      refine lv_iconst (v := nI 0) hx hb zdM_load_162 (by decide) ?_
                      exact hret (nI 0) (zt, zn, ze, nI t.length, ft, fp, fr, k5, o5, b5, w5, n5, h5, c2) _ _ _ _ (rfl) (Or.inr ⟨rfl, hno, rfl, rfl, rfl, rfl, rfl, rfl⟩) (hP.sub [0, 1, 2, 3, 4, 5, 6, 7, 8, 9, 10, 11] rfl) (hD.sub [0, 1, 2, 3, 4, 5, 6, 7, 8, 9, 10, 11] (by decide) rfl) hS zdM_load_163
              exact L137 (23 - 0 + 1) 0 _ _ _ (by omega) (by omega) (fun x hx => absurd hx (Nat.not_lt_zero _)) (lv_sub hl [1, 2, 0] rfl) (hP.sub [5, 0, 1, 2, 3, 6, 7, 8, 9, 10, 11, 4] rfl) (hD.sub [5, 0, 1, 2, 3, 6, 7, 8, 9, 10, 11, 4] (by decide) rfl) hS
            · obtain ⟨j, rfl, rfl⟩ := si_dw_1 hdw h74
              have hcr := hc7 row hrow
              refine lv_aload_n hx hb zdM_load_77 rfl (lv_at hl 0 rfl) ?_
              refine va_get (D := g.1) (ci := 6) (v := .ref mK) (C := zRM) (T := zTM) (N := 19) hx hb hts ziM hown hK hP 0 rfl rfl 12 (by decide) (hts _ zlM_29) (fun _ h => h) rfl zdM_load_78 ?_
              refine lv_iload hx hb zdM_load_81 (lv_at hl 3 rfl) ?_
              refine lv_aload_n hx hb zdM_load_83 rfl (lv_at hl 0 rfl) ?_
              refine va_get (D := g.1) (ci := 6) (v := .ref mC) (C := zRM) (T := zTM) (N := 19) hx hb hts ziM hown hK hP 0 rfl rfl 18 (by decide) (hts _ zlM_47) (fun _ h => h) rfl zdM_load_84 ?_
              refine lv_iload_n hx hb zdM_load_87 rfl (lv_at hl 2 rfl) ?_
              refine si_iald (v := nI (cx row)) hx hb hK hP 11 0 rfl rfl (by decide) (by omega) (hc2x row hrow) zdM_load_88 ?_
              refine si_iast hx hb hK hP hD hS 5 0 rfl rfl (by decide) (by omega) zdM_load_89 (fun H locs hP hD hS => ?_)
              have hP : va_P g.1 vwCl [(y0, .inr (6, [.int zs, .ref mW, .ref mD, .int zt, .int zn, .ref mT, .int ze, .ref mP, .ref mR, .int za, .ref mA, .int (nI (hd % 256)), .ref mK, .ref mO, .ref mB, .ref mI, .ref mN, .ref mH, .ref mC])), (mD, .inl (g.2.2, 23, .inr (.inl fd))), (mT, .inl (g.2.1, 61, .inl ft)), (mP, .inl (g.2.1, 61, .inl fp)), (mR, .inl (g.2.1, 61, .inl fr)), (mK, .inl (g.2.1, 61, .inl (upd k2 j (nI (cx row))))), (mO, .inl (g.2.1, 61, .inl fo)), (mB, .inl (g.2.1, 61, .inl fb)), (mI, .inl (g.2.2, 23, .inr (.inl fi))), (mN, .inl (g.2.1, 61, .inl n2)), (mH, .inl (g.2.1, 61, .inl h2)), (mC, .inl (g.2.1, 61, .inl c2))] H := hP
              have hD : va_D A [(y0, .inr (6, [.int zs, .ref mW, .ref mD, .int zt, .int zn, .ref mT, .int ze, .ref mP, .ref mR, .int za, .ref mA, .int (nI (hd % 256)), .ref mK, .ref mO, .ref mB, .ref mI, .ref mN, .ref mH, .ref mC])), (mD, .inl (g.2.2, 23, .inr (.inl fd))), (mT, .inl (g.2.1, 61, .inl ft)), (mP, .inl (g.2.1, 61, .inl fp)), (mR, .inl (g.2.1, 61, .inl fr)), (mK, .inl (g.2.1, 61, .inl (upd k2 j (nI (cx row))))), (mO, .inl (g.2.1, 61, .inl fo)), (mB, .inl (g.2.1, 61, .inl fb)), (mI, .inl (g.2.2, 23, .inr (.inl fi))), (mN, .inl (g.2.1, 61, .inl n2)), (mH, .inl (g.2.1, 61, .inl h2)), (mC, .inl (g.2.1, 61, .inl c2))] := hD
              refine lv_aload_n hx hb zdM_load_90 rfl (lv_at hl 0 rfl) ?_
              refine va_get (D := g.1) (ci := 6) (v := .ref mK) (C := zRM) (T := zTM) (N := 19) hx hb hts ziM hown hK hP 0 rfl rfl 12 (by decide) (hts _ zlM_29) (fun _ h => h) rfl zdM_load_91 ?_
              refine lv_iload hx hb zdM_load_94 (lv_at hl 3 rfl) ?_
              refine si_iald (v := nI (cx row)) hx hb hK hP 5 0 rfl rfl (by decide) (by omega) (pk_us) zdM_load_96 ?_
              refine lv_bipush (v := nI 32) hx hb zdM_load_97 (by decide) ?_
              refine si_icmp_lt (tgt := 114) hx hb zdM_load_99 rfl (by omega) (by decide) (fun h99 => ?_) (fun h99 => ?_)
              · have hno : ∀ v k, ¬ si_is fd v k := by
                  intro v k9 hv
                  obtain ⟨e1, e2, e3⟩ := si_ml_is hhd hs2 hxs hv
                  exact si_bs_no hbs (by omega) (fun z => by omega) v hv.1 e1 (by rw [hcxe]; exact e3)
                refine lv_iconst (v := nI 0) hx hb zdM_load_114 (by decide) ?_
                exact hret (nI 0) (zt, zn, ze, nI (hd % 256), ft, fp, fr, upd k2 j (nI (cx row)), fo, fb, fi, n2, h2, c2) _ _ _ _ (rfl) (Or.inr ⟨rfl, hno, rfl, rfl, rfl, rfl, rfl, rfl⟩) (hP.sub [0, 1, 2, 3, 4, 5, 6, 7, 8, 9, 10, 11] rfl) (hD.sub [0, 1, 2, 3, 4, 5, 6, 7, 8, 9, 10, 11] (by decide) rfl) hS zdM_load_115
              · refine lv_aload_n hx hb zdM_load_102 rfl (lv_at hl 0 rfl) ?_
                refine va_get (D := g.1) (ci := 6) (v := .ref mK) (C := zRM) (T := zTM) (N := 19) hx hb hts ziM hown hK hP 0 rfl rfl 12 (by decide) (hts _ zlM_29) (fun _ h => h) rfl zdM_load_103 ?_
                refine lv_iload hx hb zdM_load_106 (lv_at hl 3 rfl) ?_
                refine si_iald (v := nI (cx row)) hx hb hK hP 5 0 rfl rfl (by decide) (by omega) (pk_us) zdM_load_108 ?_
                refine lv_bipush (v := nI 126) hx hb zdM_load_109 (by decide) ?_
                refine si_icmp_le (tgt := 116) hx hb zdM_load_111 rfl (by omega) (by decide) (fun h111 => ?_) (fun h111 => ?_)
                · refine lv_aload_n hx hb zdM_load_116 rfl (lv_at hl 0 rfl) ?_
                  refine lv_iload_n hx hb zdM_load_117 rfl (lv_at hl 2 rfl) ?_
                  refine (cM_before l g y0 mW mD mT mP mR mA mK mO mB mI mN mH mC zs zt zn ze za c2 cx (hd % 256) row hn hc2x hc7 hrow).callV (wr := [(mD, .inl (g.2.2, 23, .inr (.inl fd))), (mT, .inl (g.2.1, 61, .inl ft)), (mP, .inl (g.2.1, 61, .inl fp)), (mR, .inl (g.2.1, 61, .inl fr)), (mK, .inl (g.2.1, 61, .inl (upd k2 j (nI (cx row))))), (mO, .inl (g.2.1, 61, .inl fo)), (mB, .inl (g.2.1, 61, .inl fb)), (mI, .inl (g.2.2, 23, .inr (.inl fi))), (mN, .inl (g.2.1, 61, .inl n2)), (mH, .inl (g.2.1, 61, .inl h2))]) (As := [.int (nI row)]) (rest := []) hF (si_cV 1 hts zcM_before zlM_82 zimM_before zseM_before ziniM zhM_before ⟨Nat.le_of_ble_eq_true rfl, Nat.le_of_ble_eq_true rfl⟩) hK hN hP hD hS hA [0, 11] [1, 2, 3, 4, 5, 6, 7, 8, 9, 10] rfl rfl (by decide) (by decide) (va_recv (q := (zRM, zTM, 19)) hK hP (ci := 6) (q0 := 0) rfl rfl) rfl hl.1 rfl (Nat.le_of_ble_eq_true rfl) zdM_load_118 ⟨Nat.le_of_ble_eq_true rfl, Nat.le_of_ble_eq_true rfl⟩ rfl rfl (fun r_ _u H locs hq9 hP hD hS => ?_)
                  subst hq9
                  have hP : va_P g.1 vwCl [(mD, .inl (g.2.2, 23, .inr (.inl fd))), (mT, .inl (g.2.1, 61, .inl ft)), (mP, .inl (g.2.1, 61, .inl fp)), (mR, .inl (g.2.1, 61, .inl fr)), (mK, .inl (g.2.1, 61, .inl (upd k2 j (nI (cx row))))), (mO, .inl (g.2.1, 61, .inl fo)), (mB, .inl (g.2.1, 61, .inl fb)), (mI, .inl (g.2.2, 23, .inr (.inl fi))), (mN, .inl (g.2.1, 61, .inl n2)), (mH, .inl (g.2.1, 61, .inl h2)), (y0, .inr (6, [.int zs, .ref mW, .ref mD, .int zt, .int zn, .ref mT, .int ze, .ref mP, .ref mR, .int za, .ref mA, .int (nI (hd % 256)), .ref mK, .ref mO, .ref mB, .ref mI, .ref mN, .ref mH, .ref mC])), (mC, .inl (g.2.1, 61, .inl c2))] H := hP
                  have hD : va_D A [(mD, .inl (g.2.2, 23, .inr (.inl fd))), (mT, .inl (g.2.1, 61, .inl ft)), (mP, .inl (g.2.1, 61, .inl fp)), (mR, .inl (g.2.1, 61, .inl fr)), (mK, .inl (g.2.1, 61, .inl (upd k2 j (nI (cx row))))), (mO, .inl (g.2.1, 61, .inl fo)), (mB, .inl (g.2.1, 61, .inl fb)), (mI, .inl (g.2.2, 23, .inr (.inl fi))), (mN, .inl (g.2.1, 61, .inl n2)), (mH, .inl (g.2.1, 61, .inl h2)), (y0, .inr (6, [.int zs, .ref mW, .ref mD, .int zt, .int zn, .ref mT, .int ze, .ref mP, .ref mR, .int za, .ref mA, .int (nI (hd % 256)), .ref mK, .ref mO, .ref mB, .ref mI, .ref mN, .ref mH, .ref mC])), (mC, .inl (g.2.1, 61, .inl c2))] := hD
                  refine lv_istore_n (lv' := [(3, .int (nI (si_lf cx (hd % 256 + 1) row))), (0, .ref y0), (1, .long (lN hd >>> ((nI 8).toInt64 &&& 63))), (4, .int (nI j))]) hx hb zdM_load_121 rfl hl (Nat.le_of_ble_eq_true rfl) rfl (fun ls hl => ?_)
                  refine lv_iinc (k := 3) (v := nI j + Int32.ofInt (-1)) (lv' := [(4, .int (nI j + Int32.ofInt (-1))), (3, .int (nI (si_lf cx (hd % 256 + 1) row))), (0, .ref y0), (1, .long (lN hd >>> ((nI 8).toInt64 &&& 63)))]) hx hb zdM_load_122 hl rfl (rfl) (Nat.le_of_ble_eq_true rfl) rfl (fun ls hl => ?_)
                  refine lv_goto (tgt := 72) hx hb zdM_load_125 rfl ?_
                  exact ih72 j (nI j + Int32.ofInt (-1)) (si_lf cx (hd % 256 + 1) row) (upd k2 j (nI (cx row))) _ _ _ (by omega) (si_dw_s j) (by omega) ((si_lf_bij cx (hd % 256 + 1)).1 row hrow) (si_bs_s hbs (by omega) hrow ⟨h99, h111⟩) (lv_sub hl [2, 3, 1, 0] rfl) (hP.sub [10, 0, 1, 2, 3, 4, 5, 6, 7, 8, 9, 11] rfl) (hD.sub [10, 0, 1, 2, 3, 4, 5, 6, 7, 8, 9, 11] (by decide) rfl) hS
                · have hno : ∀ v k, ¬ si_is fd v k := by
                    intro v k9 hv
                    obtain ⟨e1, e2, e3⟩ := si_ml_is hhd hs2 hxs hv
                    exact si_bs_no hbs (by omega) (fun z => by omega) v hv.1 e1 (by rw [hcxe]; exact e3)
                  refine lv_iconst (v := nI 0) hx hb zdM_load_114 (by decide) ?_
                  exact hret (nI 0) (zt, zn, ze, nI (hd % 256), ft, fp, fr, upd k2 j (nI (cx row)), fo, fb, fi, n2, h2, c2) _ _ _ _ (rfl) (Or.inr ⟨rfl, hno, rfl, rfl, rfl, rfl, rfl, rfl⟩) (hP.sub [0, 1, 2, 3, 4, 5, 6, 7, 8, 9, 10, 11] rfl) (hD.sub [0, 1, 2, 3, 4, 5, 6, 7, 8, 9, 10, 11] (by decide) rfl) hS zdM_load_115
        exact L72 ((hd % 256) + 1) (hd % 256) (nI (hd % 256) - nI 1) 0 fk _ _ _ (by omega) (si_dw_m _) (by omega) (by omega) (si_bs_0) (lv_sub hl [3, 2, 1, 0] rfl) (hP.sub [7, 8, 0, 1, 2, 3, 4, 5, 6, 9, 10, 11] rfl) (hD.sub [7, 8, 0, 1, 2, 3, 4, 5, 6, 9, 10, 11] (by decide) rfl) hS
      · have hno := si_rd_no hhd ((si_lcG _ _).mp (Int32.not_le.mp h38))
        refine lv_iconst (v := nI 0) hx hb zdM_load_41 (by decide) ?_
        exact hret (nI 0) (zt, zn, ze, zm, ft, fp, fr, fk, fo, fb, fi, fn, fh, fc) _ _ _ _ (rfl) (Or.inr ⟨rfl, hno, rfl, rfl, rfl, rfl, rfl, rfl⟩) (hP.sub [0, 1, 2, 3, 4, 5, 6, 7, 8, 9, 10, 11] rfl) (hD.sub [0, 1, 2, 3, 4, 5, 6, 7, 8, 9, 10, 11] (by decide) rfl) hS zdM_load_42

