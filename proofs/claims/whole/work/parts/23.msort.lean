/-! Contracts of the reference: sorting, levels. Written by wip/draft/p23.py -/
theorem si_ear {t : List Nat} {a b : Nat} (hok : si_ok t) (ha : a ≤ t.length) (hb : b ≤ t.length) (hne : a ≠ b) (hst : a = t.length ∨ b = t.length ∨ si_g t a ≠ si_g t b) : si_sf t a b = decide (si_g t a < si_g t b) := by
  by_cases ea : a = t.length
  · have hb2 : b < t.length := by omega
    have := si_ok_at hok hb2
    rw [ea, si_sf_e hb2, si_g_out (Nat.le_refl _)]
    exact (decide_eq_true (by omega)).symm
  · by_cases eb : b = t.length
    · rw [eb, si_sf_n, si_g_out (Nat.le_refl t.length)]
      exact (decide_eq_false (by omega)).symm
    · have h1 : si_g t a ≠ si_g t b := by
        rcases hst with h | h | h
        · exact absurd h ea
        · exact absurd h eb
        · exact h
      by_cases h2 : si_g t a < si_g t b
      · rw [si_sm_lt ha (by omega) h2, decide_eq_true h2]
      · rw [si_sm_gt ha (by omega) (by omega), decide_eq_false h2]
theorem si_k1 {t : List Nat} {f : Nat → Int32} (h : ∀ x, x < t.length → f x = nI (si_g t x)) : ∀ x, x < t.length + 1 → upd f t.length (nI 0) x = nI (si_g t x) := by
  intro x hx
  by_cases e : x = t.length
  · subst e; rw [pk_us, si_g_out (Nat.le_refl _)]
  · rw [pk_un e]; exact h x (by omega)
set_option maxHeartbeats 4000000 in
set_option maxRecDepth 100000 in
/-- earlier -/
theorem cM_earlier (l : Launch) (g : si_G) (y0 mW mD mT mP mR mA mK mO mB mI mN mH mC : Nat) (zs zt zn ze za : Int32) (fk : Nat → Int32) (t : List Nat) (kq kp : Nat) (hok : si_ok t) (hK1 : ∀ x, x < t.length + 1 → fk x = nI (si_g t x)) (hq : kq ≤ t.length) (hp : kp ≤ t.length) (hne0 : kq ≠ kp) : si_Mi (S := Unit) l g vwCl zyM_earlier zwM_earlier ({ frames := 0, cells := 0, slots := 0, locals := 0 } : Room) [.ref y0, .int (nI kq), .int (nI kp)] [(y0, .inr (6, [.int zs, .ref mW, .ref mD, .int zt, .int zn, .ref mT, .int ze, .ref mP, .ref mR, .int za, .ref mA, .int (nI t.length), .ref mK, .ref mO, .ref mB, .ref mI, .ref mN, .ref mH, .ref mC])), (mK, .inl (g.2.1, 61, .inl fk))] (fun r u => r = nI (si_sf t kq kp).toNat) (fun u => [(y0, .inr (6, [.int zs, .ref mW, .ref mD, .int zt, .int zn, .ref mT, .int ze, .ref mP, .ref mR, .int za, .ref mA, .int (nI t.length), .ref mK, .ref mO, .ref mB, .ref mI, .ref mN, .ref mH, .ref mC])), (mK, .inl (g.2.1, 61, .inl fk))]) := by
  refine si_Mi.of (cc := zkM_earlier) (maxL := 5) (by decide) rfl (Nat.le_of_ble_eq_true rfl) ?_
  intro p e s m args below meth c A Q ls hF0 hin hK hN hP hD hA hS hl hret
  obtain ⟨hx, hb, hml, hown, hts0⟩ := hF0
  have hts : ∀ w ∈ si_tbl, w.before args s = true := fun w hw => hts0 w (List.mem_cons_of_mem _ hw)
  have hF : CallFix p m c zkM_earlier 5 s args si_tbl zRM := ⟨hx, hb, hml, hown, hts⟩
  have hl : lv_has ls 5 [(0, .ref y0), (1, .int (nI kq)), (2, .int (nI kp))] := hl
  have hn := hok.1
  refine lv_iload_n hx hb zdM_earlier_0 rfl (lv_at hl 1 rfl) ?_
  refine lv_istore_n (lv' := [(3, .int (nI kq)), (0, .ref y0), (1, .int (nI kq)), (2, .int (nI kp))]) hx hb zdM_earlier_1 rfl hl (Nat.le_of_ble_eq_true rfl) rfl (fun ls hl => ?_)
  refine lv_iload_n hx hb zdM_earlier_2 rfl (lv_at hl 3 rfl) ?_
  refine lv_istore (lv' := [(4, .int (nI kp)), (3, .int (nI kq)), (0, .ref y0), (1, .int (nI kq)), (2, .int (nI kp))]) hx hb zdM_earlier_3 hl (Nat.le_of_ble_eq_true rfl) rfl (fun ls hl => ?_)
  have L5 : ∀ (N : Nat) (a : Nat) (b : Nat) (H : Heap) (locs : List Loc) (ls : Array Slot), t.length - a < N → (a ≤ t.length) → (b ≤ t.length) → (a ≠ b) → (si_sf t kq kp = si_sf t a b) → lv_has ls 5 [(0, .ref y0), (1, .int (nI kq)), (2, .int (nI kp)), (3, .int (nI a)), (4, .int (nI b))] → va_P g.1 vwCl [(y0, .inr (6, [.int zs, .ref mW, .ref mD, .int zt, .int zn, .ref mT, .int ze, .ref mP, .ref mR, .int za, .ref mA, .int (nI t.length), .ref mK, .ref mO, .ref mB, .ref mI, .ref mN, .ref mH, .ref mC])), (mK, .inl (g.2.1, 61, .inl fk))] H → va_D A [(y0, .inr (6, [.int zs, .ref mW, .ref mD, .int zt, .int zn, .ref mT, .int ze, .ref mP, .ref mR, .int za, .ref mA, .int (nI t.length), .ref mK, .ref mO, .ref mB, .ref mI, .ref mN, .ref mH, .ref mC])), (mK, .inl (g.2.1, 61, .inl fk))] → va_S A s.heap H locs → W p l e ({ frames := 0, cells := 0, slots := 0, locals := 0 } : Room) s m args below meth c H locs 0 0 Q (F0 m 5 ls []) := by
    intro N
    induction N with
    | zero => intro a b H locs ls hMs; exact absurd hMs (Nat.not_lt_zero _)
    | succ N ih5 =>
      intro a b H locs ls hMs ha hb2 hne hsf hl hP hD hS
      refine lv_iload_n hx hb zdM_earlier_5 rfl (lv_at hl 3 rfl) ?_
      refine lv_aload_n hx hb zdM_earlier_6 rfl (lv_at hl 0 rfl) ?_
      refine va_get (D := g.1) (ci := 6) (v := .int (nI t.length)) (C := zRM) (T := zTM) (N := 19) hx hb hts ziM hown hK hP 0 rfl rfl 11 (by decide) (hts _ zlM_54) (fun _ h => h) rfl zdM_earlier_7 ?_
      refine si_icmp_ge (tgt := 47) hx hb zdM_earlier_10 rfl (by omega) (by omega) (fun h10 => ?_) (fun h10 => ?_)
      · have hst : a = t.length ∨ b = t.length ∨ si_g t a ≠ si_g t b := Or.inl (by omega)
        refine lv_aload_n hx hb zdM_earlier_47 rfl (lv_at hl 0 rfl) ?_
        refine va_get (D := g.1) (ci := 6) (v := .ref mK) (C := zRM) (T := zTM) (N := 19) hx hb hts ziM hown hK hP 0 rfl rfl 12 (by decide) (hts _ zlM_29) (fun _ h => h) rfl zdM_earlier_48 ?_
        refine lv_iload_n hx hb zdM_earlier_51 rfl (lv_at hl 3 rfl) ?_
        refine si_iald (v := nI (si_g t a)) hx hb hK hP 1 0 rfl rfl (by decide) (by omega) (hK1 a (by omega)) zdM_earlier_52 ?_
        refine lv_aload_n hx hb zdM_earlier_53 rfl (lv_at hl 0 rfl) ?_
        refine va_get (D := g.1) (ci := 6) (v := .ref mK) (C := zRM) (T := zTM) (N := 19) hx hb hts ziM hown hK hP 0 rfl rfl 12 (by decide) (hts _ zlM_29) (fun _ h => h) rfl zdM_earlier_54 ?_
        refine lv_iload hx hb zdM_earlier_57 (lv_at hl 4 rfl) ?_
        refine si_iald (v := nI (si_g t b)) hx hb hK hP 1 0 rfl rfl (by decide) (by omega) (hK1 b (by omega)) zdM_earlier_59 ?_
        refine si_icmp_ge (tgt := 67) hx hb zdM_earlier_60 rfl (si_g_lt hok.2) (si_g_lt hok.2) (fun h60 => ?_) (fun h60 => ?_)
        · have hres : si_sf t kq kp = false := by rw [hsf, si_ear hok ha hb2 hne hst]; exact decide_eq_false (by omega)
          refine lv_iconst (v := nI 0) hx hb zdM_earlier_67 (by decide) ?_
          exact hret (nI 0) () _ _ _ _ (rfl) (by rw [hres]; rfl) (hP.sub [0, 1] rfl) (hD.sub [0, 1] (by decide) rfl) hS zdM_earlier_68
        · have hres : si_sf t kq kp = true := by rw [hsf, si_ear hok ha hb2 hne hst]; exact decide_eq_true h60
          refine lv_iconst (v := nI 1) hx hb zdM_earlier_63 (by decide) ?_
          refine lv_goto (tgt := 68) hx hb zdM_earlier_64 rfl ?_
          exact hret (nI 1) () _ _ _ _ (rfl) (by rw [hres]; rfl) (hP.sub [0, 1] rfl) (hD.sub [0, 1] (by decide) rfl) hS zdM_earlier_68
      · refine lv_iload hx hb zdM_earlier_13 (lv_at hl 4 rfl) ?_
        refine lv_aload_n hx hb zdM_earlier_15 rfl (lv_at hl 0 rfl) ?_
        refine va_get (D := g.1) (ci := 6) (v := .int (nI t.length)) (C := zRM) (T := zTM) (N := 19) hx hb hts ziM hown hK hP 0 rfl rfl 11 (by decide) (hts _ zlM_54) (fun _ h => h) rfl zdM_earlier_16 ?_
        refine si_icmp_ge (tgt := 47) hx hb zdM_earlier_19 rfl (by omega) (by omega) (fun h19 => ?_) (fun h19 => ?_)
        · have hst : a = t.length ∨ b = t.length ∨ si_g t a ≠ si_g t b := Or.inr (Or.inl (by omega))
          refine lv_aload_n hx hb zdM_earlier_47 rfl (lv_at hl 0 rfl) ?_
          refine va_get (D := g.1) (ci := 6) (v := .ref mK) (C := zRM) (T := zTM) (N := 19) hx hb hts ziM hown hK hP 0 rfl rfl 12 (by decide) (hts _ zlM_29) (fun _ h => h) rfl zdM_earlier_48 ?_
          refine lv_iload_n hx hb zdM_earlier_51 rfl (lv_at hl 3 rfl) ?_
          refine si_iald (v := nI (si_g t a)) hx hb hK hP 1 0 rfl rfl (by decide) (by omega) (hK1 a (by omega)) zdM_earlier_52 ?_
          refine lv_aload_n hx hb zdM_earlier_53 rfl (lv_at hl 0 rfl) ?_
          refine va_get (D := g.1) (ci := 6) (v := .ref mK) (C := zRM) (T := zTM) (N := 19) hx hb hts ziM hown hK hP 0 rfl rfl 12 (by decide) (hts _ zlM_29) (fun _ h => h) rfl zdM_earlier_54 ?_
          refine lv_iload hx hb zdM_earlier_57 (lv_at hl 4 rfl) ?_
          refine si_iald (v := nI (si_g t b)) hx hb hK hP 1 0 rfl rfl (by decide) (by omega) (hK1 b (by omega)) zdM_earlier_59 ?_
          refine si_icmp_ge (tgt := 67) hx hb zdM_earlier_60 rfl (si_g_lt hok.2) (si_g_lt hok.2) (fun h60 => ?_) (fun h60 => ?_)
          · have hres : si_sf t kq kp = false := by rw [hsf, si_ear hok ha hb2 hne hst]; exact decide_eq_false (by omega)
            refine lv_iconst (v := nI 0) hx hb zdM_earlier_67 (by decide) ?_
            exact hret (nI 0) () _ _ _ _ (rfl) (by rw [hres]; rfl) (hP.sub [0, 1] rfl) (hD.sub [0, 1] (by decide) rfl) hS zdM_earlier_68
          · have hres : si_sf t kq kp = true := by rw [hsf, si_ear hok ha hb2 hne hst]; exact decide_eq_true h60
            refine lv_iconst (v := nI 1) hx hb zdM_earlier_63 (by decide) ?_
            refine lv_goto (tgt := 68) hx hb zdM_earlier_64 rfl ?_
            exact hret (nI 1) () _ _ _ _ (rfl) (by rw [hres]; rfl) (hP.sub [0, 1] rfl) (hD.sub [0, 1] (by decide) rfl) hS zdM_earlier_68
        · refine lv_aload_n hx hb zdM_earlier_22 rfl (lv_at hl 0 rfl) ?_
          refine va_get (D := g.1) (ci := 6) (v := .ref mK) (C := zRM) (T := zTM) (N := 19) hx hb hts ziM hown hK hP 0 rfl rfl 12 (by decide) (hts _ zlM_29) (fun _ h => h) rfl zdM_earlier_23 ?_
          refine lv_iload_n hx hb zdM_earlier_26 rfl (lv_at hl 3 rfl) ?_
          refine si_iald (v := nI (si_g t a)) hx hb hK hP 1 0 rfl rfl (by decide) (by omega) (hK1 a (by omega)) zdM_earlier_27 ?_
          refine lv_aload_n hx hb zdM_earlier_28 rfl (lv_at hl 0 rfl) ?_
          refine va_get (D := g.1) (ci := 6) (v := .ref mK) (C := zRM) (T := zTM) (N := 19) hx hb hts ziM hown hK hP 0 rfl rfl 12 (by decide) (hts _ zlM_29) (fun _ h => h) rfl zdM_earlier_29 ?_
          refine lv_iload hx hb zdM_earlier_32 (lv_at hl 4 rfl) ?_
          refine si_iald (v := nI (si_g t b)) hx hb hK hP 1 0 rfl rfl (by decide) (by omega) (hK1 b (by omega)) zdM_earlier_34 ?_
          refine si_icmp_ne (tgt := 47) hx hb zdM_earlier_35 rfl (si_g_lt hok.2) (si_g_lt hok.2) (fun h35 => ?_) (fun h35 => ?_)
          · have hst : a = t.length ∨ b = t.length ∨ si_g t a ≠ si_g t b := Or.inr (Or.inr h35)
            refine lv_aload_n hx hb zdM_earlier_47 rfl (lv_at hl 0 rfl) ?_
            refine va_get (D := g.1) (ci := 6) (v := .ref mK) (C := zRM) (T := zTM) (N := 19) hx hb hts ziM hown hK hP 0 rfl rfl 12 (by decide) (hts _ zlM_29) (fun _ h => h) rfl zdM_earlier_48 ?_
            refine lv_iload_n hx hb zdM_earlier_51 rfl (lv_at hl 3 rfl) ?_
            refine si_iald (v := nI (si_g t a)) hx hb hK hP 1 0 rfl rfl (by decide) (by omega) (hK1 a (by omega)) zdM_earlier_52 ?_
            refine lv_aload_n hx hb zdM_earlier_53 rfl (lv_at hl 0 rfl) ?_
            refine va_get (D := g.1) (ci := 6) (v := .ref mK) (C := zRM) (T := zTM) (N := 19) hx hb hts ziM hown hK hP 0 rfl rfl 12 (by decide) (hts _ zlM_29) (fun _ h => h) rfl zdM_earlier_54 ?_
            refine lv_iload hx hb zdM_earlier_57 (lv_at hl 4 rfl) ?_
            refine si_iald (v := nI (si_g t b)) hx hb hK hP 1 0 rfl rfl (by decide) (by omega) (hK1 b (by omega)) zdM_earlier_59 ?_
            refine si_icmp_ge (tgt := 67) hx hb zdM_earlier_60 rfl (si_g_lt hok.2) (si_g_lt hok.2) (fun h60 => ?_) (fun h60 => ?_)
            · have hres : si_sf t kq kp = false := by rw [hsf, si_ear hok ha hb2 hne hst]; exact decide_eq_false (by omega)
              refine lv_iconst (v := nI 0) hx hb zdM_earlier_67 (by decide) ?_
              exact hret (nI 0) () _ _ _ _ (rfl) (by rw [hres]; rfl) (hP.sub [0, 1] rfl) (hD.sub [0, 1] (by decide) rfl) hS zdM_earlier_68
            · have hres : si_sf t kq kp = true := by rw [hsf, si_ear hok ha hb2 hne hst]; exact decide_eq_true h60
              refine lv_iconst (v := nI 1) hx hb zdM_earlier_63 (by decide) ?_
              refine lv_goto (tgt := 68) hx hb zdM_earlier_64 rfl ?_
              exact hret (nI 1) () _ _ _ _ (rfl) (by rw [hres]; rfl) (hP.sub [0, 1] rfl) (hD.sub [0, 1] (by decide) rfl) hS zdM_earlier_68
          · refine lv_iinc (k := 3) (v := nI (a + 1)) (lv' := [(3, .int (nI (a + 1))), (0, .ref y0), (1, .int (nI kq)), (2, .int (nI kp)), (4, .int (nI b))]) hx hb zdM_earlier_38 hl rfl (si_inc _) (Nat.le_of_ble_eq_true rfl) rfl (fun ls hl => ?_)
            refine lv_iinc (k := 4) (v := nI (b + 1)) (lv' := [(4, .int (nI (b + 1))), (3, .int (nI (a + 1))), (0, .ref y0), (1, .int (nI kq)), (2, .int (nI kp))]) hx hb zdM_earlier_41 hl rfl (si_inc _) (Nat.le_of_ble_eq_true rfl) rfl (fun ls hl => ?_)
            refine lv_goto (tgt := 5) hx hb zdM_earlier_44 rfl ?_
            exact ih5 (a + 1) (b + 1) _ _ _ (by omega) (by omega) (by omega) (by omega) (by rw [hsf]; exact si_sm_eq (by omega) (by omega) h35) (lv_sub hl [2, 3, 4, 1, 0] rfl) (hP.sub [0, 1] rfl) (hD.sub [0, 1] (by decide) rfl) hS
  exact L5 (t.length - kq + 1) kq kp _ _ _ (by omega) (hq) (hp) (hne0) (rfl) (lv_sub hl [2, 3, 4, 1, 0] rfl) (hP.sub [0, 1] rfl) (hD.sub [0, 1] (by decide) rfl) hS

set_option maxHeartbeats 4000000 in
set_option maxRecDepth 100000 in
/-- sort -/
theorem cM_sort (l : Launch) (g : si_G) (y0 mW mD mT mP mR mA mK mO mB mI mN mH mC : Nat) (zs zt zn ze za : Int32) (fk fo fb : Nat → Int32) (t : List Nat) (hok : si_ok t) (hK0 : ∀ x, x < t.length → fk x = nI (si_g t x)) : si_Mv (S := (Nat → Int32) × (Nat → Int32) × (Nat → Int32)) l g vwCl zyM_sort zwM_sort ({ frames := 1, cells := 0, slots := 0, locals := 24 } : Room) [.ref y0] [(y0, .inr (6, [.int zs, .ref mW, .ref mD, .int zt, .int zn, .ref mT, .int ze, .ref mP, .ref mR, .int za, .ref mA, .int (nI t.length), .ref mK, .ref mO, .ref mB, .ref mI, .ref mN, .ref mH, .ref mC])), (mK, .inl (g.2.1, 61, .inl fk)), (mO, .inl (g.2.1, 61, .inl fo)), (mB, .inl (g.2.1, 61, .inl fb))] (fun u => (∀ x, x < t.length + 1 → u.1 x = nI (si_g t x)) ∧ si_su t u.2.2 u.2.1) (fun u => [(y0, .inr (6, [.int zs, .ref mW, .ref mD, .int zt, .int zn, .ref mT, .int ze, .ref mP, .ref mR, .int za, .ref mA, .int (nI t.length), .ref mK, .ref mO, .ref mB, .ref mI, .ref mN, .ref mH, .ref mC])), (mK, .inl (g.2.1, 61, .inl u.1)), (mO, .inl (g.2.1, 61, .inl u.2.1)), (mB, .inl (g.2.1, 61, .inl u.2.2))]) := by
  refine si_Mv.of (cc := zkM_sort) (maxL := 4) (by decide) rfl (Nat.le_of_ble_eq_true rfl) ?_
  intro p e s m args below meth c A Q ls hF0 hin hK hN hP hD hA hS hl hret
  obtain ⟨hx, hb, hml, hown, hts0⟩ := hF0
  have hts : ∀ w ∈ si_tbl, w.before args s = true := fun w hw => hts0 w (List.mem_cons_of_mem _ hw)
  have hF : CallFix p m c zkM_sort 4 s args si_tbl zRM := ⟨hx, hb, hml, hown, hts⟩
  have hl : lv_has ls 4 [(0, .ref y0)] := hl
  have hn := hok.1
  refine lv_aload_n hx hb zdM_sort_0 rfl (lv_at hl 0 rfl) ?_
  refine va_get (D := g.1) (ci := 6) (v := .ref mK) (C := zRM) (T := zTM) (N := 19) hx hb hts ziM hown hK hP 0 rfl rfl 12 (by decide) (hts _ zlM_29) (fun _ h => h) rfl zdM_sort_1 ?_
  refine lv_aload_n hx hb zdM_sort_4 rfl (lv_at hl 0 rfl) ?_
  refine va_get (D := g.1) (ci := 6) (v := .int (nI t.length)) (C := zRM) (T := zTM) (N := 19) hx hb hts ziM hown hK hP 0 rfl rfl 11 (by decide) (hts _ zlM_54) (fun _ h => h) rfl zdM_sort_5 ?_
  refine lv_iconst (v := nI 0) hx hb zdM_sort_8 (by decide) ?_
  refine si_iast hx hb hK hP hD hS 1 0 rfl rfl (by decide) (by omega) zdM_sort_9 (fun H locs hP hD hS => ?_)
  have hP : va_P g.1 vwCl [(y0, .inr (6, [.int zs, .ref mW, .ref mD, .int zt, .int zn, .ref mT, .int ze, .ref mP, .ref mR, .int za, .ref mA, .int (nI t.length), .ref mK, .ref mO, .ref mB, .ref mI, .ref mN, .ref mH, .ref mC])), (mK, .inl (g.2.1, 61, .inl (upd fk t.length (nI 0)))), (mO, .inl (g.2.1, 61, .inl fo)), (mB, .inl (g.2.1, 61, .inl fb))] H := hP
  have hD : va_D A [(y0, .inr (6, [.int zs, .ref mW, .ref mD, .int zt, .int zn, .ref mT, .int ze, .ref mP, .ref mR, .int za, .ref mA, .int (nI t.length), .ref mK, .ref mO, .ref mB, .ref mI, .ref mN, .ref mH, .ref mC])), (mK, .inl (g.2.1, 61, .inl (upd fk t.length (nI 0)))), (mO, .inl (g.2.1, 61, .inl fo)), (mB, .inl (g.2.1, 61, .inl fb))] := hD
  generalize hk1 : upd fk t.length (nI 0) = k1 at hP hD
  have hK1 : ∀ x, x < t.length + 1 → k1 x = nI (si_g t x) := by rw [← hk1]; exact si_k1 hK0
  refine lv_iconst (v := nI 0) hx hb zdM_sort_10 (by decide) ?_
  refine lv_istore_n (lv' := [(1, .int (nI 0)), (0, .ref y0)]) hx hb zdM_sort_11 rfl hl (Nat.le_of_ble_eq_true rfl) rfl (fun ls hl => ?_)
  have L12 : ∀ (N : Nat) (k : Nat) (o2 : Nat → Int32) (b2 : Nat → Int32) (H : Heap) (locs : List Loc) (ls : Array Slot), t.length + 1 - k < N → (k ≤ t.length + 1) → (∀ x, x < k → b2 x = nI (si_rk t x)) → (∀ x, x < k → o2 (si_rk t x) = nI x) → lv_has ls 4 [(0, .ref y0), (1, .int (nI k))] → va_P g.1 vwCl [(y0, .inr (6, [.int zs, .ref mW, .ref mD, .int zt, .int zn, .ref mT, .int ze, .ref mP, .ref mR, .int za, .ref mA, .int (nI t.length), .ref mK, .ref mO, .ref mB, .ref mI, .ref mN, .ref mH, .ref mC])), (mK, .inl (g.2.1, 61, .inl k1)), (mO, .inl (g.2.1, 61, .inl o2)), (mB, .inl (g.2.1, 61, .inl b2))] H → va_D A [(y0, .inr (6, [.int zs, .ref mW, .ref mD, .int zt, .int zn, .ref mT, .int ze, .ref mP, .ref mR, .int za, .ref mA, .int (nI t.length), .ref mK, .ref mO, .ref mB, .ref mI, .ref mN, .ref mH, .ref mC])), (mK, .inl (g.2.1, 61, .inl k1)), (mO, .inl (g.2.1, 61, .inl o2)), (mB, .inl (g.2.1, 61, .inl b2))] → va_S A s.heap H locs → W p l e ({ frames := 1, cells := 0, slots := 0, locals := 24 } : Room) s m args below meth c H locs 0 0 Q (F0 m 12 ls []) := by
    intro N
    induction N with
    | zero => intro k o2 b2 H locs ls hMs; exact absurd hMs (Nat.not_lt_zero _)
    | succ N ih12 =>
      intro k o2 b2 H locs ls hMs hk hB hO hl hP hD hS
      refine lv_iload_n hx hb zdM_sort_12 rfl (lv_at hl 1 rfl) ?_
      refine lv_aload_n hx hb zdM_sort_13 rfl (lv_at hl 0 rfl) ?_
      refine va_get (D := g.1) (ci := 6) (v := .int (nI t.length)) (C := zRM) (T := zTM) (N := 19) hx hb hts ziM hown hK hP 0 rfl rfl 11 (by decide) (hts _ zlM_54) (fun _ h => h) rfl zdM_sort_14 ?_
      refine si_icmp_gt (tgt := 80) hx hb zdM_sort_17 rfl (by omega) (by omega) (fun h17 => ?_) (fun h17 => ?_)
      · exact hret (k1, o2, b2) _ _ _ _ (⟨hK1, fun x hx => hB x (by omega), si_pl_of (fun x hx => hO x (by omega))⟩) (hP.sub [0, 1, 2, 3] rfl) (hD.sub [0, 1, 2, 3] (by decide) rfl) hS zdM_sort_80
      · refine lv_iconst (v := nI 0) hx hb zdM_sort_20 (by decide) ?_
        refine lv_istore_n (lv' := [(2, .int (nI 0)), (0, .ref y0), (1, .int (nI k))]) hx hb zdM_sort_21 rfl hl (Nat.le_of_ble_eq_true rfl) rfl (fun ls hl => ?_)
        refine lv_iconst (v := nI 0) hx hb zdM_sort_22 (by decide) ?_
        refine lv_istore_n (lv' := [(3, .int (nI 0)), (2, .int (nI 0)), (0, .ref y0), (1, .int (nI k))]) hx hb zdM_sort_23 rfl hl (Nat.le_of_ble_eq_true rfl) rfl (fun ls hl => ?_)
        have L24 : ∀ (N : Nat) (q : Nat) (row : Nat) (H : Heap) (locs : List Loc) (ls : Array Slot), t.length + 1 - q < N → (q ≤ t.length + 1) → (row = si_cn q (fun x => si_sf t x k)) → lv_has ls 4 [(0, .ref y0), (1, .int (nI k)), (2, .int (nI row)), (3, .int (nI q))] → va_P g.1 vwCl [(y0, .inr (6, [.int zs, .ref mW, .ref mD, .int zt, .int zn, .ref mT, .int ze, .ref mP, .ref mR, .int za, .ref mA, .int (nI t.length), .ref mK, .ref mO, .ref mB, .ref mI, .ref mN, .ref mH, .ref mC])), (mK, .inl (g.2.1, 61, .inl k1)), (mO, .inl (g.2.1, 61, .inl o2)), (mB, .inl (g.2.1, 61, .inl b2))] H → va_D A [(y0, .inr (6, [.int zs, .ref mW, .ref mD, .int zt, .int zn, .ref mT, .int ze, .ref mP, .ref mR, .int za, .ref mA, .int (nI t.length), .ref mK, .ref mO, .ref mB, .ref mI, .ref mN, .ref mH, .ref mC])), (mK, .inl (g.2.1, 61, .inl k1)), (mO, .inl (g.2.1, 61, .inl o2)), (mB, .inl (g.2.1, 61, .inl b2))] → va_S A s.heap H locs → W p l e ({ frames := 1, cells := 0, slots := 0, locals := 24 } : Room) s m args below meth c H locs 0 0 Q (F0 m 24 ls []) := by
          intro N
          induction N with
          | zero => intro q row H locs ls hMs; exact absurd hMs (Nat.not_lt_zero _)
          | succ N ih24 =>
            intro q row H locs ls hMs hq hrw hl hP hD hS
            refine lv_iload_n hx hb zdM_sort_24 rfl (lv_at hl 3 rfl) ?_
            refine lv_aload_n hx hb zdM_sort_25 rfl (lv_at hl 0 rfl) ?_
            refine va_get (D := g.1) (ci := 6) (v := .int (nI t.length)) (C := zRM) (T := zTM) (N := 19) hx hb hts ziM hown hK hP 0 rfl rfl 11 (by decide) (hts _ zlM_54) (fun _ h => h) rfl zdM_sort_26 ?_
            refine si_icmp_gt (tgt := 60) hx hb zdM_sort_29 rfl (by omega) (by omega) (fun h29 => ?_) (fun h29 => ?_)
            · have hrow : row = si_rk t k := by rw [hrw, show q = t.length + 1 by omega]; rfl
              have hrk := si_rk_le (t := t) (p := k) (by omega)
              refine lv_aload_n hx hb zdM_sort_60 rfl (lv_at hl 0 rfl) ?_
              refine va_get (D := g.1) (ci := 6) (v := .ref mB) (C := zRM) (T := zTM) (N := 19) hx hb hts ziM hown hK hP 0 rfl rfl 14 (by decide) (hts _ zlM_35) (fun _ h => h) rfl zdM_sort_61 ?_
              refine lv_iload_n hx hb zdM_sort_64 rfl (lv_at hl 1 rfl) ?_
              refine lv_iload_n hx hb zdM_sort_65 rfl (lv_at hl 2 rfl) ?_
              refine si_iast hx hb hK hP hD hS 3 0 rfl rfl (by decide) (by omega) zdM_sort_66 (fun H locs hP hD hS => ?_)
              have hP : va_P g.1 vwCl [(y0, .inr (6, [.int zs, .ref mW, .ref mD, .int zt, .int zn, .ref mT, .int ze, .ref mP, .ref mR, .int za, .ref mA, .int (nI t.length), .ref mK, .ref mO, .ref mB, .ref mI, .ref mN, .ref mH, .ref mC])), (mK, .inl (g.2.1, 61, .inl k1)), (mO, .inl (g.2.1, 61, .inl o2)), (mB, .inl (g.2.1, 61, .inl (upd b2 k (nI row))))] H := hP
              have hD : va_D A [(y0, .inr (6, [.int zs, .ref mW, .ref mD, .int zt, .int zn, .ref mT, .int ze, .ref mP, .ref mR, .int za, .ref mA, .int (nI t.length), .ref mK, .ref mO, .ref mB, .ref mI, .ref mN, .ref mH, .ref mC])), (mK, .inl (g.2.1, 61, .inl k1)), (mO, .inl (g.2.1, 61, .inl o2)), (mB, .inl (g.2.1, 61, .inl (upd b2 k (nI row))))] := hD
              refine lv_aload_n hx hb zdM_sort_67 rfl (lv_at hl 0 rfl) ?_
              refine va_get (D := g.1) (ci := 6) (v := .ref mO) (C := zRM) (T := zTM) (N := 19) hx hb hts ziM hown hK hP 0 rfl rfl 13 (by decide) (hts _ zlM_32) (fun _ h => h) rfl zdM_sort_68 ?_
              refine lv_iload_n hx hb zdM_sort_71 rfl (lv_at hl 2 rfl) ?_
              refine lv_iload_n hx hb zdM_sort_72 rfl (lv_at hl 1 rfl) ?_
              refine si_iast hx hb hK hP hD hS 2 0 rfl rfl (by decide) (by omega) zdM_sort_73 (fun H locs hP hD hS => ?_)
              have hP : va_P g.1 vwCl [(y0, .inr (6, [.int zs, .ref mW, .ref mD, .int zt, .int zn, .ref mT, .int ze, .ref mP, .ref mR, .int za, .ref mA, .int (nI t.length), .ref mK, .ref mO, .ref mB, .ref mI, .ref mN, .ref mH, .ref mC])), (mK, .inl (g.2.1, 61, .inl k1)), (mO, .inl (g.2.1, 61, .inl (upd o2 row (nI k)))), (mB, .inl (g.2.1, 61, .inl (upd b2 k (nI row))))] H := hP
              have hD : va_D A [(y0, .inr (6, [.int zs, .ref mW, .ref mD, .int zt, .int zn, .ref mT, .int ze, .ref mP, .ref mR, .int za, .ref mA, .int (nI t.length), .ref mK, .ref mO, .ref mB, .ref mI, .ref mN, .ref mH, .ref mC])), (mK, .inl (g.2.1, 61, .inl k1)), (mO, .inl (g.2.1, 61, .inl (upd o2 row (nI k)))), (mB, .inl (g.2.1, 61, .inl (upd b2 k (nI row))))] := hD
              refine lv_iinc (k := 1) (v := nI (k + 1)) (lv' := [(1, .int (nI (k + 1))), (0, .ref y0), (2, .int (nI row)), (3, .int (nI q))]) hx hb zdM_sort_74 hl rfl (si_inc _) (Nat.le_of_ble_eq_true rfl) rfl (fun ls hl => ?_)
              refine lv_goto (tgt := 12) hx hb zdM_sort_77 rfl ?_
              exact ih12 (k + 1) (upd o2 row (nI k)) (upd b2 k (nI row)) _ _ _ (by omega) (by omega) (si_up (F := fun x => nI (si_rk t x)) hB (by rw [hrow])) (by rw [hrow]; exact si_plU (by omega) hO) (lv_sub hl [1, 0] rfl) (hP.sub [0, 1, 2, 3] rfl) (hD.sub [0, 1, 2, 3] (by decide) rfl) hS
            · have hrl : row ≤ q := by rw [hrw]; exact si_cn_le _ _
              refine lv_iload_n hx hb zdM_sort_32 rfl (lv_at hl 3 rfl) ?_
              refine lv_iload_n hx hb zdM_sort_33 rfl (lv_at hl 1 rfl) ?_
              refine si_icmp_eq (tgt := 52) hx hb zdM_sort_34 rfl (by omega) (by omega) (fun h34 => ?_) (fun h34 => ?_)
              · have hs2 : si_sf t q k = false := by rw [h34]; exact si_sl_rf _
                refine lv_iload_n hx hb zdM_sort_52 rfl (lv_at hl 2 rfl) ?_
                refine lv_istore_n (lv' := [(2, .int (nI row)), (0, .ref y0), (1, .int (nI k)), (3, .int (nI q))]) hx hb zdM_sort_53 rfl hl (Nat.le_of_ble_eq_true rfl) rfl (fun ls hl => ?_)
                refine lv_iinc (k := 3) (v := nI (q + 1)) (lv' := [(3, .int (nI (q + 1))), (2, .int (nI row)), (0, .ref y0), (1, .int (nI k))]) hx hb zdM_sort_54 hl rfl (si_inc _) (Nat.le_of_ble_eq_true rfl) rfl (fun ls hl => ?_)
                refine lv_goto (tgt := 24) hx hb zdM_sort_57 rfl ?_
                exact ih24 (q + 1) row _ _ _ (by omega) (by omega) (by first | (rw [si_cn_t (P := fun x => si_sf t x k) hs, hrw]; done) | (rw [si_cn_f (P := fun x => si_sf t x k) hs2, hrw]; done)) (lv_sub hl [2, 3, 1, 0] rfl) (hP.sub [0, 1, 2, 3] rfl) (hD.sub [0, 1, 2, 3] (by decide) rfl) hS
              · refine lv_aload_n hx hb zdM_sort_37 rfl (lv_at hl 0 rfl) ?_
                refine lv_iload_n hx hb zdM_sort_38 rfl (lv_at hl 3 rfl) ?_
                refine lv_iload_n hx hb zdM_sort_39 rfl (lv_at hl 1 rfl) ?_
                refine (cM_earlier l g y0 mW mD mT mP mR mA mK mO mB mI mN mH mC zs zt zn ze za k1 t q k hok hK1 (by omega) (by omega) h34).callV (wr := [(mO, .inl (g.2.1, 61, .inl o2)), (mB, .inl (g.2.1, 61, .inl b2))]) (As := [.int (nI q), .int (nI k)]) (rest := []) hF (si_cV 2 hts zcM_earlier zlM_57 zimM_earlier zseM_earlier ziniM zhM_earlier ⟨Nat.le_of_ble_eq_true rfl, Nat.le_of_ble_eq_true rfl⟩) hK hN hP hD hS hA [0, 1] [2, 3] rfl rfl (by decide) (by decide) (va_recv (q := (zRM, zTM, 19)) hK hP (ci := 6) (q0 := 0) rfl rfl) rfl hl.1 rfl (Nat.le_of_ble_eq_true rfl) zdM_sort_40 ⟨Nat.le_of_ble_eq_true rfl, Nat.le_of_ble_eq_true rfl⟩ rfl rfl (fun r_ _u H locs hq9 hP hD hS => ?_)
                subst hq9
                have hP : va_P g.1 vwCl [(mO, .inl (g.2.1, 61, .inl o2)), (mB, .inl (g.2.1, 61, .inl b2)), (y0, .inr (6, [.int zs, .ref mW, .ref mD, .int zt, .int zn, .ref mT, .int ze, .ref mP, .ref mR, .int za, .ref mA, .int (nI t.length), .ref mK, .ref mO, .ref mB, .ref mI, .ref mN, .ref mH, .ref mC])), (mK, .inl (g.2.1, 61, .inl k1))] H := hP
                have hD : va_D A [(mO, .inl (g.2.1, 61, .inl o2)), (mB, .inl (g.2.1, 61, .inl b2)), (y0, .inr (6, [.int zs, .ref mW, .ref mD, .int zt, .int zn, .ref mT, .int ze, .ref mP, .ref mR, .int za, .ref mA, .int (nI t.length), .ref mK, .ref mO, .ref mB, .ref mI, .ref mN, .ref mH, .ref mC])), (mK, .inl (g.2.1, 61, .inl k1))] := hD
                refine si_if_eq (tgt := 52) hx hb zdM_sort_43 rfl (si_bn _) (fun h43 => ?_) (fun h43 => ?_)
                · have hs2 := si_b0 h43
                  refine lv_iload_n hx hb zdM_sort_52 rfl (lv_at hl 2 rfl) ?_
                  refine lv_istore_n (lv' := [(2, .int (nI row)), (0, .ref y0), (1, .int (nI k)), (3, .int (nI q))]) hx hb zdM_sort_53 rfl hl (Nat.le_of_ble_eq_true rfl) rfl (fun ls hl => ?_)
                  refine lv_iinc (k := 3) (v := nI (q + 1)) (lv' := [(3, .int (nI (q + 1))), (2, .int (nI row)), (0, .ref y0), (1, .int (nI k))]) hx hb zdM_sort_54 hl rfl (si_inc _) (Nat.le_of_ble_eq_true rfl) rfl (fun ls hl => ?_)
                  refine lv_goto (tgt := 24) hx hb zdM_sort_57 rfl ?_
                  exact ih24 (q + 1) row _ _ _ (by omega) (by omega) (by first | (rw [si_cn_t (P := fun x => si_sf t x k) hs, hrw]; done) | (rw [si_cn_f (P := fun x => si_sf t x k) hs2, hrw]; done)) (lv_sub hl [2, 3, 1, 0] rfl) (hP.sub [2, 3, 0, 1] rfl) (hD.sub [2, 3, 0, 1] (by decide) rfl) hS
                · have hs := si_b1 h43
                  refine lv_iload_n hx hb zdM_sort_46 rfl (lv_at hl 2 rfl) ?_
                  refine lv_iconst (v := nI 1) hx hb zdM_sort_47 (by decide) ?_
                  refine si_iadd (v := nI (row + 1)) hx hb zdM_sort_48 (nI_add _ _) ?_
                  refine lv_goto (tgt := 53) hx hb zdM_sort_49 rfl ?_
                  refine lv_istore_n (lv' := [(2, .int (nI (row + 1))), (0, .ref y0), (1, .int (nI k)), (3, .int (nI q))]) hx hb zdM_sort_53 rfl hl (Nat.le_of_ble_eq_true rfl) rfl (fun ls hl => ?_)
                  refine lv_iinc (k := 3) (v := nI (q + 1)) (lv' := [(3, .int (nI (q + 1))), (2, .int (nI (row + 1))), (0, .ref y0), (1, .int (nI k))]) hx hb zdM_sort_54 hl rfl (si_inc _) (Nat.le_of_ble_eq_true rfl) rfl (fun ls hl => ?_)
                  refine lv_goto (tgt := 24) hx hb zdM_sort_57 rfl ?_
                  exact ih24 (q + 1) (row + 1) _ _ _ (by omega) (by omega) (by first | (rw [si_cn_t (P := fun x => si_sf t x k) hs, hrw]; done) | (rw [si_cn_f (P := fun x => si_sf t x k) hs2, hrw]; done)) (lv_sub hl [2, 3, 1, 0] rfl) (hP.sub [2, 3, 0, 1] rfl) (hD.sub [2, 3, 0, 1] (by decide) rfl) hS
        exact L24 (t.length + 1 - 0 + 1) 0 0 _ _ _ (by omega) (by omega) (rfl) (lv_sub hl [2, 3, 1, 0] rfl) (hP.sub [0, 1, 2, 3] rfl) (hD.sub [0, 1, 2, 3] (by decide) rfl) hS
  exact L12 (t.length + 1 - 0 + 1) 0 fo fb _ _ _ (by omega) (by omega) (fun x hx => absurd hx (Nat.not_lt_zero _)) (fun x hx => absurd hx (Nat.not_lt_zero _)) (lv_sub hl [1, 0] rfl) (hP.sub [0, 1, 2, 3] rfl) (hD.sub [0, 1, 2, 3] (by decide) rfl) hS

theorem si_B0 {t : List Nat} {k : Nat} (h : si_pl t k = 0) : nI 0 = nI (si_B t k) := by
  unfold si_B si_bf
  rw [if_pos h]
theorem si_B1 {t : List Nat} {k : Nat} (h : si_pl t k ≠ 0) : nI (si_g t (si_pl t k - 1)) = nI (si_B t k) := by
  unfold si_B si_bf
  rw [if_neg h]
theorem si_lN0 {k : Nat} (hk : k < 64) (w : Int64) : w ||| (lN 0 <<< ((nI k).toInt64 &&& 63)) = w := by
  rw [wb_shl 0 hk, Nat.zero_mul]
  exact si_or0 _
theorem si_bz1 (b : Bool) : lg_cmp (if b = true then 1 else 0) (lN 1) = 0 ↔ b = true := by
  rw [si_lc0]
  cases b
  · exact ⟨fun h => absurd h (by decide), fun h => absurd h (by decide)⟩
  · exact ⟨fun _ => rfl, fun _ => rfl⟩
theorem si_t1 {b : Bool} (h : b.toNat = 1) : b = true := by cases b <;> first | rfl | exact absurd h (by decide)
theorem si_t0 {b : Bool} (h : b.toNat ≠ 1) : b = false := by cases b <;> first | rfl | exact absurd rfl h
section SIPQ
variable {n1 i kk : Nat} {b : Nat → Bool} {f2 f3 : Nat → Int32}
theorem si_qZ (hkk : kk = si_cn i (fun k => !b k)) (hZ : ∀ x, x < i → b x = false → f3 (si_cn x (fun k => !b k)) = f2 x) : ∀ x, x < i + 1 → b x = false → upd f3 kk (f2 i) (si_cn x (fun k => !b k)) = f2 x := si_poZ hkk hZ
theorem si_qO (hkk : kk = si_cn n1 (fun k => !b k) + si_cn i b) (hO : ∀ x, x < i → b x = true → f3 (si_cn n1 (fun k => !b k) + si_cn x b) = f2 x) : ∀ x, x < i + 1 → b x = true → upd f3 kk (f2 i) (si_cn n1 (fun k => !b k) + si_cn x b) = f2 x := by
  intro x hx hbx
  by_cases e : x = i
  · subst e; rw [← hkk, pk_us]
  · have := si_cn_ups (show x < i by omega) hbx
    rw [pk_un (by omega)]; exact hO x (by omega) hbx
theorem si_qK (hkk : kk = si_cn n1 (fun k => !b k) + si_cn i b) (hZ : ∀ x, x < n1 → b x = false → f3 (si_cn x (fun k => !b k)) = f2 x) {v : Int32} : ∀ x, x < n1 → b x = false → upd f3 kk v (si_cn x (fun k => !b k)) = f2 x := by
  intro x hx hbx
  have := si_cn_ups (P := fun k => !b k) hx (by simp [hbx])
  rw [pk_un (by omega)]; exact hZ x hx hbx
theorem si_qE (hZ : ∀ x, x < n1 → b x = false → f3 (si_cn x (fun k => !b k)) = f2 x) (hO : ∀ x, x < n1 → b x = true → f3 (si_cn n1 (fun k => !b k) + si_cn x b) = f2 x) : ∀ x, x < n1 → f3 (si_ps n1 b x) = f2 x := by
  intro x hx
  cases hb : b x with
  | false => rw [si_ps_f hb]; exact hZ x hx hb
  | true => rw [si_ps_t hb]; exact hO x hx hb
end SIPQ
theorem si_uLo {f g : Nat → Int64} {k : Nat} {w : Int64} (h : ∀ x, x ≠ k → f x = g x) : ∀ x, x ≠ k → vp_updL f k w x = g x := fun x hx => by rw [pk_uLn hx]; exact h x hx
set_option maxHeartbeats 4000000 in
set_option maxRecDepth 100000 in
/-- levels -/
theorem cM_levels (l : Launch) (g : si_G) (y0 mW mD mT mP mR mA mK mO mB mI mN mH mC : Nat) (zs zt zn ze za : Int32) (fk fo fn fh : Nat → Int32) (fi : Nat → Int64) (t : List Nat) (hok : si_ok t) (hK1 : ∀ x, x < t.length + 1 → fk x = nI (si_g t x)) (hpl : ∀ x, x < t.length + 1 → fo x = nI (si_pl t x)) (hI0 : ∀ k, k < 7 → fi (1 + k) = 0) : si_Mv (S := (Nat → Int32) × (Nat → Int32) × (Nat → Int64)) l g vwCl zyM_levels zwM_levels ({ frames := 0, cells := 0, slots := 0, locals := 0 } : Room) [.ref y0] [(y0, .inr (6, [.int zs, .ref mW, .ref mD, .int zt, .int zn, .ref mT, .int ze, .ref mP, .ref mR, .int za, .ref mA, .int (nI t.length), .ref mK, .ref mO, .ref mB, .ref mI, .ref mN, .ref mH, .ref mC])), (mK, .inl (g.2.1, 61, .inl fk)), (mO, .inl (g.2.1, 61, .inl fo)), (mI, .inl (g.2.2, 23, .inr (.inl fi))), (mN, .inl (g.2.1, 61, .inl fn)), (mH, .inl (g.2.1, 61, .inl fh))] (fun u => (∀ k, k < 7 → u.2.2 (1 + k) = si_wd (t.length + 1) (si_lb (si_B t) (t.length + 1) k)) ∧ ∀ k, k = 0 ∨ 8 ≤ k → u.2.2 k = fi k) (fun u => [(y0, .inr (6, [.int zs, .ref mW, .ref mD, .int zt, .int zn, .ref mT, .int ze, .ref mP, .ref mR, .int za, .ref mA, .int (nI t.length), .ref mK, .ref mO, .ref mB, .ref mI, .ref mN, .ref mH, .ref mC])), (mK, .inl (g.2.1, 61, .inl fk)), (mO, .inl (g.2.1, 61, .inl fo)), (mI, .inl (g.2.2, 23, .inr (.inl u.2.2))), (mN, .inl (g.2.1, 61, .inl u.1)), (mH, .inl (g.2.1, 61, .inl u.2.1))]) := by
  refine si_Mv.of (cc := zkM_levels) (maxL := 5) (by decide) rfl (Nat.le_of_ble_eq_true rfl) ?_
  intro p e s m args below meth c A Q ls hF0 hin hK hN hP hD hA hS hl hret
  obtain ⟨hx, hb, hml, hown, hts0⟩ := hF0
  have hts : ∀ w ∈ si_tbl, w.before args s = true := fun w hw => hts0 w (List.mem_cons_of_mem _ hw)
  have hF : CallFix p m c zkM_levels 5 s args si_tbl zRM := ⟨hx, hb, hml, hown, hts⟩
  have hl : lv_has ls 5 [(0, .ref y0)] := hl
  have hn := hok.1
  refine lv_iconst (v := nI 0) hx hb zdM_levels_0 (by decide) ?_
  refine lv_istore_n (lv' := [(1, .int (nI 0)), (0, .ref y0)]) hx hb zdM_levels_1 rfl hl (Nat.le_of_ble_eq_true rfl) rfl (fun ls hl => ?_)
  have L2 : ∀ (N : Nat) (k : Nat) (f2 : Nat → Int32) (H : Heap) (locs : List Loc) (ls : Array Slot), t.length + 1 - k < N → (k ≤ t.length + 1) → (∀ x, x < k → f2 x = nI (si_B t x)) → lv_has ls 5 [(0, .ref y0), (1, .int (nI k))] → va_P g.1 vwCl [(y0, .inr (6, [.int zs, .ref mW, .ref mD, .int zt, .int zn, .ref mT, .int ze, .ref mP, .ref mR, .int za, .ref mA, .int (nI t.length), .ref mK, .ref mO, .ref mB, .ref mI, .ref mN, .ref mH, .ref mC])), (mK, .inl (g.2.1, 61, .inl fk)), (mO, .inl (g.2.1, 61, .inl fo)), (mI, .inl (g.2.2, 23, .inr (.inl fi))), (mN, .inl (g.2.1, 61, .inl f2)), (mH, .inl (g.2.1, 61, .inl fh))] H → va_D A [(y0, .inr (6, [.int zs, .ref mW, .ref mD, .int zt, .int zn, .ref mT, .int ze, .ref mP, .ref mR, .int za, .ref mA, .int (nI t.length), .ref mK, .ref mO, .ref mB, .ref mI, .ref mN, .ref mH, .ref mC])), (mK, .inl (g.2.1, 61, .inl fk)), (mO, .inl (g.2.1, 61, .inl fo)), (mI, .inl (g.2.2, 23, .inr (.inl fi))), (mN, .inl (g.2.1, 61, .inl f2)), (mH, .inl (g.2.1, 61, .inl fh))] → va_S A s.heap H locs → W p l e ({ frames := 0, cells := 0, slots := 0, locals := 0 } : Room) s m args below meth c H locs 0 0 Q (F0 m 2 ls []) := by
    intro N
    induction N with
    | zero => intro k f2 H locs ls hMs; exact absurd hMs (Nat.not_lt_zero _)
    | succ N ih2 =>
      intro k f2 H locs ls hMs hk hC hl hP hD hS
      refine lv_iload_n hx hb zdM_levels_2 rfl (lv_at hl 1 rfl) ?_
      refine lv_aload_n hx hb zdM_levels_3 rfl (lv_at hl 0 rfl) ?_
      refine va_get (D := g.1) (ci := 6) (v := .int (nI t.length)) (C := zRM) (T := zTM) (N := 19) hx hb hts ziM hown hK hP 0 rfl rfl 11 (by decide) (hts _ zlM_54) (fun _ h => h) rfl zdM_levels_4 ?_
      refine si_icmp_gt (tgt := 48) hx hb zdM_levels_7 rfl (by omega) (by omega) (fun h7 => ?_) (fun h7 => ?_)
      · refine lv_iconst (v := nI 0) hx hb zdM_levels_48 (by decide) ?_
        refine lv_istore_n (lv' := [(1, .int (nI 0)), (0, .ref y0)]) hx hb zdM_levels_49 rfl hl (Nat.le_of_ble_eq_true rfl) rfl (fun ls hl => ?_)
        have L50 : ∀ (N : Nat) (j : Nat) (f2 : Nat → Int32) (h2 : Nat → Int32) (w2 : Nat → Int64) (H : Heap) (locs : List Loc) (ls : Array Slot), 7 - j < N → (j ≤ 7) → (∀ x, x < t.length + 1 → f2 (si_lp (si_B t) (t.length + 1) j x) = nI (si_B t x)) → (∀ k, k < j → w2 (1 + k) = si_wd (t.length + 1) (si_lb (si_B t) (t.length + 1) k)) → (∀ k, k = 0 ∨ 8 ≤ k → w2 k = fi k) → (∀ k, j ≤ k → k < 7 → w2 (1 + k) = 0) → lv_has ls 5 [(0, .ref y0), (1, .int (nI j))] → va_P g.1 vwCl [(y0, .inr (6, [.int zs, .ref mW, .ref mD, .int zt, .int zn, .ref mT, .int ze, .ref mP, .ref mR, .int za, .ref mA, .int (nI t.length), .ref mK, .ref mO, .ref mB, .ref mI, .ref mN, .ref mH, .ref mC])), (mK, .inl (g.2.1, 61, .inl fk)), (mO, .inl (g.2.1, 61, .inl fo)), (mI, .inl (g.2.2, 23, .inr (.inl w2))), (mN, .inl (g.2.1, 61, .inl f2)), (mH, .inl (g.2.1, 61, .inl h2))] H → va_D A [(y0, .inr (6, [.int zs, .ref mW, .ref mD, .int zt, .int zn, .ref mT, .int ze, .ref mP, .ref mR, .int za, .ref mA, .int (nI t.length), .ref mK, .ref mO, .ref mB, .ref mI, .ref mN, .ref mH, .ref mC])), (mK, .inl (g.2.1, 61, .inl fk)), (mO, .inl (g.2.1, 61, .inl fo)), (mI, .inl (g.2.2, 23, .inr (.inl w2))), (mN, .inl (g.2.1, 61, .inl f2)), (mH, .inl (g.2.1, 61, .inl h2))] → va_S A s.heap H locs → W p l e ({ frames := 0, cells := 0, slots := 0, locals := 0 } : Room) s m args below meth c H locs 0 0 Q (F0 m 50 ls []) := by
          intro N
          induction N with
          | zero => intro j f2 h2 w2 H locs ls hMs; exact absurd hMs (Nat.not_lt_zero _)
          | succ N ih50 =>
            intro j f2 h2 w2 H locs ls hMs hj hN2 hW hW0 hW1 hl hP hD hS
            refine lv_iload_n hx hb zdM_levels_50 rfl (lv_at hl 1 rfl) ?_
            refine lv_bipush (v := nI 7) hx hb zdM_levels_51 (by decide) ?_
            refine si_icmp_ge (tgt := 179) hx hb zdM_levels_53 rfl (by omega) (by decide) (fun h53 => ?_) (fun h53 => ?_)
            · exact hret (f2, h2, w2) _ _ _ _ (⟨fun k hk => hW k (by omega), hW0⟩) (hP.sub [0, 1, 2, 3, 4, 5] rfl) (hD.sub [0, 1, 2, 3, 4, 5] (by decide) rfl) hS zdM_levels_179
            · refine lv_iconst (v := nI 0) hx hb zdM_levels_56 (by decide) ?_
              refine lv_istore_n (lv' := [(2, .int (nI 0)), (0, .ref y0), (1, .int (nI j))]) hx hb zdM_levels_57 rfl hl (Nat.le_of_ble_eq_true rfl) rfl (fun ls hl => ?_)
              refine lv_iconst (v := nI 0) hx hb zdM_levels_58 (by decide) ?_
              refine lv_istore_n (lv' := [(3, .int (nI 0)), (2, .int (nI 0)), (0, .ref y0), (1, .int (nI j))]) hx hb zdM_levels_59 rfl hl (Nat.le_of_ble_eq_true rfl) rfl (fun ls hl => ?_)
              refine lv_iload_n hx hb zdM_levels_60 rfl (lv_at hl 0 rfl) ?_
              refine lv_iconst (v := nI 2) hx hb zdM_levels_61 (by decide) ?_
              refine si_icmp_ge (tgt := 145) hx hb zdM_levels_62 rfl (by decide) (by decide) (fun h62 => ?_) (fun h62 => ?_)
              · exact absurd h62 (by decide)
              · refine lv_iconst (v := nI 0) hx hb zdM_levels_65 (by decide) ?_
                refine lv_istore (lv' := [(4, .int (nI 0)), (3, .int (nI 0)), (2, .int (nI 0)), (0, .ref y0), (1, .int (nI j))]) hx hb zdM_levels_66 hl (Nat.le_of_ble_eq_true rfl) rfl (fun ls hl => ?_)
                have L68 : ∀ (N : Nat) (i : Nat) (kk : Nat) (h3 : Nat → Int32) (w3 : Nat → Int64) (H : Heap) (locs : List Loc) (ls : Array Slot), t.length + 1 - i < N → (i ≤ t.length + 1) → (kk = si_cn i (fun k => !si_lb (si_B t) (t.length + 1) j k)) → (∀ x, x < i → si_lb (si_B t) (t.length + 1) j x = false → h3 (si_cn x (fun k => !si_lb (si_B t) (t.length + 1) j k)) = f2 x) → (w3 (1 + j) = 0) → (∀ x, x ≠ 1 + j → w3 x = w2 x) → lv_has ls 5 [(0, .ref y0), (1, .int (nI j)), (2, .int (nI kk)), (3, .int (nI 0)), (4, .int (nI i))] → va_P g.1 vwCl [(y0, .inr (6, [.int zs, .ref mW, .ref mD, .int zt, .int zn, .ref mT, .int ze, .ref mP, .ref mR, .int za, .ref mA, .int (nI t.length), .ref mK, .ref mO, .ref mB, .ref mI, .ref mN, .ref mH, .ref mC])), (mK, .inl (g.2.1, 61, .inl fk)), (mO, .inl (g.2.1, 61, .inl fo)), (mI, .inl (g.2.2, 23, .inr (.inl w3))), (mN, .inl (g.2.1, 61, .inl f2)), (mH, .inl (g.2.1, 61, .inl h3))] H → va_D A [(y0, .inr (6, [.int zs, .ref mW, .ref mD, .int zt, .int zn, .ref mT, .int ze, .ref mP, .ref mR, .int za, .ref mA, .int (nI t.length), .ref mK, .ref mO, .ref mB, .ref mI, .ref mN, .ref mH, .ref mC])), (mK, .inl (g.2.1, 61, .inl fk)), (mO, .inl (g.2.1, 61, .inl fo)), (mI, .inl (g.2.2, 23, .inr (.inl w3))), (mN, .inl (g.2.1, 61, .inl f2)), (mH, .inl (g.2.1, 61, .inl h3))] → va_S A s.heap H locs → W p l e ({ frames := 0, cells := 0, slots := 0, locals := 0 } : Room) s m args below meth c H locs 0 0 Q (F0 m 68 ls []) := by
                  intro N
                  induction N with
                  | zero => intro i kk h3 w3 H locs ls hMs; exact absurd hMs (Nat.not_lt_zero _)
                  | succ N ih68 =>
                    intro i kk h3 w3 H locs ls hMs hi hkk hZ hwj hwo hl hP hD hS
                    refine lv_iload hx hb zdM_levels_68 (lv_at hl 4 rfl) ?_
                    refine lv_aload_n hx hb zdM_levels_70 rfl (lv_at hl 0 rfl) ?_
                    refine va_get (D := g.1) (ci := 6) (v := .int (nI t.length)) (C := zRM) (T := zTM) (N := 19) hx hb hts ziM hown hK hP 0 rfl rfl 11 (by decide) (hts _ zlM_54) (fun _ h => h) rfl zdM_levels_71 ?_
                    refine si_icmp_gt (tgt := 139) hx hb zdM_levels_74 rfl (by omega) (by omega) (fun h74 => ?_) (fun h74 => ?_)
                    · refine lv_iinc (k := 3) (v := nI 1) (lv' := [(3, .int (nI 1)), (0, .ref y0), (1, .int (nI j)), (2, .int (nI kk)), (4, .int (nI i))]) hx hb zdM_levels_139 hl rfl (by decide) (Nat.le_of_ble_eq_true rfl) rfl (fun ls hl => ?_)
                      refine lv_goto (tgt := 60) hx hb zdM_levels_142 rfl ?_
                      refine lv_iload_n hx hb zdM_levels_60 rfl (lv_at hl 0 rfl) ?_
                      refine lv_iconst (v := nI 2) hx hb zdM_levels_61 (by decide) ?_
                      refine si_icmp_ge (tgt := 145) hx hb zdM_levels_62 rfl (by decide) (by decide) (fun h62 => ?_) (fun h62 => ?_)
                      · exact absurd h62 (by decide)
                      · refine lv_iconst (v := nI 0) hx hb zdM_levels_65 (by decide) ?_
                        refine lv_istore (lv' := [(4, .int (nI 0)), (3, .int (nI 1)), (0, .ref y0), (1, .int (nI j)), (2, .int (nI kk))]) hx hb zdM_levels_66 hl (Nat.le_of_ble_eq_true rfl) rfl (fun ls hl => ?_)
                        have L68_2 : ∀ (N : Nat) (i : Nat) (kk : Nat) (h4 : Nat → Int32) (w4 : Nat → Int64) (H : Heap) (locs : List Loc) (ls : Array Slot), t.length + 1 - i < N → (i ≤ t.length + 1) → (kk = si_cn (t.length + 1) (fun k => !si_lb (si_B t) (t.length + 1) j k) + si_cn i (si_lb (si_B t) (t.length + 1) j)) → (∀ x, x < t.length + 1 → si_lb (si_B t) (t.length + 1) j x = false → h4 (si_cn x (fun k => !si_lb (si_B t) (t.length + 1) j k)) = f2 x) → (∀ x, x < i → si_lb (si_B t) (t.length + 1) j x = true → h4 (si_cn (t.length + 1) (fun k => !si_lb (si_B t) (t.length + 1) j k) + si_cn x (si_lb (si_B t) (t.length + 1) j)) = f2 x) → (w4 (1 + j) = si_wd i (si_lb (si_B t) (t.length + 1) j)) → (∀ x, x ≠ 1 + j → w4 x = w2 x) → lv_has ls 5 [(0, .ref y0), (1, .int (nI j)), (2, .int (nI kk)), (3, .int (nI 1)), (4, .int (nI i))] → va_P g.1 vwCl [(y0, .inr (6, [.int zs, .ref mW, .ref mD, .int zt, .int zn, .ref mT, .int ze, .ref mP, .ref mR, .int za, .ref mA, .int (nI t.length), .ref mK, .ref mO, .ref mB, .ref mI, .ref mN, .ref mH, .ref mC])), (mK, .inl (g.2.1, 61, .inl fk)), (mO, .inl (g.2.1, 61, .inl fo)), (mI, .inl (g.2.2, 23, .inr (.inl w4))), (mN, .inl (g.2.1, 61, .inl f2)), (mH, .inl (g.2.1, 61, .inl h4))] H → va_D A [(y0, .inr (6, [.int zs, .ref mW, .ref mD, .int zt, .int zn, .ref mT, .int ze, .ref mP, .ref mR, .int za, .ref mA, .int (nI t.length), .ref mK, .ref mO, .ref mB, .ref mI, .ref mN, .ref mH, .ref mC])), (mK, .inl (g.2.1, 61, .inl fk)), (mO, .inl (g.2.1, 61, .inl fo)), (mI, .inl (g.2.2, 23, .inr (.inl w4))), (mN, .inl (g.2.1, 61, .inl f2)), (mH, .inl (g.2.1, 61, .inl h4))] → va_S A s.heap H locs → W p l e ({ frames := 0, cells := 0, slots := 0, locals := 0 } : Room) s m args below meth c H locs 0 0 Q (F0 m 68 ls []) := by
                          intro N
                          induction N with
                          | zero => intro i kk h4 w4 H locs ls hMs; exact absurd hMs (Nat.not_lt_zero _)
                          | succ N ih68_2 =>
                            intro i kk h4 w4 H locs ls hMs hi2 hkk2 hZ2 hO2 hwj2 hwo2 hl hP hD hS
                            refine lv_iload hx hb zdM_levels_68 (lv_at hl 4 rfl) ?_
                            refine lv_aload_n hx hb zdM_levels_70 rfl (lv_at hl 0 rfl) ?_
                            refine va_get (D := g.1) (ci := 6) (v := .int (nI t.length)) (C := zRM) (T := zTM) (N := 19) hx hb hts ziM hown hK hP 0 rfl rfl 11 (by decide) (hts _ zlM_54) (fun _ h => h) rfl zdM_levels_71 ?_
                            refine si_icmp_gt (tgt := 139) hx hb zdM_levels_74 rfl (by omega) (by omega) (fun h74 => ?_) (fun h74 => ?_)
                            · refine lv_iinc (k := 3) (v := nI 2) (lv' := [(3, .int (nI 2)), (0, .ref y0), (1, .int (nI j)), (2, .int (nI kk)), (4, .int (nI i))]) hx hb zdM_levels_139 hl rfl (by decide) (Nat.le_of_ble_eq_true rfl) rfl (fun ls hl => ?_)
                              refine lv_goto (tgt := 60) hx hb zdM_levels_142 rfl ?_
                              refine lv_iload_n hx hb zdM_levels_60 rfl (lv_at hl 0 rfl) ?_
                              refine lv_iconst (v := nI 2) hx hb zdM_levels_61 (by decide) ?_
                              refine si_icmp_ge (tgt := 145) hx hb zdM_levels_62 rfl (by decide) (by decide) (fun h62 => ?_) (fun h62 => ?_)
                              · have hfin := si_qE hZ2 (fun x hx => hO2 x (by omega))
                                have hwj3 : w4 (1 + j) = si_wd (t.length + 1) (si_lb (si_B t) (t.length + 1) j) := by rw [hwj2, show i = t.length + 1 by omega]
                                refine lv_iconst (v := nI 0) hx hb zdM_levels_145 (by decide) ?_
                                refine lv_istore_n (lv' := [(3, .int (nI 0)), (0, .ref y0), (1, .int (nI j)), (2, .int (nI kk)), (4, .int (nI i))]) hx hb zdM_levels_146 rfl hl (Nat.le_of_ble_eq_true rfl) rfl (fun ls hl => ?_)
                                have L147 : ∀ (N : Nat) (q : Nat) (f5 : Nat → Int32) (H : Heap) (locs : List Loc) (ls : Array Slot), t.length + 1 - q < N → (q ≤ t.length + 1) → (∀ x, x < q → f5 x = h4 x) → lv_has ls 5 [(0, .ref y0), (1, .int (nI j)), (3, .int (nI q))] → va_P g.1 vwCl [(y0, .inr (6, [.int zs, .ref mW, .ref mD, .int zt, .int zn, .ref mT, .int ze, .ref mP, .ref mR, .int za, .ref mA, .int (nI t.length), .ref mK, .ref mO, .ref mB, .ref mI, .ref mN, .ref mH, .ref mC])), (mK, .inl (g.2.1, 61, .inl fk)), (mO, .inl (g.2.1, 61, .inl fo)), (mI, .inl (g.2.2, 23, .inr (.inl w4))), (mN, .inl (g.2.1, 61, .inl f5)), (mH, .inl (g.2.1, 61, .inl h4))] H → va_D A [(y0, .inr (6, [.int zs, .ref mW, .ref mD, .int zt, .int zn, .ref mT, .int ze, .ref mP, .ref mR, .int za, .ref mA, .int (nI t.length), .ref mK, .ref mO, .ref mB, .ref mI, .ref mN, .ref mH, .ref mC])), (mK, .inl (g.2.1, 61, .inl fk)), (mO, .inl (g.2.1, 61, .inl fo)), (mI, .inl (g.2.2, 23, .inr (.inl w4))), (mN, .inl (g.2.1, 61, .inl f5)), (mH, .inl (g.2.1, 61, .inl h4))] → va_S A s.heap H locs → W p l e ({ frames := 0, cells := 0, slots := 0, locals := 0 } : Room) s m args below meth c H locs 0 0 Q (F0 m 147 ls []) := by
                                  intro N
                                  induction N with
                                  | zero => intro q f5 H locs ls hMs; exact absurd hMs (Nat.not_lt_zero _)
                                  | succ N ih147 =>
                                    intro q f5 H locs ls hMs hq hcp0 hl hP hD hS
                                    refine lv_iload_n hx hb zdM_levels_147 rfl (lv_at hl 2 rfl) ?_
                                    refine lv_aload_n hx hb zdM_levels_148 rfl (lv_at hl 0 rfl) ?_
                                    refine va_get (D := g.1) (ci := 6) (v := .int (nI t.length)) (C := zRM) (T := zTM) (N := 19) hx hb hts ziM hown hK hP 0 rfl rfl 11 (by decide) (hts _ zlM_54) (fun _ h => h) rfl zdM_levels_149 ?_
                                    refine si_icmp_gt (tgt := 173) hx hb zdM_levels_152 rfl (by omega) (by omega) (fun h152 => ?_) (fun h152 => ?_)
                                    · have hcp : ∀ x, x < t.length + 1 → f5 x = h4 x := fun x hx => hcp0 x (by omega)
                                      refine lv_iinc (k := 1) (v := nI (j + 1)) (lv' := [(1, .int (nI (j + 1))), (0, .ref y0), (3, .int (nI q))]) hx hb zdM_levels_173 hl rfl (si_inc _) (Nat.le_of_ble_eq_true rfl) rfl (fun ls hl => ?_)
                                      refine lv_goto (tgt := 50) hx hb zdM_levels_176 rfl ?_
                                      exact ih50 (j + 1) f5 h4 w4 _ _ _ (by omega) (by omega) (fun x hx => by have h9 := (si_lp_bij (si_B t) (t.length + 1) j).1 x hx; rw [si_lp_s, hcp _ ((si_ps_bij _ _).1 _ h9), hfin _ h9, hN2 x hx]) (fun k hk => by by_cases e9 : k = j <;> first | (subst e9; exact hwj3) | (rw [hwo2 _ (by omega)]; exact hW k (by omega))) (fun k hk => by rw [hwo2 _ (by omega)]; exact hW0 k hk) (fun k h1 h2 => by rw [hwo2 _ (by omega)]; exact hW1 k (by omega) h2) (lv_sub hl [1, 0] rfl) (hP.sub [0, 1, 2, 3, 4, 5] rfl) (hD.sub [0, 1, 2, 3, 4, 5] (by decide) rfl) hS
                                    · refine lv_aload_n hx hb zdM_levels_155 rfl (lv_at hl 0 rfl) ?_
                                      refine va_get (D := g.1) (ci := 6) (v := .ref mN) (C := zRM) (T := zTM) (N := 19) hx hb hts ziM hown hK hP 0 rfl rfl 16 (by decide) (hts _ zlM_41) (fun _ h => h) rfl zdM_levels_156 ?_
                                      refine lv_iload_n hx hb zdM_levels_159 rfl (lv_at hl 2 rfl) ?_
                                      refine lv_aload_n hx hb zdM_levels_160 rfl (lv_at hl 0 rfl) ?_
                                      refine va_get (D := g.1) (ci := 6) (v := .ref mH) (C := zRM) (T := zTM) (N := 19) hx hb hts ziM hown hK hP 0 rfl rfl 17 (by decide) (hts _ zlM_44) (fun _ h => h) rfl zdM_levels_161 ?_
                                      refine lv_iload_n hx hb zdM_levels_164 rfl (lv_at hl 2 rfl) ?_
                                      refine si_iald (v := h4 q) hx hb hK hP 5 0 rfl rfl (by decide) (by omega) (rfl) zdM_levels_165 ?_
                                      refine si_iast hx hb hK hP hD hS 4 0 rfl rfl (by decide) (by omega) zdM_levels_166 (fun H locs hP hD hS => ?_)
                                      have hP : va_P g.1 vwCl [(y0, .inr (6, [.int zs, .ref mW, .ref mD, .int zt, .int zn, .ref mT, .int ze, .ref mP, .ref mR, .int za, .ref mA, .int (nI t.length), .ref mK, .ref mO, .ref mB, .ref mI, .ref mN, .ref mH, .ref mC])), (mK, .inl (g.2.1, 61, .inl fk)), (mO, .inl (g.2.1, 61, .inl fo)), (mI, .inl (g.2.2, 23, .inr (.inl w4))), (mN, .inl (g.2.1, 61, .inl (upd f5 q (h4 q)))), (mH, .inl (g.2.1, 61, .inl h4))] H := hP
                                      have hD : va_D A [(y0, .inr (6, [.int zs, .ref mW, .ref mD, .int zt, .int zn, .ref mT, .int ze, .ref mP, .ref mR, .int za, .ref mA, .int (nI t.length), .ref mK, .ref mO, .ref mB, .ref mI, .ref mN, .ref mH, .ref mC])), (mK, .inl (g.2.1, 61, .inl fk)), (mO, .inl (g.2.1, 61, .inl fo)), (mI, .inl (g.2.2, 23, .inr (.inl w4))), (mN, .inl (g.2.1, 61, .inl (upd f5 q (h4 q)))), (mH, .inl (g.2.1, 61, .inl h4))] := hD
                                      refine lv_iinc (k := 2) (v := nI (q + 1)) (lv' := [(3, .int (nI (q + 1))), (0, .ref y0), (1, .int (nI j))]) hx hb zdM_levels_167 hl rfl (si_inc _) (Nat.le_of_ble_eq_true rfl) rfl (fun ls hl => ?_)
                                      refine lv_goto (tgt := 147) hx hb zdM_levels_170 rfl ?_
                                      exact ih147 (q + 1) (upd f5 q (h4 q)) _ _ _ (by omega) (by omega) (si_up hcp0 rfl) (lv_sub hl [1, 2, 0] rfl) (hP.sub [0, 1, 2, 3, 4, 5] rfl) (hD.sub [0, 1, 2, 3, 4, 5] (by decide) rfl) hS
                                exact L147 (t.length + 1 - 0 + 1) 0 f2 _ _ _ (by omega) (by omega) (fun x hx => absurd hx (Nat.not_lt_zero _)) (lv_sub hl [1, 2, 0] rfl) (hP.sub [0, 1, 2, 3, 4, 5] rfl) (hD.sub [0, 1, 2, 3, 4, 5] (by decide) rfl) hS
                              · exact absurd h62 (by decide)
                            · have hxi := si_iv_ok (si_lp_bij (si_B t) (t.length + 1) j) (show i < t.length + 1 by omega)
                              have hcv : si_B t (si_iv (t.length + 1) (si_lp (si_B t) (t.length + 1) j) i) < 128 := by have := si_B_le hok (si_iv (t.length + 1) (si_lp (si_B t) (t.length + 1) j) i); omega
                              have hdv : si_B t (si_iv (t.length + 1) (si_lp (si_B t) (t.length + 1) j) i) / 2 ^ (6 - j) ≤ si_B t (si_iv (t.length + 1) (si_lp (si_B t) (t.length + 1) j) i) := Nat.div_le_self _ _
                              refine lv_aload_n hx hb zdM_levels_77 rfl (lv_at hl 0 rfl) ?_
                              refine va_get (D := g.1) (ci := 6) (v := .ref mN) (C := zRM) (T := zTM) (N := 19) hx hb hts ziM hown hK hP 0 rfl rfl 16 (by decide) (hts _ zlM_41) (fun _ h => h) rfl zdM_levels_78 ?_
                              refine lv_iload hx hb zdM_levels_81 (lv_at hl 4 rfl) ?_
                              refine si_iald (v := nI (si_B t (si_iv (t.length + 1) (si_lp (si_B t) (t.length + 1) j) i))) hx hb hK hP 4 0 rfl rfl (by decide) (by omega) (by have h9 := hN2 _ hxi.1; rw [hxi.2] at h9; exact h9) zdM_levels_83 ?_
                              refine lv_bipush (v := nI 6) hx hb zdM_levels_84 (by decide) ?_
                              refine lv_iload_n hx hb zdM_levels_86 rfl (lv_at hl 1 rfl) ?_
                              refine si_isub (v := nI (6 - j)) hx hb zdM_levels_87 (pk_sub (by omega)) ?_
                              refine si_ishr (v := nI (si_B t (si_iv (t.length + 1) (si_lp (si_B t) (t.length + 1) j) i) / 2 ^ (6 - j))) hx hb zdM_levels_88 (pk_shrN (by omega) _ _ (si_sl5 _ (by omega))) ?_
                              refine lv_iconst (v := nI 1) hx hb zdM_levels_89 (by decide) ?_
                              refine si_iand (v := nI ((si_lb (si_B t) (t.length + 1) j i).toNat)) hx hb zdM_levels_90 (si_bitj hcv) ?_
                              refine lv_iload_n hx hb zdM_levels_91 rfl (lv_at hl 3 rfl) ?_
                              refine si_icmp_ne (tgt := 133) hx hb zdM_levels_92 rfl (si_bn _) (by decide) (fun h92 => ?_) (fun h92 => ?_)
                              · have hbf := si_t0 h92
                                refine lv_iinc (k := 4) (v := nI (i + 1)) (lv' := [(4, .int (nI (i + 1))), (0, .ref y0), (1, .int (nI j)), (2, .int (nI kk)), (3, .int (nI 1))]) hx hb zdM_levels_133 hl rfl (si_inc _) (Nat.le_of_ble_eq_true rfl) rfl (fun ls hl => ?_)
                                refine lv_goto (tgt := 68) hx hb zdM_levels_136 rfl ?_
                                exact ih68_2 (i + 1) kk h4 w4 _ _ _ (by omega) (by omega) (by first | (rw [si_cn_t hbt, hkk2]; rfl) | (rw [si_cn_f hbf, hkk2]; done)) (by first | exact hZ2 | exact si_qK hkk2 hZ2) (by first | exact si_qO hkk2 hO2 | exact si_poS (v := false) hbf hO2) (by first | (rw [si_wd_f hbf]; exact hwj2) | (rw [pk_uLs, hwj2, si_wd_t hbt]; rfl)) (by first | exact hwo2 | exact si_uLo hwo2) (lv_sub hl [1, 2, 3, 4, 0] rfl) (hP.sub [0, 1, 2, 3, 4, 5] rfl) (hD.sub [0, 1, 2, 3, 4, 5] (by decide) rfl) hS
                              · have hbt := si_t1 h92
                                have hkl : kk < t.length + 1 := by
                                  have z1 := si_cn_ups (b := t.length + 1) (show i < t.length + 1 by omega) hbt
                                  have z2 := si_cn_not (t.length + 1) (si_lb (si_B t) (t.length + 1) j)
                                  omega
                                refine lv_aload_n hx hb zdM_levels_95 rfl (lv_at hl 0 rfl) ?_
                                refine va_get (D := g.1) (ci := 6) (v := .ref mH) (C := zRM) (T := zTM) (N := 19) hx hb hts ziM hown hK hP 0 rfl rfl 17 (by decide) (hts _ zlM_44) (fun _ h => h) rfl zdM_levels_96 ?_
                                refine lv_iload_n hx hb zdM_levels_99 rfl (lv_at hl 2 rfl) ?_
                                refine lv_aload_n hx hb zdM_levels_100 rfl (lv_at hl 0 rfl) ?_
                                refine va_get (D := g.1) (ci := 6) (v := .ref mN) (C := zRM) (T := zTM) (N := 19) hx hb hts ziM hown hK hP 0 rfl rfl 16 (by decide) (hts _ zlM_41) (fun _ h => h) rfl zdM_levels_101 ?_
                                refine lv_iload hx hb zdM_levels_104 (lv_at hl 4 rfl) ?_
                                refine si_iald (v := f2 i) hx hb hK hP 4 0 rfl rfl (by decide) (by omega) (rfl) zdM_levels_106 ?_
                                refine si_iast hx hb hK hP hD hS 5 0 rfl rfl (by decide) (by omega) zdM_levels_107 (fun H locs hP hD hS => ?_)
                                have hP : va_P g.1 vwCl [(y0, .inr (6, [.int zs, .ref mW, .ref mD, .int zt, .int zn, .ref mT, .int ze, .ref mP, .ref mR, .int za, .ref mA, .int (nI t.length), .ref mK, .ref mO, .ref mB, .ref mI, .ref mN, .ref mH, .ref mC])), (mK, .inl (g.2.1, 61, .inl fk)), (mO, .inl (g.2.1, 61, .inl fo)), (mI, .inl (g.2.2, 23, .inr (.inl w4))), (mN, .inl (g.2.1, 61, .inl f2)), (mH, .inl (g.2.1, 61, .inl (upd h4 kk (f2 i))))] H := hP
                                have hD : va_D A [(y0, .inr (6, [.int zs, .ref mW, .ref mD, .int zt, .int zn, .ref mT, .int ze, .ref mP, .ref mR, .int za, .ref mA, .int (nI t.length), .ref mK, .ref mO, .ref mB, .ref mI, .ref mN, .ref mH, .ref mC])), (mK, .inl (g.2.1, 61, .inl fk)), (mO, .inl (g.2.1, 61, .inl fo)), (mI, .inl (g.2.2, 23, .inr (.inl w4))), (mN, .inl (g.2.1, 61, .inl f2)), (mH, .inl (g.2.1, 61, .inl (upd h4 kk (f2 i))))] := hD
                                refine lv_iinc (k := 2) (v := nI (kk + 1)) (lv' := [(2, .int (nI (kk + 1))), (0, .ref y0), (1, .int (nI j)), (3, .int (nI 1)), (4, .int (nI i))]) hx hb zdM_levels_108 hl rfl (si_inc _) (Nat.le_of_ble_eq_true rfl) rfl (fun ls hl => ?_)
                                refine lv_aload_n hx hb zdM_levels_111 rfl (lv_at hl 1 rfl) ?_
                                refine va_get (D := g.1) (ci := 6) (v := .ref mI) (C := zRM) (T := zTM) (N := 19) hx hb hts ziM hown hK hP 0 rfl rfl 15 (by decide) (hts _ zlM_38) (fun _ h => h) rfl zdM_levels_112 ?_
                                refine lv_iconst (v := nI 1) hx hb zdM_levels_115 (by decide) ?_
                                refine lv_iload_n hx hb zdM_levels_116 rfl (lv_at hl 2 rfl) ?_
                                refine si_iadd (v := nI (1 + j)) hx hb zdM_levels_117 (nI_add _ _) ?_
                                refine lv_aload_n hx hb zdM_levels_118 rfl (lv_at hl 1 rfl) ?_
                                refine va_get (D := g.1) (ci := 6) (v := .ref mI) (C := zRM) (T := zTM) (N := 19) hx hb hts ziM hown hK hP 0 rfl rfl 15 (by decide) (hts _ zlM_38) (fun _ h => h) rfl zdM_levels_119 ?_
                                refine lv_iconst (v := nI 1) hx hb zdM_levels_122 (by decide) ?_
                                refine lv_iload_n hx hb zdM_levels_123 rfl (lv_at hl 2 rfl) ?_
                                refine si_iadd (v := nI (1 + j)) hx hb zdM_levels_124 (nI_add _ _) ?_
                                refine si_lald (v := w4 (1 + j)) hx hb hK hP 3 1 rfl rfl (by decide) (by omega) (rfl) zdM_levels_125 ?_
                                refine lv_iload_n hx hb zdM_levels_126 rfl (lv_at hl 3 rfl) ?_
                                refine lv_i2l (v := lN 1) hx hb zdM_levels_127 (nI_l (by omega)) ?_
                                refine lv_iload hx hb zdM_levels_128 (lv_at hl 4 rfl) ?_
                                refine lv_lshl (v := (lN 1) <<< ((nI i).toInt64 &&& 63)) hx hb zdM_levels_130 (rfl) ?_
                                refine si_lor (v := (w4 (1 + j)) ||| ((lN 1) <<< ((nI i).toInt64 &&& 63))) hx hb zdM_levels_131 (rfl) ?_
                                refine si_last hx hb hK hP hD hS 3 1 rfl rfl (by decide) (by omega) zdM_levels_132 (fun H locs hP hD hS => ?_)
                                have hP : va_P g.1 vwCl [(y0, .inr (6, [.int zs, .ref mW, .ref mD, .int zt, .int zn, .ref mT, .int ze, .ref mP, .ref mR, .int za, .ref mA, .int (nI t.length), .ref mK, .ref mO, .ref mB, .ref mI, .ref mN, .ref mH, .ref mC])), (mK, .inl (g.2.1, 61, .inl fk)), (mO, .inl (g.2.1, 61, .inl fo)), (mI, .inl (g.2.2, 23, .inr (.inl (vp_updL w4 (1 + j) ((w4 (1 + j)) ||| ((lN 1) <<< ((nI i).toInt64 &&& 63))))))), (mN, .inl (g.2.1, 61, .inl f2)), (mH, .inl (g.2.1, 61, .inl (upd h4 kk (f2 i))))] H := hP
                                have hD : va_D A [(y0, .inr (6, [.int zs, .ref mW, .ref mD, .int zt, .int zn, .ref mT, .int ze, .ref mP, .ref mR, .int za, .ref mA, .int (nI t.length), .ref mK, .ref mO, .ref mB, .ref mI, .ref mN, .ref mH, .ref mC])), (mK, .inl (g.2.1, 61, .inl fk)), (mO, .inl (g.2.1, 61, .inl fo)), (mI, .inl (g.2.2, 23, .inr (.inl (vp_updL w4 (1 + j) ((w4 (1 + j)) ||| ((lN 1) <<< ((nI i).toInt64 &&& 63))))))), (mN, .inl (g.2.1, 61, .inl f2)), (mH, .inl (g.2.1, 61, .inl (upd h4 kk (f2 i))))] := hD
                                refine lv_iinc (k := 4) (v := nI (i + 1)) (lv' := [(4, .int (nI (i + 1))), (2, .int (nI (kk + 1))), (0, .ref y0), (1, .int (nI j)), (3, .int (nI 1))]) hx hb zdM_levels_133 hl rfl (si_inc _) (Nat.le_of_ble_eq_true rfl) rfl (fun ls hl => ?_)
                                refine lv_goto (tgt := 68) hx hb zdM_levels_136 rfl ?_
                                exact ih68_2 (i + 1) (kk + 1) (upd h4 kk (f2 i)) (vp_updL w4 (1 + j) ((w4 (1 + j)) ||| ((lN 1) <<< ((nI i).toInt64 &&& 63)))) _ _ _ (by omega) (by omega) (by first | (rw [si_cn_t hbt, hkk2]; rfl) | (rw [si_cn_f hbf, hkk2]; done)) (by first | exact hZ2 | exact si_qK hkk2 hZ2) (by first | exact si_qO hkk2 hO2 | exact si_poS (v := false) hbf hO2) (by first | (rw [si_wd_f hbf]; exact hwj2) | (rw [pk_uLs, hwj2, si_wd_t hbt]; rfl)) (by first | exact hwo2 | exact si_uLo hwo2) (lv_sub hl [2, 3, 1, 4, 0] rfl) (hP.sub [0, 1, 2, 3, 4, 5] rfl) (hD.sub [0, 1, 2, 3, 4, 5] (by decide) rfl) hS
                        exact L68_2 (t.length + 1 - 0 + 1) 0 kk h3 w3 _ _ _ (by omega) (by omega) (by rw [hkk, show i = t.length + 1 by omega]; rfl) (fun x hx => hZ x (by omega)) (fun x hx => absurd hx (Nat.not_lt_zero _)) (hwj) (hwo) (lv_sub hl [2, 3, 4, 1, 0] rfl) (hP.sub [0, 1, 2, 3, 4, 5] rfl) (hD.sub [0, 1, 2, 3, 4, 5] (by decide) rfl) hS
                    · have hxi := si_iv_ok (si_lp_bij (si_B t) (t.length + 1) j) (show i < t.length + 1 by omega)
                      have hcv : si_B t (si_iv (t.length + 1) (si_lp (si_B t) (t.length + 1) j) i) < 128 := by have := si_B_le hok (si_iv (t.length + 1) (si_lp (si_B t) (t.length + 1) j) i); omega
                      have hdv : si_B t (si_iv (t.length + 1) (si_lp (si_B t) (t.length + 1) j) i) / 2 ^ (6 - j) ≤ si_B t (si_iv (t.length + 1) (si_lp (si_B t) (t.length + 1) j) i) := Nat.div_le_self _ _
                      refine lv_aload_n hx hb zdM_levels_77 rfl (lv_at hl 0 rfl) ?_
                      refine va_get (D := g.1) (ci := 6) (v := .ref mN) (C := zRM) (T := zTM) (N := 19) hx hb hts ziM hown hK hP 0 rfl rfl 16 (by decide) (hts _ zlM_41) (fun _ h => h) rfl zdM_levels_78 ?_
                      refine lv_iload hx hb zdM_levels_81 (lv_at hl 4 rfl) ?_
                      refine si_iald (v := nI (si_B t (si_iv (t.length + 1) (si_lp (si_B t) (t.length + 1) j) i))) hx hb hK hP 4 0 rfl rfl (by decide) (by omega) (by have h9 := hN2 _ hxi.1; rw [hxi.2] at h9; exact h9) zdM_levels_83 ?_
                      refine lv_bipush (v := nI 6) hx hb zdM_levels_84 (by decide) ?_
                      refine lv_iload_n hx hb zdM_levels_86 rfl (lv_at hl 1 rfl) ?_
                      refine si_isub (v := nI (6 - j)) hx hb zdM_levels_87 (pk_sub (by omega)) ?_
                      refine si_ishr (v := nI (si_B t (si_iv (t.length + 1) (si_lp (si_B t) (t.length + 1) j) i) / 2 ^ (6 - j))) hx hb zdM_levels_88 (pk_shrN (by omega) _ _ (si_sl5 _ (by omega))) ?_
                      refine lv_iconst (v := nI 1) hx hb zdM_levels_89 (by decide) ?_
                      refine si_iand (v := nI ((si_lb (si_B t) (t.length + 1) j i).toNat)) hx hb zdM_levels_90 (si_bitj hcv) ?_
                      refine lv_iload_n hx hb zdM_levels_91 rfl (lv_at hl 3 rfl) ?_
                      refine si_icmp_ne (tgt := 133) hx hb zdM_levels_92 rfl (si_bn _) (by decide) (fun h92 => ?_) (fun h92 => ?_)
                      · have hbt := si_b1 h92
                        refine lv_iinc (k := 4) (v := nI (i + 1)) (lv' := [(4, .int (nI (i + 1))), (0, .ref y0), (1, .int (nI j)), (2, .int (nI kk)), (3, .int (nI 0))]) hx hb zdM_levels_133 hl rfl (si_inc _) (Nat.le_of_ble_eq_true rfl) rfl (fun ls hl => ?_)
                        refine lv_goto (tgt := 68) hx hb zdM_levels_136 rfl ?_
                        exact ih68 (i + 1) kk h3 w3 _ _ _ (by omega) (by omega) (by first | (rw [si_cn_t (P := (fun k => !si_lb (si_B t) (t.length + 1) j k)) (by simp [hbf]), hkk]; done) | (rw [si_cn_f (P := (fun k => !si_lb (si_B t) (t.length + 1) j k)) (by simp [hbt]), hkk]; done)) (by first | exact si_qZ hkk hZ | exact si_poS (v := true) hbt hZ) (by first | exact hwj | (rw [pk_uLs, si_lN0 (by omega)]; exact hwj)) (by first | exact hwo | exact si_uLo hwo) (lv_sub hl [1, 2, 3, 4, 0] rfl) (hP.sub [0, 1, 2, 3, 4, 5] rfl) (hD.sub [0, 1, 2, 3, 4, 5] (by decide) rfl) hS
                      · have hbf := si_b0 h92
                        have hkl : kk ≤ i := by rw [hkk]; exact si_cn_le _ _
                        refine lv_aload_n hx hb zdM_levels_95 rfl (lv_at hl 0 rfl) ?_
                        refine va_get (D := g.1) (ci := 6) (v := .ref mH) (C := zRM) (T := zTM) (N := 19) hx hb hts ziM hown hK hP 0 rfl rfl 17 (by decide) (hts _ zlM_44) (fun _ h => h) rfl zdM_levels_96 ?_
                        refine lv_iload_n hx hb zdM_levels_99 rfl (lv_at hl 2 rfl) ?_
                        refine lv_aload_n hx hb zdM_levels_100 rfl (lv_at hl 0 rfl) ?_
                        refine va_get (D := g.1) (ci := 6) (v := .ref mN) (C := zRM) (T := zTM) (N := 19) hx hb hts ziM hown hK hP 0 rfl rfl 16 (by decide) (hts _ zlM_41) (fun _ h => h) rfl zdM_levels_101 ?_
                        refine lv_iload hx hb zdM_levels_104 (lv_at hl 4 rfl) ?_
                        refine si_iald (v := f2 i) hx hb hK hP 4 0 rfl rfl (by decide) (by omega) (rfl) zdM_levels_106 ?_
                        refine si_iast hx hb hK hP hD hS 5 0 rfl rfl (by decide) (by omega) zdM_levels_107 (fun H locs hP hD hS => ?_)
                        have hP : va_P g.1 vwCl [(y0, .inr (6, [.int zs, .ref mW, .ref mD, .int zt, .int zn, .ref mT, .int ze, .ref mP, .ref mR, .int za, .ref mA, .int (nI t.length), .ref mK, .ref mO, .ref mB, .ref mI, .ref mN, .ref mH, .ref mC])), (mK, .inl (g.2.1, 61, .inl fk)), (mO, .inl (g.2.1, 61, .inl fo)), (mI, .inl (g.2.2, 23, .inr (.inl w3))), (mN, .inl (g.2.1, 61, .inl f2)), (mH, .inl (g.2.1, 61, .inl (upd h3 kk (f2 i))))] H := hP
                        have hD : va_D A [(y0, .inr (6, [.int zs, .ref mW, .ref mD, .int zt, .int zn, .ref mT, .int ze, .ref mP, .ref mR, .int za, .ref mA, .int (nI t.length), .ref mK, .ref mO, .ref mB, .ref mI, .ref mN, .ref mH, .ref mC])), (mK, .inl (g.2.1, 61, .inl fk)), (mO, .inl (g.2.1, 61, .inl fo)), (mI, .inl (g.2.2, 23, .inr (.inl w3))), (mN, .inl (g.2.1, 61, .inl f2)), (mH, .inl (g.2.1, 61, .inl (upd h3 kk (f2 i))))] := hD
                        refine lv_iinc (k := 2) (v := nI (kk + 1)) (lv' := [(2, .int (nI (kk + 1))), (0, .ref y0), (1, .int (nI j)), (3, .int (nI 0)), (4, .int (nI i))]) hx hb zdM_levels_108 hl rfl (si_inc _) (Nat.le_of_ble_eq_true rfl) rfl (fun ls hl => ?_)
                        refine lv_aload_n hx hb zdM_levels_111 rfl (lv_at hl 1 rfl) ?_
                        refine va_get (D := g.1) (ci := 6) (v := .ref mI) (C := zRM) (T := zTM) (N := 19) hx hb hts ziM hown hK hP 0 rfl rfl 15 (by decide) (hts _ zlM_38) (fun _ h => h) rfl zdM_levels_112 ?_
                        refine lv_iconst (v := nI 1) hx hb zdM_levels_115 (by decide) ?_
                        refine lv_iload_n hx hb zdM_levels_116 rfl (lv_at hl 2 rfl) ?_
                        refine si_iadd (v := nI (1 + j)) hx hb zdM_levels_117 (nI_add _ _) ?_
                        refine lv_aload_n hx hb zdM_levels_118 rfl (lv_at hl 1 rfl) ?_
                        refine va_get (D := g.1) (ci := 6) (v := .ref mI) (C := zRM) (T := zTM) (N := 19) hx hb hts ziM hown hK hP 0 rfl rfl 15 (by decide) (hts _ zlM_38) (fun _ h => h) rfl zdM_levels_119 ?_
                        refine lv_iconst (v := nI 1) hx hb zdM_levels_122 (by decide) ?_
                        refine lv_iload_n hx hb zdM_levels_123 rfl (lv_at hl 2 rfl) ?_
                        refine si_iadd (v := nI (1 + j)) hx hb zdM_levels_124 (nI_add _ _) ?_
                        refine si_lald (v := w3 (1 + j)) hx hb hK hP 3 1 rfl rfl (by decide) (by omega) (rfl) zdM_levels_125 ?_
                        refine lv_iload_n hx hb zdM_levels_126 rfl (lv_at hl 3 rfl) ?_
                        refine lv_i2l (v := lN 0) hx hb zdM_levels_127 (nI_l (by omega)) ?_
                        refine lv_iload hx hb zdM_levels_128 (lv_at hl 4 rfl) ?_
                        refine lv_lshl (v := (lN 0) <<< ((nI i).toInt64 &&& 63)) hx hb zdM_levels_130 (rfl) ?_
                        refine si_lor (v := (w3 (1 + j)) ||| ((lN 0) <<< ((nI i).toInt64 &&& 63))) hx hb zdM_levels_131 (rfl) ?_
                        refine si_last hx hb hK hP hD hS 3 1 rfl rfl (by decide) (by omega) zdM_levels_132 (fun H locs hP hD hS => ?_)
                        have hP : va_P g.1 vwCl [(y0, .inr (6, [.int zs, .ref mW, .ref mD, .int zt, .int zn, .ref mT, .int ze, .ref mP, .ref mR, .int za, .ref mA, .int (nI t.length), .ref mK, .ref mO, .ref mB, .ref mI, .ref mN, .ref mH, .ref mC])), (mK, .inl (g.2.1, 61, .inl fk)), (mO, .inl (g.2.1, 61, .inl fo)), (mI, .inl (g.2.2, 23, .inr (.inl (vp_updL w3 (1 + j) ((w3 (1 + j)) ||| ((lN 0) <<< ((nI i).toInt64 &&& 63))))))), (mN, .inl (g.2.1, 61, .inl f2)), (mH, .inl (g.2.1, 61, .inl (upd h3 kk (f2 i))))] H := hP
                        have hD : va_D A [(y0, .inr (6, [.int zs, .ref mW, .ref mD, .int zt, .int zn, .ref mT, .int ze, .ref mP, .ref mR, .int za, .ref mA, .int (nI t.length), .ref mK, .ref mO, .ref mB, .ref mI, .ref mN, .ref mH, .ref mC])), (mK, .inl (g.2.1, 61, .inl fk)), (mO, .inl (g.2.1, 61, .inl fo)), (mI, .inl (g.2.2, 23, .inr (.inl (vp_updL w3 (1 + j) ((w3 (1 + j)) ||| ((lN 0) <<< ((nI i).toInt64 &&& 63))))))), (mN, .inl (g.2.1, 61, .inl f2)), (mH, .inl (g.2.1, 61, .inl (upd h3 kk (f2 i))))] := hD
                        refine lv_iinc (k := 4) (v := nI (i + 1)) (lv' := [(4, .int (nI (i + 1))), (2, .int (nI (kk + 1))), (0, .ref y0), (1, .int (nI j)), (3, .int (nI 0))]) hx hb zdM_levels_133 hl rfl (si_inc _) (Nat.le_of_ble_eq_true rfl) rfl (fun ls hl => ?_)
                        refine lv_goto (tgt := 68) hx hb zdM_levels_136 rfl ?_
                        exact ih68 (i + 1) (kk + 1) (upd h3 kk (f2 i)) (vp_updL w3 (1 + j) ((w3 (1 + j)) ||| ((lN 0) <<< ((nI i).toInt64 &&& 63)))) _ _ _ (by omega) (by omega) (by first | (rw [si_cn_t (P := (fun k => !si_lb (si_B t) (t.length + 1) j k)) (by simp [hbf]), hkk]; done) | (rw [si_cn_f (P := (fun k => !si_lb (si_B t) (t.length + 1) j k)) (by simp [hbt]), hkk]; done)) (by first | exact si_qZ hkk hZ | exact si_poS (v := true) hbt hZ) (by first | exact hwj | (rw [pk_uLs, si_lN0 (by omega)]; exact hwj)) (by first | exact hwo | exact si_uLo hwo) (lv_sub hl [2, 3, 1, 4, 0] rfl) (hP.sub [0, 1, 2, 3, 4, 5] rfl) (hD.sub [0, 1, 2, 3, 4, 5] (by decide) rfl) hS
                exact L68 (t.length + 1 - 0 + 1) 0 0 h2 w2 _ _ _ (by omega) (by omega) (rfl) (fun x hx => absurd hx (Nat.not_lt_zero _)) (hW1 j (Nat.le_refl _) (by omega)) (fun x _ => rfl) (lv_sub hl [3, 4, 2, 1, 0] rfl) (hP.sub [0, 1, 2, 3, 4, 5] rfl) (hD.sub [0, 1, 2, 3, 4, 5] (by decide) rfl) hS
        exact L50 (7 - 0 + 1) 0 f2 fh fi _ _ _ (by omega) (by omega) (fun x hx => hC x (by omega)) (fun k hk => absurd hk (Nat.not_lt_zero _)) (fun k _ => rfl) (fun k _ hk => hI0 k hk) (lv_sub hl [1, 0] rfl) (hP.sub [0, 1, 2, 3, 4, 5] rfl) (hD.sub [0, 1, 2, 3, 4, 5] (by decide) rfl) hS
      · have hpk := (si_pl_ok (t := t) (r := k) (by omega)).1
        refine lv_aload_n hx hb zdM_levels_10 rfl (lv_at hl 0 rfl) ?_
        refine va_get (D := g.1) (ci := 6) (v := .ref mN) (C := zRM) (T := zTM) (N := 19) hx hb hts ziM hown hK hP 0 rfl rfl 16 (by decide) (hts _ zlM_41) (fun _ h => h) rfl zdM_levels_11 ?_
        refine lv_iload_n hx hb zdM_levels_14 rfl (lv_at hl 1 rfl) ?_
        refine lv_aload_n hx hb zdM_levels_15 rfl (lv_at hl 0 rfl) ?_
        refine va_get (D := g.1) (ci := 6) (v := .ref mO) (C := zRM) (T := zTM) (N := 19) hx hb hts ziM hown hK hP 0 rfl rfl 13 (by decide) (hts _ zlM_32) (fun _ h => h) rfl zdM_levels_16 ?_
        refine lv_iload_n hx hb zdM_levels_19 rfl (lv_at hl 1 rfl) ?_
        refine si_iald (v := nI (si_pl t k)) hx hb hK hP 2 0 rfl rfl (by decide) (by omega) (hpl k (by omega)) zdM_levels_20 ?_
        refine si_if_ne (tgt := 28) hx hb zdM_levels_21 rfl (by omega) (fun h21 => ?_) (fun h21 => ?_)
        · refine lv_aload_n hx hb zdM_levels_28 rfl (lv_at hl 0 rfl) ?_
          refine va_get (D := g.1) (ci := 6) (v := .ref mK) (C := zRM) (T := zTM) (N := 19) hx hb hts ziM hown hK hP 0 rfl rfl 12 (by decide) (hts _ zlM_29) (fun _ h => h) rfl zdM_levels_29 ?_
          refine lv_aload_n hx hb zdM_levels_32 rfl (lv_at hl 0 rfl) ?_
          refine va_get (D := g.1) (ci := 6) (v := .ref mO) (C := zRM) (T := zTM) (N := 19) hx hb hts ziM hown hK hP 0 rfl rfl 13 (by decide) (hts _ zlM_32) (fun _ h => h) rfl zdM_levels_33 ?_
          refine lv_iload_n hx hb zdM_levels_36 rfl (lv_at hl 1 rfl) ?_
          refine si_iald (v := nI (si_pl t k)) hx hb hK hP 2 0 rfl rfl (by decide) (by omega) (hpl k (by omega)) zdM_levels_37 ?_
          refine lv_iconst (v := nI 1) hx hb zdM_levels_38 (by decide) ?_
          refine si_isub (v := nI ((si_pl t k) - 1)) hx hb zdM_levels_39 (pk_sub (by omega)) ?_
          refine si_iald (v := nI (si_g t (si_pl t k - 1))) hx hb hK hP 1 0 rfl rfl (by decide) (by omega) (hK1 _ (by omega)) zdM_levels_40 ?_
          refine si_iast hx hb hK hP hD hS 4 0 rfl rfl (by decide) (by omega) zdM_levels_41 (fun H locs hP hD hS => ?_)
          have hP : va_P g.1 vwCl [(y0, .inr (6, [.int zs, .ref mW, .ref mD, .int zt, .int zn, .ref mT, .int ze, .ref mP, .ref mR, .int za, .ref mA, .int (nI t.length), .ref mK, .ref mO, .ref mB, .ref mI, .ref mN, .ref mH, .ref mC])), (mK, .inl (g.2.1, 61, .inl fk)), (mO, .inl (g.2.1, 61, .inl fo)), (mI, .inl (g.2.2, 23, .inr (.inl fi))), (mN, .inl (g.2.1, 61, .inl (upd f2 k (nI (si_g t (si_pl t k - 1)))))), (mH, .inl (g.2.1, 61, .inl fh))] H := hP
          have hD : va_D A [(y0, .inr (6, [.int zs, .ref mW, .ref mD, .int zt, .int zn, .ref mT, .int ze, .ref mP, .ref mR, .int za, .ref mA, .int (nI t.length), .ref mK, .ref mO, .ref mB, .ref mI, .ref mN, .ref mH, .ref mC])), (mK, .inl (g.2.1, 61, .inl fk)), (mO, .inl (g.2.1, 61, .inl fo)), (mI, .inl (g.2.2, 23, .inr (.inl fi))), (mN, .inl (g.2.1, 61, .inl (upd f2 k (nI (si_g t (si_pl t k - 1)))))), (mH, .inl (g.2.1, 61, .inl fh))] := hD
          refine lv_iinc (k := 1) (v := nI (k + 1)) (lv' := [(1, .int (nI (k + 1))), (0, .ref y0)]) hx hb zdM_levels_42 hl rfl (si_inc _) (Nat.le_of_ble_eq_true rfl) rfl (fun ls hl => ?_)
          refine lv_goto (tgt := 2) hx hb zdM_levels_45 rfl ?_
          exact ih2 (k + 1) (upd f2 k (nI (si_g t (si_pl t k - 1)))) _ _ _ (by omega) (by omega) (by first | exact si_up (F := fun x => nI (si_B t x)) hC (si_B0 h21) | exact si_up (F := fun x => nI (si_B t x)) hC (si_B1 h21)) (lv_sub hl [1, 0] rfl) (hP.sub [0, 1, 2, 3, 4, 5] rfl) (hD.sub [0, 1, 2, 3, 4, 5] (by decide) rfl) hS
        · refine lv_iconst (v := nI 0) hx hb zdM_levels_24 (by decide) ?_
          refine lv_goto (tgt := 41) hx hb zdM_levels_25 rfl ?_
          refine si_iast hx hb hK hP hD hS 4 0 rfl rfl (by decide) (by omega) zdM_levels_41 (fun H locs hP hD hS => ?_)
          have hP : va_P g.1 vwCl [(y0, .inr (6, [.int zs, .ref mW, .ref mD, .int zt, .int zn, .ref mT, .int ze, .ref mP, .ref mR, .int za, .ref mA, .int (nI t.length), .ref mK, .ref mO, .ref mB, .ref mI, .ref mN, .ref mH, .ref mC])), (mK, .inl (g.2.1, 61, .inl fk)), (mO, .inl (g.2.1, 61, .inl fo)), (mI, .inl (g.2.2, 23, .inr (.inl fi))), (mN, .inl (g.2.1, 61, .inl (upd f2 k (nI 0)))), (mH, .inl (g.2.1, 61, .inl fh))] H := hP
          have hD : va_D A [(y0, .inr (6, [.int zs, .ref mW, .ref mD, .int zt, .int zn, .ref mT, .int ze, .ref mP, .ref mR, .int za, .ref mA, .int (nI t.length), .ref mK, .ref mO, .ref mB, .ref mI, .ref mN, .ref mH, .ref mC])), (mK, .inl (g.2.1, 61, .inl fk)), (mO, .inl (g.2.1, 61, .inl fo)), (mI, .inl (g.2.2, 23, .inr (.inl fi))), (mN, .inl (g.2.1, 61, .inl (upd f2 k (nI 0)))), (mH, .inl (g.2.1, 61, .inl fh))] := hD
          refine lv_iinc (k := 1) (v := nI (k + 1)) (lv' := [(1, .int (nI (k + 1))), (0, .ref y0)]) hx hb zdM_levels_42 hl rfl (si_inc _) (Nat.le_of_ble_eq_true rfl) rfl (fun ls hl => ?_)
          refine lv_goto (tgt := 2) hx hb zdM_levels_45 rfl ?_
          exact ih2 (k + 1) (upd f2 k (nI 0)) _ _ _ (by omega) (by omega) (by first | exact si_up (F := fun x => nI (si_B t x)) hC (si_B0 h21) | exact si_up (F := fun x => nI (si_B t x)) hC (si_B1 h21)) (lv_sub hl [1, 0] rfl) (hP.sub [0, 1, 2, 3, 4, 5] rfl) (hD.sub [0, 1, 2, 3, 4, 5] (by decide) rfl) hS
  exact L2 (t.length + 1 - 0 + 1) 0 fn _ _ _ (by omega) (by omega) (fun x hx => absurd hx (Nat.not_lt_zero _)) (lv_sub hl [1, 0] rfl) (hP.sub [0, 1, 2, 3, 4, 5] rfl) (hD.sub [0, 1, 2, 3, 4, 5] (by decide) rfl) hS

