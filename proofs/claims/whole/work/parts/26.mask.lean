/-! Contracts of the reference: writing, words, questions. Written by wip/draft/p26.py -/
theorem si_w22_t {q : Int32} (h1 : ¬ q < 0) (h2 : q ≤ nI 22) : ∃ j, j < 23 ∧ q = nI j ∧ si_isW q = true := by
  obtain ⟨j, hj, rfl⟩ := nI_of h1
  have := (nI_leI hj (by decide)).mp h2
  exact ⟨j, by omega, rfl, si_isW_n (by omega)⟩
theorem si_w22_f {q : Int32} (h : q < 0 ∨ ¬ q ≤ nI 22) : si_isW q = false := si_nt (fun z => by
  obtain ⟨j, hj, rfl⟩ := si_isW_t z
  rcases h with h | h
  · exact nI_pos (by omega) h
  · exact h (nI_le (by omega) (by decide)))
theorem si_b63_t {q : Int32} (h1 : ¬ q < 0) (h2 : q ≤ nI 63) : si_isB q = true := by
  obtain ⟨j, hj, rfl⟩ := nI_of h1
  have := (nI_leI hj (by decide)).mp h2
  exact decide_eq_true ⟨h1, nI_lt (by omega) (by decide)⟩
theorem si_b63_f {q : Int32} (h : q < 0 ∨ ¬ q ≤ nI 63) : si_isB q = false := decide_eq_false (fun z => by
  rcases h with h | h
  · exact z.1 h
  · obtain ⟨j, hj, rfl⟩ := nI_of z.1
    have := (nI_ltI hj (by decide)).mp z.2
    exact h (nI_le (by omega) (by decide)))
theorem si_ngt {x y : Int32} (h : ¬ y < x) : x ≤ y := Int32.not_lt.mp h
theorem si_gtn {x y : Int32} (h : y < x) : ¬ x ≤ y := Int32.not_le.mpr h
/-- the least row of the places below k where the pattern stands -/
def si_fm (t a : List Nat) (k : Nat) (v : Int32) : Prop := (v = -1 ∧ ∀ p, p < k → si_oc t a p = false) ∨ ∃ r, v = nI r ∧ r ≤ t.length ∧ si_oc t a (si_pl t r) = true ∧ si_pl t r < k ∧ ∀ p, p < k → si_oc t a p = true → r ≤ si_rk t p
theorem si_fm_0 {t a : List Nat} : si_fm t a 0 (-1) := Or.inl ⟨rfl, fun p hp => absurd hp (Nat.not_lt_zero _)⟩
theorem si_fm_no {t a : List Nat} {k : Nat} {v : Int32} (h : si_fm t a k v) (ho : si_oc t a k = false) : si_fm t a (k + 1) v := by
  rcases h with ⟨e, h⟩ | ⟨r, e, h1, h2, h3, h4⟩
  · exact Or.inl ⟨e, lt_s h ho⟩
  · refine Or.inr ⟨r, e, h1, h2, by omega, fun p hp hq => ?_⟩
    by_cases z : p = k
    · subst z; rw [ho] at hq; cases hq
    · exact h4 p (by omega) hq
theorem si_fm_new {t a : List Nat} {k : Nat} {v : Int32} (hn : t.length < 2 ^ 31) (hk : k ≤ t.length) (h : si_fm t a k v) (ho : si_oc t a k = true) (hv : v < 0 ∨ ∃ r, v = nI r ∧ r < 2 ^ 31 ∧ si_rk t k < r) : si_fm t a (k + 1) (nI (si_rk t k)) := by
  have hr := si_rk_le hk
  refine Or.inr ⟨si_rk t k, rfl, by omega, by rw [si_pl_rk hk]; exact ho, by rw [si_pl_rk hk]; omega, fun p hp hq => ?_⟩
  by_cases z : p = k
  · subst z; exact Nat.le_refl _
  · rcases h with ⟨e, h⟩ | ⟨r, e, h1, h2, h3, h4⟩
    · rw [h p (by omega)] at hq; cases hq
    · have h5 := h4 p (by omega) hq
      rcases hv with hv | ⟨r', e', hr', hlt⟩
      · rw [e] at hv; exact absurd hv (nI_pos (by omega))
      · rw [e] at e'
        have := (nI_eq (a := r) (b := r') (by omega) hr').mp e'
        omega
theorem si_fm_keep {t a : List Nat} {k r : Nat} (hn : t.length < 2 ^ 31) (h : si_fm t a k (nI r)) (hr : r < 2 ^ 31) (ho : r ≤ si_rk t k) : si_fm t a (k + 1) (nI r) := by
  rcases h with ⟨e, h⟩ | ⟨r', e, h1, h2, h3, h4⟩
  · exact absurd e (si_nm1 hr)
  · have := (nI_eq hr (by omega)).mp e
    subst this
    refine Or.inr ⟨r, rfl, h1, h2, by omega, fun p hp hq => ?_⟩
    by_cases z : p = k
    · subst z; exact ho
    · exact h4 p (by omega) hq
theorem si_fm_r {t a : List Nat} {k : Nat} {v : Int32} (h : si_fm t a k v) (hv : ¬ v < 0) : ∃ r, r ≤ t.length ∧ v = nI r := by
  rcases h with ⟨e, -⟩ | ⟨r, e, h1, -⟩
  · subst e; exact absurd (by decide) hv
  · exact ⟨r, h1, e⟩
theorem si_fm_end {t a : List Nat} {v : Int32} (h : si_fm t a (t.length + 1) v) : si_fr t a v := by
  rcases h with ⟨e, h⟩ | ⟨r, e, h1, h2, h3, h4⟩
  · exact Or.inl ⟨e, fun p hp => h p (by omega)⟩
  · refine Or.inr ⟨r, h1, e, h2, fun q hq => si_nt (fun z => ?_)⟩
    have hp := si_pl_ok (t := t) (r := q) (by omega)
    have := h4 (si_pl t q) (by omega) z
    omega
theorem si_fKs1 {t a : List Nat} {k x : Nat} (hk : 1 ≤ k) : si_fK t a (k + 1 - 1) x = (si_fK t a (k - 1) x || (si_g t (k - 1) == x && si_oc t a k)) := by
  rw [show k + 1 - 1 = (k - 1) + 1 by omega, si_fK_s, show k - 1 + 1 = k by omega]
theorem si_fKA {t a : List Nat} {k x : Nat} (hk : 1 ≤ k) (h : si_g t (k - 1) = x) (ho : si_oc t a k = true) : si_fK t a (k + 1 - 1) x = true := by
  rw [si_fKs1 hk, ho, h]
  simp
theorem si_fKB {t a : List Nat} {k x : Nat} (hk : 1 ≤ k) (h : si_fK t a (k - 1) x = false) (ho : si_oc t a k = false) : si_fK t a (k + 1 - 1) x = false := by
  rw [si_fKs1 hk, ho, h, Bool.and_false]; rfl
theorem si_fKC {t a : List Nat} {k x : Nat} (hk : 1 ≤ k) (h : si_fK t a (k - 1) x = true) : si_fK t a (k + 1 - 1) x = true := by
  rw [si_fKs1 hk, h, Bool.true_or]
theorem si_fKD {t a : List Nat} {k x : Nat} (hk : 1 ≤ k) (h : si_fK t a (k - 1) x = false) (hg : si_g t (k - 1) ≠ x) : si_fK t a (k + 1 - 1) x = false := by
  have e : (si_g t (k - 1) == x) = false := by simp [hg]
  rw [si_fKs1 hk, h, e]; rfl
theorem si_va0 {t b : List Nat} : si_cn 32 (fun x => decide (32 ≤ x) && si_fo t b x) = 0 := si_cn_0 (fun y hy => by
  have e : decide (32 ≤ y) = false := decide_eq_false (by omega)
  rw [e, Bool.false_and])
set_option maxHeartbeats 4000000 in
set_option maxRecDepth 100000 in
/-- write -/
theorem cM_write (l : Launch) (g : si_G) (y0 mW mD mT mP mR mA mK mO mB mI mN mH mC : Nat) (zs zt zn ze za zm : Int32) (f : Nat → Int32) (sz : Nat) (q : Int32) (hsz : sz ≤ 60) : si_Mi (S := (Nat → Int32) × Nat) l g vwCl zyM_write zwM_write ({ frames := 0, cells := 0, slots := 0, locals := 0 } : Room) [.ref y0, .int q] [(y0, .inr (6, [.int (nI sz), .ref mW, .ref mD, .int zt, .int zn, .ref mT, .int ze, .ref mP, .ref mR, .int za, .ref mA, .int zm, .ref mK, .ref mO, .ref mB, .ref mI, .ref mN, .ref mH, .ref mC])), (mW, .inl (g.2.1, 60, .inl f))] (fun r u => r = nI (decide (si_ch q ∧ sz < 60)).toNat ∧ (decide (si_ch q ∧ sz < 60) = true → u.1 = upd f sz q ∧ u.2 = sz + 1) ∧ (decide (si_ch q ∧ sz < 60) = false → u.1 = f ∧ u.2 = sz)) (fun u => [(y0, .inr (6, [.int (nI u.2), .ref mW, .ref mD, .int zt, .int zn, .ref mT, .int ze, .ref mP, .ref mR, .int za, .ref mA, .int zm, .ref mK, .ref mO, .ref mB, .ref mI, .ref mN, .ref mH, .ref mC])), (mW, .inl (g.2.1, 60, .inl u.1))]) := by
  refine si_Mi.of (cc := zkM_write) (maxL := 2) (by decide) rfl (Nat.le_of_ble_eq_true rfl) ?_
  intro p e s m args below meth c A Q ls hF0 hin hK hN hP hD hA hS hl hret
  obtain ⟨hx, hb, hml, hown, hts0⟩ := hF0
  have hts : ∀ w ∈ si_tbl, w.before args s = true := fun w hw => hts0 w (List.mem_cons_of_mem _ hw)
  have hF : CallFix p m c zkM_write 2 s args si_tbl zRM := ⟨hx, hb, hml, hown, hts⟩
  have hl : lv_has ls 2 [(0, .ref y0), (1, .int q)] := hl
  refine lv_iload_n hx hb zdM_write_0 rfl (lv_at hl 1 rfl) ?_
  refine lv_bipush (v := nI 32) hx hb zdM_write_1 (by decide) ?_
  refine lv_icmp_lt (tgt := 21) hx hb zdM_write_3 rfl (fun h3 => ?_) (fun h3 => ?_)
  · have hdc : decide (si_ch q ∧ sz < 60) = false := decide_eq_false (fun z => z.1.1 h3)
    refine lv_iconst (v := nI 0) hx hb zdM_write_21 (by decide) ?_
    exact hret (nI 0) (f, sz) _ _ _ _ (rfl) (by rw [hdc]; exact ⟨rfl, fun z => absurd z (by decide), fun _ => ⟨rfl, rfl⟩⟩) (hP.sub [0, 1] rfl) (hD.sub [0, 1] (by decide) rfl) hS zdM_write_22
  · refine lv_iload_n hx hb zdM_write_6 rfl (lv_at hl 1 rfl) ?_
    refine lv_bipush (v := nI 126) hx hb zdM_write_7 (by decide) ?_
    refine lv_icmp_gt (tgt := 21) hx hb zdM_write_9 rfl (fun h9 => ?_) (fun h9 => ?_)
    · have hdc : decide (si_ch q ∧ sz < 60) = false := decide_eq_false (fun z => z.1.2 h9)
      refine lv_iconst (v := nI 0) hx hb zdM_write_21 (by decide) ?_
      exact hret (nI 0) (f, sz) _ _ _ _ (rfl) (by rw [hdc]; exact ⟨rfl, fun z => absurd z (by decide), fun _ => ⟨rfl, rfl⟩⟩) (hP.sub [0, 1] rfl) (hD.sub [0, 1] (by decide) rfl) hS zdM_write_22
    · refine lv_aload_n hx hb zdM_write_12 rfl (lv_at hl 0 rfl) ?_
      refine va_get (D := g.1) (ci := 6) (v := .int (nI sz)) (C := zRM) (T := zTM) (N := 19) hx hb hts ziM hown hK hP 0 rfl rfl 0 (by decide) (hts _ zlM_50) (fun _ h => h) rfl zdM_write_13 ?_
      refine lv_bipush (v := nI 60) hx hb zdM_write_16 (by decide) ?_
      refine si_icmp_ne (tgt := 23) hx hb zdM_write_18 rfl (by omega) (by decide) (fun h18 => ?_) (fun h18 => ?_)
      · have hdc : decide (si_ch q ∧ sz < 60) = true := decide_eq_true ⟨⟨h3, h9⟩, by omega⟩
        refine lv_aload_n hx hb zdM_write_23 rfl (lv_at hl 0 rfl) ?_
        refine va_get (D := g.1) (ci := 6) (v := .ref mW) (C := zRM) (T := zTM) (N := 19) hx hb hts ziM hown hK hP 0 rfl rfl 1 (by decide) (hts _ zlM_7) (fun _ h => h) rfl zdM_write_24 ?_
        refine lv_aload_n hx hb zdM_write_27 rfl (lv_at hl 0 rfl) ?_
        refine va_get (D := g.1) (ci := 6) (v := .int (nI sz)) (C := zRM) (T := zTM) (N := 19) hx hb hts ziM hown hK hP 0 rfl rfl 0 (by decide) (hts _ zlM_50) (fun _ h => h) rfl zdM_write_28 ?_
        refine lv_iload_n hx hb zdM_write_31 rfl (lv_at hl 1 rfl) ?_
        refine si_iast hx hb hK hP hD hS 1 0 rfl rfl (by decide) (by omega) zdM_write_32 (fun H locs hP hD hS => ?_)
        have hP : va_P g.1 vwCl [(y0, .inr (6, [.int (nI sz), .ref mW, .ref mD, .int zt, .int zn, .ref mT, .int ze, .ref mP, .ref mR, .int za, .ref mA, .int zm, .ref mK, .ref mO, .ref mB, .ref mI, .ref mN, .ref mH, .ref mC])), (mW, .inl (g.2.1, 60, .inl (upd f sz q)))] H := hP
        have hD : va_D A [(y0, .inr (6, [.int (nI sz), .ref mW, .ref mD, .int zt, .int zn, .ref mT, .int ze, .ref mP, .ref mR, .int za, .ref mA, .int zm, .ref mK, .ref mO, .ref mB, .ref mI, .ref mN, .ref mH, .ref mC])), (mW, .inl (g.2.1, 60, .inl (upd f sz q)))] := hD
        refine lv_aload_n hx hb zdM_write_33 rfl (lv_at hl 0 rfl) ?_
        refine lv_dup hx hb zdM_write_34 rfl ?_
        refine va_get (D := g.1) (ci := 6) (v := .int (nI sz)) (C := zRM) (T := zTM) (N := 19) hx hb hts ziM hown hK hP 0 rfl rfl 0 (by decide) (hts _ zlM_50) (fun _ h => h) rfl zdM_write_35 ?_
        refine lv_iconst (v := nI 1) hx hb zdM_write_38 (by decide) ?_
        refine si_iadd (v := nI (sz + 1)) hx hb zdM_write_39 (nI_add _ _) ?_
        refine va_put (D := g.1) (ci := 6) (v := .int (nI (sz + 1))) (ty := .int) (C := zRM) (T := zTM) (N := 19) hx hb hts ziM ztM ztoM znM hown hK hP hD hS 0 rfl rfl 0 (by decide) (hts _ zlM_50) (fun _ h => h) rfl (by decide +kernel) rfl rfl (Nat.le_of_ble_eq_true rfl) zdM_write_40 (fun H locs hP hD hS => ?_)
        have hP : va_P g.1 vwCl [(y0, .inr (6, [.int (nI (sz + 1)), .ref mW, .ref mD, .int zt, .int zn, .ref mT, .int ze, .ref mP, .ref mR, .int za, .ref mA, .int zm, .ref mK, .ref mO, .ref mB, .ref mI, .ref mN, .ref mH, .ref mC])), (mW, .inl (g.2.1, 60, .inl (upd f sz q)))] H := hP
        have hD : va_D A [(y0, .inr (6, [.int (nI (sz + 1)), .ref mW, .ref mD, .int zt, .int zn, .ref mT, .int ze, .ref mP, .ref mR, .int za, .ref mA, .int zm, .ref mK, .ref mO, .ref mB, .ref mI, .ref mN, .ref mH, .ref mC])), (mW, .inl (g.2.1, 60, .inl (upd f sz q)))] := hD
        refine lv_iconst (v := nI 1) hx hb zdM_write_43 (by decide) ?_
        exact hret (nI 1) (upd f sz q, sz + 1) _ _ _ _ (rfl) (by rw [hdc]; exact ⟨rfl, fun _ => ⟨rfl, rfl⟩, fun z => absurd z (by decide)⟩) (hP.sub [0, 1] rfl) (hD.sub [0, 1] (by decide) rfl) hS zdM_write_44
      · have hdc : decide (si_ch q ∧ sz < 60) = false := decide_eq_false (fun z => by have := z.2; omega)
        refine lv_iconst (v := nI 0) hx hb zdM_write_21 (by decide) ?_
        exact hret (nI 0) (f, sz) _ _ _ _ (rfl) (by rw [hdc]; exact ⟨rfl, fun z => absurd z (by decide), fun _ => ⟨rfl, rfl⟩⟩) (hP.sub [0, 1] rfl) (hD.sub [0, 1] (by decide) rfl) hS zdM_write_22

set_option maxHeartbeats 4000000 in
set_option maxRecDepth 100000 in
/-- ask -/
theorem cM_ask (l : Launch) (g : si_G) (y0 mW mD mT mP mR mA mK mO mB mI mN mH mC : Nat) (zs zt zn ze za zm : Int32) (f : Nat → Int32) (sz : Nat) (q : Int32) (hsz : sz ≤ 20) : si_Mi (S := (Nat → Int32) × Nat) l g vwCl zyM_ask zwM_ask ({ frames := 0, cells := 0, slots := 0, locals := 0 } : Room) [.ref y0, .int q] [(y0, .inr (6, [.int zs, .ref mW, .ref mD, .int zt, .int zn, .ref mT, .int ze, .ref mP, .ref mR, .int (nI sz), .ref mA, .int zm, .ref mK, .ref mO, .ref mB, .ref mI, .ref mN, .ref mH, .ref mC])), (mA, .inl (g.2.1, 20, .inl f))] (fun r u => r = nI (decide (si_ch q ∧ sz < 20)).toNat ∧ (decide (si_ch q ∧ sz < 20) = true → u.1 = upd f sz q ∧ u.2 = sz + 1) ∧ (decide (si_ch q ∧ sz < 20) = false → u.1 = f ∧ u.2 = sz)) (fun u => [(y0, .inr (6, [.int zs, .ref mW, .ref mD, .int zt, .int zn, .ref mT, .int ze, .ref mP, .ref mR, .int (nI u.2), .ref mA, .int zm, .ref mK, .ref mO, .ref mB, .ref mI, .ref mN, .ref mH, .ref mC])), (mA, .inl (g.2.1, 20, .inl u.1))]) := by
  refine si_Mi.of (cc := zkM_ask) (maxL := 2) (by decide) rfl (Nat.le_of_ble_eq_true rfl) ?_
  intro p e s m args below meth c A Q ls hF0 hin hK hN hP hD hA hS hl hret
  obtain ⟨hx, hb, hml, hown, hts0⟩ := hF0
  have hts : ∀ w ∈ si_tbl, w.before args s = true := fun w hw => hts0 w (List.mem_cons_of_mem _ hw)
  have hF : CallFix p m c zkM_ask 2 s args si_tbl zRM := ⟨hx, hb, hml, hown, hts⟩
  have hl : lv_has ls 2 [(0, .ref y0), (1, .int q)] := hl
  refine lv_iload_n hx hb zdM_ask_0 rfl (lv_at hl 1 rfl) ?_
  refine lv_bipush (v := nI 32) hx hb zdM_ask_1 (by decide) ?_
  refine lv_icmp_lt (tgt := 21) hx hb zdM_ask_3 rfl (fun h3 => ?_) (fun h3 => ?_)
  · have hdc : decide (si_ch q ∧ sz < 20) = false := decide_eq_false (fun z => z.1.1 h3)
    refine lv_iconst (v := nI 0) hx hb zdM_ask_21 (by decide) ?_
    exact hret (nI 0) (f, sz) _ _ _ _ (rfl) (by rw [hdc]; exact ⟨rfl, fun z => absurd z (by decide), fun _ => ⟨rfl, rfl⟩⟩) (hP.sub [0, 1] rfl) (hD.sub [0, 1] (by decide) rfl) hS zdM_ask_22
  · refine lv_iload_n hx hb zdM_ask_6 rfl (lv_at hl 1 rfl) ?_
    refine lv_bipush (v := nI 126) hx hb zdM_ask_7 (by decide) ?_
    refine lv_icmp_gt (tgt := 21) hx hb zdM_ask_9 rfl (fun h9 => ?_) (fun h9 => ?_)
    · have hdc : decide (si_ch q ∧ sz < 20) = false := decide_eq_false (fun z => z.1.2 h9)
      refine lv_iconst (v := nI 0) hx hb zdM_ask_21 (by decide) ?_
      exact hret (nI 0) (f, sz) _ _ _ _ (rfl) (by rw [hdc]; exact ⟨rfl, fun z => absurd z (by decide), fun _ => ⟨rfl, rfl⟩⟩) (hP.sub [0, 1] rfl) (hD.sub [0, 1] (by decide) rfl) hS zdM_ask_22
    · refine lv_aload_n hx hb zdM_ask_12 rfl (lv_at hl 0 rfl) ?_
      refine va_get (D := g.1) (ci := 6) (v := .int (nI sz)) (C := zRM) (T := zTM) (N := 19) hx hb hts ziM hown hK hP 0 rfl rfl 9 (by decide) (hts _ zlM_100) (fun _ h => h) rfl zdM_ask_13 ?_
      refine lv_bipush (v := nI 20) hx hb zdM_ask_16 (by decide) ?_
      refine si_icmp_ne (tgt := 23) hx hb zdM_ask_18 rfl (by omega) (by decide) (fun h18 => ?_) (fun h18 => ?_)
      · have hdc : decide (si_ch q ∧ sz < 20) = true := decide_eq_true ⟨⟨h3, h9⟩, by omega⟩
        refine lv_aload_n hx hb zdM_ask_23 rfl (lv_at hl 0 rfl) ?_
        refine va_get (D := g.1) (ci := 6) (v := .ref mA) (C := zRM) (T := zTM) (N := 19) hx hb hts ziM hown hK hP 0 rfl rfl 10 (by decide) (hts _ zlM_26) (fun _ h => h) rfl zdM_ask_24 ?_
        refine lv_aload_n hx hb zdM_ask_27 rfl (lv_at hl 0 rfl) ?_
        refine va_get (D := g.1) (ci := 6) (v := .int (nI sz)) (C := zRM) (T := zTM) (N := 19) hx hb hts ziM hown hK hP 0 rfl rfl 9 (by decide) (hts _ zlM_100) (fun _ h => h) rfl zdM_ask_28 ?_
        refine lv_iload_n hx hb zdM_ask_31 rfl (lv_at hl 1 rfl) ?_
        refine si_iast hx hb hK hP hD hS 1 0 rfl rfl (by decide) (by omega) zdM_ask_32 (fun H locs hP hD hS => ?_)
        have hP : va_P g.1 vwCl [(y0, .inr (6, [.int zs, .ref mW, .ref mD, .int zt, .int zn, .ref mT, .int ze, .ref mP, .ref mR, .int (nI sz), .ref mA, .int zm, .ref mK, .ref mO, .ref mB, .ref mI, .ref mN, .ref mH, .ref mC])), (mA, .inl (g.2.1, 20, .inl (upd f sz q)))] H := hP
        have hD : va_D A [(y0, .inr (6, [.int zs, .ref mW, .ref mD, .int zt, .int zn, .ref mT, .int ze, .ref mP, .ref mR, .int (nI sz), .ref mA, .int zm, .ref mK, .ref mO, .ref mB, .ref mI, .ref mN, .ref mH, .ref mC])), (mA, .inl (g.2.1, 20, .inl (upd f sz q)))] := hD
        refine lv_aload_n hx hb zdM_ask_33 rfl (lv_at hl 0 rfl) ?_
        refine lv_dup hx hb zdM_ask_34 rfl ?_
        refine va_get (D := g.1) (ci := 6) (v := .int (nI sz)) (C := zRM) (T := zTM) (N := 19) hx hb hts ziM hown hK hP 0 rfl rfl 9 (by decide) (hts _ zlM_100) (fun _ h => h) rfl zdM_ask_35 ?_
        refine lv_iconst (v := nI 1) hx hb zdM_ask_38 (by decide) ?_
        refine si_iadd (v := nI (sz + 1)) hx hb zdM_ask_39 (nI_add _ _) ?_
        refine va_put (D := g.1) (ci := 6) (v := .int (nI (sz + 1))) (ty := .int) (C := zRM) (T := zTM) (N := 19) hx hb hts ziM ztM ztoM znM hown hK hP hD hS 0 rfl rfl 9 (by decide) (hts _ zlM_100) (fun _ h => h) rfl (by decide +kernel) rfl rfl (Nat.le_of_ble_eq_true rfl) zdM_ask_40 (fun H locs hP hD hS => ?_)
        have hP : va_P g.1 vwCl [(y0, .inr (6, [.int zs, .ref mW, .ref mD, .int zt, .int zn, .ref mT, .int ze, .ref mP, .ref mR, .int (nI (sz + 1)), .ref mA, .int zm, .ref mK, .ref mO, .ref mB, .ref mI, .ref mN, .ref mH, .ref mC])), (mA, .inl (g.2.1, 20, .inl (upd f sz q)))] H := hP
        have hD : va_D A [(y0, .inr (6, [.int zs, .ref mW, .ref mD, .int zt, .int zn, .ref mT, .int ze, .ref mP, .ref mR, .int (nI (sz + 1)), .ref mA, .int zm, .ref mK, .ref mO, .ref mB, .ref mI, .ref mN, .ref mH, .ref mC])), (mA, .inl (g.2.1, 20, .inl (upd f sz q)))] := hD
        refine lv_iconst (v := nI 1) hx hb zdM_ask_43 (by decide) ?_
        exact hret (nI 1) (upd f sz q, sz + 1) _ _ _ _ (rfl) (by rw [hdc]; exact ⟨rfl, fun _ => ⟨rfl, rfl⟩, fun z => absurd z (by decide)⟩) (hP.sub [0, 1] rfl) (hD.sub [0, 1] (by decide) rfl) hS zdM_ask_44
      · have hdc : decide (si_ch q ∧ sz < 20) = false := decide_eq_false (fun z => by have := z.2; omega)
        refine lv_iconst (v := nI 0) hx hb zdM_ask_21 (by decide) ?_
        exact hret (nI 0) (f, sz) _ _ _ _ (rfl) (by rw [hdc]; exact ⟨rfl, fun z => absurd z (by decide), fun _ => ⟨rfl, rfl⟩⟩) (hP.sub [0, 1] rfl) (hD.sub [0, 1] (by decide) rfl) hS zdM_ask_22

set_option maxHeartbeats 4000000 in
set_option maxRecDepth 100000 in
/-- erase -/
theorem cM_erase (l : Launch) (g : si_G) (y0 mW mD mT mP mR mA mK mO mB mI mN mH mC : Nat) (zs zt zn ze za zm : Int32)  : si_Mv (S := Unit) l g vwCl zyM_erase zwM_erase ({ frames := 0, cells := 0, slots := 0, locals := 0 } : Room) [.ref y0] [(y0, .inr (6, [.int zs, .ref mW, .ref mD, .int zt, .int zn, .ref mT, .int ze, .ref mP, .ref mR, .int za, .ref mA, .int zm, .ref mK, .ref mO, .ref mB, .ref mI, .ref mN, .ref mH, .ref mC]))] (fun u => True) (fun u => [(y0, .inr (6, [.int (nI 0), .ref mW, .ref mD, .int zt, .int zn, .ref mT, .int ze, .ref mP, .ref mR, .int za, .ref mA, .int zm, .ref mK, .ref mO, .ref mB, .ref mI, .ref mN, .ref mH, .ref mC]))]) := by
  refine si_Mv.of (cc := zkM_erase) (maxL := 1) (by decide) rfl (Nat.le_of_ble_eq_true rfl) ?_
  intro p e s m args below meth c A Q ls hF0 hin hK hN hP hD hA hS hl hret
  obtain ⟨hx, hb, hml, hown, hts0⟩ := hF0
  have hts : ∀ w ∈ si_tbl, w.before args s = true := fun w hw => hts0 w (List.mem_cons_of_mem _ hw)
  have hF : CallFix p m c zkM_erase 1 s args si_tbl zRM := ⟨hx, hb, hml, hown, hts⟩
  have hl : lv_has ls 1 [(0, .ref y0)] := hl
  refine lv_aload_n hx hb zdM_erase_0 rfl (lv_at hl 0 rfl) ?_
  refine lv_iconst (v := nI 0) hx hb zdM_erase_1 (by decide) ?_
  refine va_put (D := g.1) (ci := 6) (v := .int (nI 0)) (ty := .int) (C := zRM) (T := zTM) (N := 19) hx hb hts ziM ztM ztoM znM hown hK hP hD hS 0 rfl rfl 0 (by decide) (hts _ zlM_50) (fun _ h => h) rfl (by decide +kernel) rfl rfl (Nat.le_of_ble_eq_true rfl) zdM_erase_2 (fun H locs hP hD hS => ?_)
  have hP : va_P g.1 vwCl [(y0, .inr (6, [.int (nI 0), .ref mW, .ref mD, .int zt, .int zn, .ref mT, .int ze, .ref mP, .ref mR, .int za, .ref mA, .int zm, .ref mK, .ref mO, .ref mB, .ref mI, .ref mN, .ref mH, .ref mC]))] H := hP
  have hD : va_D A [(y0, .inr (6, [.int (nI 0), .ref mW, .ref mD, .int zt, .int zn, .ref mT, .int ze, .ref mP, .ref mR, .int za, .ref mA, .int zm, .ref mK, .ref mO, .ref mB, .ref mI, .ref mN, .ref mH, .ref mC]))] := hD
  exact hret () _ _ _ _ (trivial) (hP.sub [0] rfl) (hD.sub [0] (by decide) rfl) hS zdM_erase_5

set_option maxHeartbeats 4000000 in
set_option maxRecDepth 100000 in
/-- back -/
theorem cM_back (l : Launch) (g : si_G) (y0 mW mD mT mP mR mA mK mO mB mI mN mH mC : Nat) (zs zt zn ze za zm : Int32) (sz : Nat) (hsz : sz ≤ 20) : si_Mi (S := Nat) l g vwCl zyM_back zwM_back ({ frames := 0, cells := 0, slots := 0, locals := 0 } : Room) [.ref y0] [(y0, .inr (6, [.int zs, .ref mW, .ref mD, .int zt, .int zn, .ref mT, .int ze, .ref mP, .ref mR, .int (nI sz), .ref mA, .int zm, .ref mK, .ref mO, .ref mB, .ref mI, .ref mN, .ref mH, .ref mC]))] (fun r u => (r = nI 1 ∧ sz ≠ 0 ∧ u = sz - 1) ∨ (r = nI 0 ∧ sz = 0 ∧ u = 0)) (fun u => [(y0, .inr (6, [.int zs, .ref mW, .ref mD, .int zt, .int zn, .ref mT, .int ze, .ref mP, .ref mR, .int (nI u), .ref mA, .int zm, .ref mK, .ref mO, .ref mB, .ref mI, .ref mN, .ref mH, .ref mC]))]) := by
  refine si_Mi.of (cc := zkM_back) (maxL := 1) (by decide) rfl (Nat.le_of_ble_eq_true rfl) ?_
  intro p e s m args below meth c A Q ls hF0 hin hK hN hP hD hA hS hl hret
  obtain ⟨hx, hb, hml, hown, hts0⟩ := hF0
  have hts : ∀ w ∈ si_tbl, w.before args s = true := fun w hw => hts0 w (List.mem_cons_of_mem _ hw)
  have hF : CallFix p m c zkM_back 1 s args si_tbl zRM := ⟨hx, hb, hml, hown, hts⟩
  have hl : lv_has ls 1 [(0, .ref y0)] := hl
  refine lv_aload_n hx hb zdM_back_0 rfl (lv_at hl 0 rfl) ?_
  refine va_get (D := g.1) (ci := 6) (v := .int (nI sz)) (C := zRM) (T := zTM) (N := 19) hx hb hts ziM hown hK hP 0 rfl rfl 9 (by decide) (hts _ zlM_100) (fun _ h => h) rfl zdM_back_1 ?_
  refine si_if_ne (tgt := 9) hx hb zdM_back_4 rfl (by omega) (fun h4 => ?_) (fun h4 => ?_)
  · refine lv_aload_n hx hb zdM_back_9 rfl (lv_at hl 0 rfl) ?_
    refine lv_dup hx hb zdM_back_10 rfl ?_
    refine va_get (D := g.1) (ci := 6) (v := .int (nI sz)) (C := zRM) (T := zTM) (N := 19) hx hb hts ziM hown hK hP 0 rfl rfl 9 (by decide) (hts _ zlM_100) (fun _ h => h) rfl zdM_back_11 ?_
    refine lv_iconst (v := nI 1) hx hb zdM_back_14 (by decide) ?_
    refine si_isub (v := nI (sz - 1)) hx hb zdM_back_15 (pk_sub (by omega)) ?_
    refine va_put (D := g.1) (ci := 6) (v := .int (nI (sz - 1))) (ty := .int) (C := zRM) (T := zTM) (N := 19) hx hb hts ziM ztM ztoM znM hown hK hP hD hS 0 rfl rfl 9 (by decide) (hts _ zlM_100) (fun _ h => h) rfl (by decide +kernel) rfl rfl (Nat.le_of_ble_eq_true rfl) zdM_back_16 (fun H locs hP hD hS => ?_)
    have hP : va_P g.1 vwCl [(y0, .inr (6, [.int zs, .ref mW, .ref mD, .int zt, .int zn, .ref mT, .int ze, .ref mP, .ref mR, .int (nI (sz - 1)), .ref mA, .int zm, .ref mK, .ref mO, .ref mB, .ref mI, .ref mN, .ref mH, .ref mC]))] H := hP
    have hD : va_D A [(y0, .inr (6, [.int zs, .ref mW, .ref mD, .int zt, .int zn, .ref mT, .int ze, .ref mP, .ref mR, .int (nI (sz - 1)), .ref mA, .int zm, .ref mK, .ref mO, .ref mB, .ref mI, .ref mN, .ref mH, .ref mC]))] := hD
    refine lv_iconst (v := nI 1) hx hb zdM_back_19 (by decide) ?_
    exact hret (nI 1) (sz - 1) _ _ _ _ (rfl) (Or.inl ⟨rfl, h4, rfl⟩) (hP.sub [0] rfl) (hD.sub [0] (by decide) rfl) hS zdM_back_20
  · subst h4
    refine lv_iconst (v := nI 0) hx hb zdM_back_7 (by decide) ?_
    exact hret (nI 0) 0 _ _ _ _ (rfl) (Or.inr ⟨rfl, rfl, rfl⟩) (hP.sub [0] rfl) (hD.sub [0] (by decide) rfl) hS zdM_back_8

set_option maxHeartbeats 4000000 in
set_option maxRecDepth 100000 in
/-- word -/
theorem cM_word (l : Launch) (g : si_G) (y0 mW mD mT mP mR mA mK mO mB mI mN mH mC : Nat) (zs zt zn ze za zm : Int32) (fd : Nat → Int64) (q : Int32)  : si_Ml (S := Unit) l g vwCl zyM_word zwM_word ({ frames := 0, cells := 0, slots := 0, locals := 0 } : Room) [.ref y0, .int q] [(y0, .inr (6, [.int zs, .ref mW, .ref mD, .int zt, .int zn, .ref mT, .int ze, .ref mP, .ref mR, .int za, .ref mA, .int zm, .ref mK, .ref mO, .ref mB, .ref mI, .ref mN, .ref mH, .ref mC])), (mD, .inl (g.2.2, 23, .inr (.inl fd)))] (fun r u => r = si_wq q fd) (fun u => [(y0, .inr (6, [.int zs, .ref mW, .ref mD, .int zt, .int zn, .ref mT, .int ze, .ref mP, .ref mR, .int za, .ref mA, .int zm, .ref mK, .ref mO, .ref mB, .ref mI, .ref mN, .ref mH, .ref mC])), (mD, .inl (g.2.2, 23, .inr (.inl fd)))]) := by
  refine si_Ml.of (cc := zkM_word) (maxL := 2) (by decide) rfl (Nat.le_of_ble_eq_true rfl) ?_
  intro p e s m args below meth c A Q ls hF0 hin hK hN hP hD hA hS hl hret
  obtain ⟨hx, hb, hml, hown, hts0⟩ := hF0
  have hts : ∀ w ∈ si_tbl, w.before args s = true := fun w hw => hts0 w (List.mem_cons_of_mem _ hw)
  have hF : CallFix p m c zkM_word 2 s args si_tbl zRM := ⟨hx, hb, hml, hown, hts⟩
  have hl : lv_has ls 2 [(0, .ref y0), (1, .int q)] := hl
  refine lv_iload_n hx hb zdM_word_0 rfl (lv_at hl 1 rfl) ?_
  refine lv_if_lt (tgt := 10) hx hb zdM_word_1 rfl (fun h1 => ?_) (fun h1 => ?_)
  · have hd := si_w22_f (Or.inl h1)
    refine lv_lconst (v := 0) hx hb zdM_word_10 (by decide) ?_
    refine lv_goto (tgt := 20) hx hb zdM_word_11 rfl ?_
    exact hret (0 : Int64) () _ _ _ _ ((si_wq_f hd).symm) (hP.sub [0, 1] rfl) (hD.sub [0, 1] (by decide) rfl) hS zdM_word_20
  · refine lv_iload_n hx hb zdM_word_4 rfl (lv_at hl 1 rfl) ?_
    refine lv_bipush (v := nI 22) hx hb zdM_word_5 (by decide) ?_
    refine lv_icmp_le (tgt := 14) hx hb zdM_word_7 rfl (fun h7 => ?_) (fun h7 => ?_)
    · obtain ⟨j, hj, rfl, hd⟩ := si_w22_t h1 h7
      refine lv_aload_n hx hb zdM_word_14 rfl (lv_at hl 0 rfl) ?_
      refine va_get (D := g.1) (ci := 6) (v := .ref mD) (C := zRM) (T := zTM) (N := 19) hx hb hts ziM hown hK hP 0 rfl rfl 2 (by decide) (hts _ zlM_13) (fun _ h => h) rfl zdM_word_15 ?_
      refine lv_iload_n hx hb zdM_word_18 rfl (lv_at hl 1 rfl) ?_
      refine si_lald (v := fd j) hx hb hK hP 1 1 rfl rfl (by decide) (by omega) (rfl) zdM_word_19 ?_
      exact hret (fd j) () _ _ _ _ ((si_wq_t hd hj).symm) (hP.sub [0, 1] rfl) (hD.sub [0, 1] (by decide) rfl) hS zdM_word_20
    · have hd := si_w22_f (Or.inr h7)
      refine lv_lconst (v := 0) hx hb zdM_word_10 (by decide) ?_
      refine lv_goto (tgt := 20) hx hb zdM_word_11 rfl ?_
      exact hret (0 : Int64) () _ _ _ _ ((si_wq_f hd).symm) (hP.sub [0, 1] rfl) (hD.sub [0, 1] (by decide) rfl) hS zdM_word_20

set_option maxHeartbeats 4000000 in
set_option maxRecDepth 100000 in
/-- put -/
theorem cM_put (l : Launch) (g : si_G) (y0 mW mD mT mP mR mA mK mO mB mI mN mH mC : Nat) (zs zt zn ze za zm : Int32) (fd : Nat → Int64) (q : Int32) (x : Int64)  : si_Mi (S := Nat → Int64) l g vwCl zyM_put zwM_put ({ frames := 0, cells := 0, slots := 0, locals := 0 } : Room) [.ref y0, .int q, .long x] [(y0, .inr (6, [.int zs, .ref mW, .ref mD, .int zt, .int zn, .ref mT, .int ze, .ref mP, .ref mR, .int za, .ref mA, .int zm, .ref mK, .ref mO, .ref mB, .ref mI, .ref mN, .ref mH, .ref mC])), (mD, .inl (g.2.2, 23, .inr (.inl fd)))] (fun r u => r = nI (si_isW q).toNat ∧ (si_isW q = true → u = vp_updL fd q.toNatClampNeg x) ∧ (si_isW q = false → u = fd)) (fun u => [(y0, .inr (6, [.int zs, .ref mW, .ref mD, .int zt, .int zn, .ref mT, .int ze, .ref mP, .ref mR, .int za, .ref mA, .int zm, .ref mK, .ref mO, .ref mB, .ref mI, .ref mN, .ref mH, .ref mC])), (mD, .inl (g.2.2, 23, .inr (.inl u)))]) := by
  refine si_Mi.of (cc := zkM_put) (maxL := 4) (by decide) rfl (Nat.le_of_ble_eq_true rfl) ?_
  intro p e s m args below meth c A Q ls hF0 hin hK hN hP hD hA hS hl hret
  obtain ⟨hx, hb, hml, hown, hts0⟩ := hF0
  have hts : ∀ w ∈ si_tbl, w.before args s = true := fun w hw => hts0 w (List.mem_cons_of_mem _ hw)
  have hF : CallFix p m c zkM_put 4 s args si_tbl zRM := ⟨hx, hb, hml, hown, hts⟩
  have hl : lv_has ls 4 [(0, .ref y0), (1, .int q), (2, .long x)] := hl
  refine lv_iload_n hx hb zdM_put_0 rfl (lv_at hl 1 rfl) ?_
  refine lv_if_lt (tgt := 10) hx hb zdM_put_1 rfl (fun h1 => ?_) (fun h1 => ?_)
  · have hd := si_w22_f (Or.inl h1)
    refine lv_iconst (v := nI 0) hx hb zdM_put_10 (by decide) ?_
    exact hret (nI 0) fd _ _ _ _ (rfl) (by rw [hd]; exact ⟨rfl, fun z => absurd z (by decide), fun _ => rfl⟩) (hP.sub [0, 1] rfl) (hD.sub [0, 1] (by decide) rfl) hS zdM_put_11
  · refine lv_iload_n hx hb zdM_put_4 rfl (lv_at hl 1 rfl) ?_
    refine lv_bipush (v := nI 22) hx hb zdM_put_5 (by decide) ?_
    refine lv_icmp_le (tgt := 12) hx hb zdM_put_7 rfl (fun h7 => ?_) (fun h7 => ?_)
    · obtain ⟨j, hj, rfl, hd⟩ := si_w22_t h1 h7
      refine lv_aload_n hx hb zdM_put_12 rfl (lv_at hl 0 rfl) ?_
      refine va_get (D := g.1) (ci := 6) (v := .ref mD) (C := zRM) (T := zTM) (N := 19) hx hb hts ziM hown hK hP 0 rfl rfl 2 (by decide) (hts _ zlM_13) (fun _ h => h) rfl zdM_put_13 ?_
      refine lv_iload_n hx hb zdM_put_16 rfl (lv_at hl 1 rfl) ?_
      refine lv_lload_n hx hb zdM_put_17 rfl (lv_at hl 2 rfl) ?_
      refine si_last hx hb hK hP hD hS 1 1 rfl rfl (by decide) (by omega) zdM_put_18 (fun H locs hP hD hS => ?_)
      have hP : va_P g.1 vwCl [(y0, .inr (6, [.int zs, .ref mW, .ref mD, .int zt, .int zn, .ref mT, .int ze, .ref mP, .ref mR, .int za, .ref mA, .int zm, .ref mK, .ref mO, .ref mB, .ref mI, .ref mN, .ref mH, .ref mC])), (mD, .inl (g.2.2, 23, .inr (.inl (vp_updL fd j x))))] H := hP
      have hD : va_D A [(y0, .inr (6, [.int zs, .ref mW, .ref mD, .int zt, .int zn, .ref mT, .int ze, .ref mP, .ref mR, .int za, .ref mA, .int zm, .ref mK, .ref mO, .ref mB, .ref mI, .ref mN, .ref mH, .ref mC])), (mD, .inl (g.2.2, 23, .inr (.inl (vp_updL fd j x))))] := hD
      refine lv_iconst (v := nI 1) hx hb zdM_put_19 (by decide) ?_
      exact hret (nI 1) (vp_updL fd j x) _ _ _ _ (rfl) (by rw [hd, nI_clamp (by omega)]; exact ⟨rfl, fun _ => rfl, fun z => absurd z (by decide)⟩) (hP.sub [0, 1] rfl) (hD.sub [0, 1] (by decide) rfl) hS zdM_put_20
    · have hd := si_w22_f (Or.inr h7)
      refine lv_iconst (v := nI 0) hx hb zdM_put_10 (by decide) ?_
      exact hret (nI 0) fd _ _ _ _ (rfl) (by rw [hd]; exact ⟨rfl, fun z => absurd z (by decide), fun _ => rfl⟩) (hP.sub [0, 1] rfl) (hD.sub [0, 1] (by decide) rfl) hS zdM_put_11

set_option maxHeartbeats 4000000 in
set_option maxRecDepth 100000 in
/-- flip -/
theorem cM_flip (l : Launch) (g : si_G) (y0 mW mD mT mP mR mA mK mO mB mI mN mH mC : Nat) (zs zt zn ze za zm : Int32) (fd : Nat → Int64) (q q2 : Int32)  : si_Mi (S := Nat → Int64) l g vwCl zyM_flip zwM_flip ({ frames := 0, cells := 0, slots := 0, locals := 0 } : Room) [.ref y0, .int q, .int q2] [(y0, .inr (6, [.int zs, .ref mW, .ref mD, .int zt, .int zn, .ref mT, .int ze, .ref mP, .ref mR, .int za, .ref mA, .int zm, .ref mK, .ref mO, .ref mB, .ref mI, .ref mN, .ref mH, .ref mC])), (mD, .inl (g.2.2, 23, .inr (.inl fd)))] (fun r u => r = nI (si_isW q && si_isB q2).toNat ∧ ((si_isW q && si_isB q2) = true → u = vp_updL fd q.toNatClampNeg (fd q.toNatClampNeg ^^^ ((1 : Int64) <<< (q2.toInt64 &&& 63)))) ∧ ((si_isW q && si_isB q2) = false → u = fd)) (fun u => [(y0, .inr (6, [.int zs, .ref mW, .ref mD, .int zt, .int zn, .ref mT, .int ze, .ref mP, .ref mR, .int za, .ref mA, .int zm, .ref mK, .ref mO, .ref mB, .ref mI, .ref mN, .ref mH, .ref mC])), (mD, .inl (g.2.2, 23, .inr (.inl u)))]) := by
  refine si_Mi.of (cc := zkM_flip) (maxL := 3) (by decide) rfl (Nat.le_of_ble_eq_true rfl) ?_
  intro p e s m args below meth c A Q ls hF0 hin hK hN hP hD hA hS hl hret
  obtain ⟨hx, hb, hml, hown, hts0⟩ := hF0
  have hts : ∀ w ∈ si_tbl, w.before args s = true := fun w hw => hts0 w (List.mem_cons_of_mem _ hw)
  have hF : CallFix p m c zkM_flip 3 s args si_tbl zRM := ⟨hx, hb, hml, hown, hts⟩
  have hl : lv_has ls 3 [(0, .ref y0), (1, .int q), (2, .int q2)] := hl
  refine lv_iload_n hx hb zdM_flip_0 rfl (lv_at hl 1 rfl) ?_
  refine lv_if_lt (tgt := 20) hx hb zdM_flip_1 rfl (fun h1 => ?_) (fun h1 => ?_)
  · have hdd : (si_isW q && si_isB q2) = false := by rw [si_w22_f (Or.inl h1), Bool.false_and]
    refine lv_iconst (v := nI 0) hx hb zdM_flip_20 (by decide) ?_
    exact hret (nI 0) fd _ _ _ _ (rfl) (by rw [hdd]; exact ⟨rfl, fun z => absurd z (by decide), fun _ => rfl⟩) (hP.sub [0, 1] rfl) (hD.sub [0, 1] (by decide) rfl) hS zdM_flip_21
  · refine lv_iload_n hx hb zdM_flip_4 rfl (lv_at hl 1 rfl) ?_
    refine lv_bipush (v := nI 22) hx hb zdM_flip_5 (by decide) ?_
    refine lv_icmp_gt (tgt := 20) hx hb zdM_flip_7 rfl (fun h7 => ?_) (fun h7 => ?_)
    · have hdd : (si_isW q && si_isB q2) = false := by rw [si_w22_f (Or.inr (si_gtn h7)), Bool.false_and]
      refine lv_iconst (v := nI 0) hx hb zdM_flip_20 (by decide) ?_
      exact hret (nI 0) fd _ _ _ _ (rfl) (by rw [hdd]; exact ⟨rfl, fun z => absurd z (by decide), fun _ => rfl⟩) (hP.sub [0, 1] rfl) (hD.sub [0, 1] (by decide) rfl) hS zdM_flip_21
    · obtain ⟨j, hj, rfl, hd⟩ := si_w22_t h1 (si_ngt h7)
      refine lv_iload_n hx hb zdM_flip_10 rfl (lv_at hl 2 rfl) ?_
      refine lv_if_lt (tgt := 20) hx hb zdM_flip_11 rfl (fun h11 => ?_) (fun h11 => ?_)
      · have hdd : (si_isW (nI j) && si_isB q2) = false := by rw [si_b63_f (Or.inl h11), Bool.and_false]
        refine lv_iconst (v := nI 0) hx hb zdM_flip_20 (by decide) ?_
        exact hret (nI 0) fd _ _ _ _ (rfl) (by rw [hdd]; exact ⟨rfl, fun z => absurd z (by decide), fun _ => rfl⟩) (hP.sub [0, 1] rfl) (hD.sub [0, 1] (by decide) rfl) hS zdM_flip_21
      · refine lv_iload_n hx hb zdM_flip_14 rfl (lv_at hl 2 rfl) ?_
        refine lv_bipush (v := nI 63) hx hb zdM_flip_15 (by decide) ?_
        refine lv_icmp_le (tgt := 22) hx hb zdM_flip_17 rfl (fun h17 => ?_) (fun h17 => ?_)
        · have hdd : (si_isW (nI j) && si_isB q2) = true := by rw [hd, si_b63_t h11 h17]; rfl
          refine lv_aload_n hx hb zdM_flip_22 rfl (lv_at hl 0 rfl) ?_
          refine va_get (D := g.1) (ci := 6) (v := .ref mD) (C := zRM) (T := zTM) (N := 19) hx hb hts ziM hown hK hP 0 rfl rfl 2 (by decide) (hts _ zlM_13) (fun _ h => h) rfl zdM_flip_23 ?_
          refine lv_iload_n hx hb zdM_flip_26 rfl (lv_at hl 1 rfl) ?_
          refine lv_aload_n hx hb zdM_flip_27 rfl (lv_at hl 0 rfl) ?_
          refine va_get (D := g.1) (ci := 6) (v := .ref mD) (C := zRM) (T := zTM) (N := 19) hx hb hts ziM hown hK hP 0 rfl rfl 2 (by decide) (hts _ zlM_13) (fun _ h => h) rfl zdM_flip_28 ?_
          refine lv_iload_n hx hb zdM_flip_31 rfl (lv_at hl 1 rfl) ?_
          refine si_lald (v := fd j) hx hb hK hP 1 1 rfl rfl (by decide) (by omega) (rfl) zdM_flip_32 ?_
          refine lv_lconst (v := 1) hx hb zdM_flip_33 (by decide) ?_
          refine lv_iload_n hx hb zdM_flip_34 rfl (lv_at hl 2 rfl) ?_
          refine lv_lshl (v := (1 : Int64) <<< (q2.toInt64 &&& 63)) hx hb zdM_flip_35 (rfl) ?_
          refine si_lxor (v := (fd j) ^^^ ((1 : Int64) <<< (q2.toInt64 &&& 63))) hx hb zdM_flip_36 (rfl) ?_
          refine si_last hx hb hK hP hD hS 1 1 rfl rfl (by decide) (by omega) zdM_flip_37 (fun H locs hP hD hS => ?_)
          have hP : va_P g.1 vwCl [(y0, .inr (6, [.int zs, .ref mW, .ref mD, .int zt, .int zn, .ref mT, .int ze, .ref mP, .ref mR, .int za, .ref mA, .int zm, .ref mK, .ref mO, .ref mB, .ref mI, .ref mN, .ref mH, .ref mC])), (mD, .inl (g.2.2, 23, .inr (.inl (vp_updL fd j ((fd j) ^^^ ((1 : Int64) <<< (q2.toInt64 &&& 63)))))))] H := hP
          have hD : va_D A [(y0, .inr (6, [.int zs, .ref mW, .ref mD, .int zt, .int zn, .ref mT, .int ze, .ref mP, .ref mR, .int za, .ref mA, .int zm, .ref mK, .ref mO, .ref mB, .ref mI, .ref mN, .ref mH, .ref mC])), (mD, .inl (g.2.2, 23, .inr (.inl (vp_updL fd j ((fd j) ^^^ ((1 : Int64) <<< (q2.toInt64 &&& 63)))))))] := hD
          refine lv_iconst (v := nI 1) hx hb zdM_flip_38 (by decide) ?_
          exact hret (nI 1) (vp_updL fd j (fd j ^^^ ((1 : Int64) <<< (q2.toInt64 &&& 63)))) _ _ _ _ (rfl) (by rw [hdd, nI_clamp (by omega)]; exact ⟨rfl, fun _ => rfl, fun z => absurd z (by decide)⟩) (hP.sub [0, 1] rfl) (hD.sub [0, 1] (by decide) rfl) hS zdM_flip_39
        · have hdd : (si_isW (nI j) && si_isB q2) = false := by rw [si_b63_f (Or.inr h17), Bool.and_false]
          refine lv_iconst (v := nI 0) hx hb zdM_flip_20 (by decide) ?_
          exact hret (nI 0) fd _ _ _ _ (rfl) (by rw [hdd]; exact ⟨rfl, fun z => absurd z (by decide), fun _ => rfl⟩) (hP.sub [0, 1] rfl) (hD.sub [0, 1] (by decide) rfl) hS zdM_flip_21

set_option maxHeartbeats 4000000 in
set_option maxRecDepth 100000 in
theorem cM_place_0 (l : Launch) (g : si_G) (y0 mW mD mT mP mR mA mK mO mB mI mN mH mC : Nat) (zs zn ze za zm : Int32) (q : Int32)  : si_Mi (S := Unit) l g vwCl zyM_place zwM_place ({ frames := 0, cells := 0, slots := 0, locals := 0 } : Room) [.ref y0, .int q] [(y0, .inr (6, [.int zs, .ref mW, .ref mD, .int (nI 0), .int zn, .ref mT, .int ze, .ref mP, .ref mR, .int za, .ref mA, .int zm, .ref mK, .ref mO, .ref mB, .ref mI, .ref mN, .ref mH, .ref mC]))] (fun r u => r = nI 0) (fun u => [(y0, .inr (6, [.int zs, .ref mW, .ref mD, .int (nI 0), .int zn, .ref mT, .int ze, .ref mP, .ref mR, .int za, .ref mA, .int zm, .ref mK, .ref mO, .ref mB, .ref mI, .ref mN, .ref mH, .ref mC]))]) := by
  refine si_Mi.of (cc := zkM_place) (maxL := 2) (by decide) rfl (Nat.le_of_ble_eq_true rfl) ?_
  intro p e s m args below meth c A Q ls hF0 hin hK hN hP hD hA hS hl hret
  obtain ⟨hx, hb, hml, hown, hts0⟩ := hF0
  have hts : ∀ w ∈ si_tbl, w.before args s = true := fun w hw => hts0 w (List.mem_cons_of_mem _ hw)
  have hF : CallFix p m c zkM_place 2 s args si_tbl zRM := ⟨hx, hb, hml, hown, hts⟩
  have hl : lv_has ls 2 [(0, .ref y0), (1, .int q)] := hl
  refine lv_aload_n hx hb zdM_place_0 rfl (lv_at hl 0 rfl) ?_
  refine va_get (D := g.1) (ci := 6) (v := .int (nI 0)) (C := zRM) (T := zTM) (N := 19) hx hb hts ziM hown hK hP 0 rfl rfl 3 (by decide) (hts _ zlM_86) (fun _ h => h) rfl zdM_place_1 ?_
  refine si_if_eq (tgt := 23) hx hb zdM_place_4 rfl (by decide) (fun h4 => ?_) (fun h4 => ?_)
  · refine lv_iconst (v := nI 0) hx hb zdM_place_23 (by decide) ?_
    exact hret (nI 0) () _ _ _ _ (rfl) (rfl) (hP.sub [0] rfl) (hD.sub [0] (by decide) rfl) hS zdM_place_24
  · exact absurd rfl h4

set_option maxHeartbeats 4000000 in
set_option maxRecDepth 100000 in
theorem cM_length_0 (l : Launch) (g : si_G) (y0 mW mD mT mP mR mA mK mO mB mI mN mH mC : Nat) (zs zn ze za zm : Int32)  : si_Mi (S := Unit) l g vwCl zyM_length zwM_length ({ frames := 0, cells := 0, slots := 0, locals := 0 } : Room) [.ref y0] [(y0, .inr (6, [.int zs, .ref mW, .ref mD, .int (nI 0), .int zn, .ref mT, .int ze, .ref mP, .ref mR, .int za, .ref mA, .int zm, .ref mK, .ref mO, .ref mB, .ref mI, .ref mN, .ref mH, .ref mC]))] (fun r u => r = -1) (fun u => [(y0, .inr (6, [.int zs, .ref mW, .ref mD, .int (nI 0), .int zn, .ref mT, .int ze, .ref mP, .ref mR, .int za, .ref mA, .int zm, .ref mK, .ref mO, .ref mB, .ref mI, .ref mN, .ref mH, .ref mC]))]) := by
  refine si_Mi.of (cc := zkM_length) (maxL := 1) (by decide) rfl (Nat.le_of_ble_eq_true rfl) ?_
  intro p e s m args below meth c A Q ls hF0 hin hK hN hP hD hA hS hl hret
  obtain ⟨hx, hb, hml, hown, hts0⟩ := hF0
  have hts : ∀ w ∈ si_tbl, w.before args s = true := fun w hw => hts0 w (List.mem_cons_of_mem _ hw)
  have hF : CallFix p m c zkM_length 1 s args si_tbl zRM := ⟨hx, hb, hml, hown, hts⟩
  have hl : lv_has ls 1 [(0, .ref y0)] := hl
  refine lv_aload_n hx hb zdM_length_0 rfl (lv_at hl 0 rfl) ?_
  refine va_get (D := g.1) (ci := 6) (v := .int (nI 0)) (C := zRM) (T := zTM) (N := 19) hx hb hts ziM hown hK hP 0 rfl rfl 3 (by decide) (hts _ zlM_86) (fun _ h => h) rfl zdM_length_1 ?_
  refine si_if_eq (tgt := 14) hx hb zdM_length_4 rfl (by decide) (fun h4 => ?_) (fun h4 => ?_)
  · refine lv_iconst (v := -1) hx hb zdM_length_14 (by decide) ?_
    exact hret (-1) () _ _ _ _ (rfl) (rfl) (hP.sub [0] rfl) (hD.sub [0] (by decide) rfl) hS zdM_length_15
  · exact absurd rfl h4

set_option maxHeartbeats 4000000 in
set_option maxRecDepth 100000 in
theorem cM_rate_0 (l : Launch) (g : si_G) (y0 mW mD mT mP mR mA mK mO mB mI mN mH mC : Nat) (zs zn ze za zm : Int32)  : si_Mi (S := Unit) l g vwCl zyM_rate zwM_rate ({ frames := 0, cells := 0, slots := 0, locals := 0 } : Room) [.ref y0] [(y0, .inr (6, [.int zs, .ref mW, .ref mD, .int (nI 0), .int zn, .ref mT, .int ze, .ref mP, .ref mR, .int za, .ref mA, .int zm, .ref mK, .ref mO, .ref mB, .ref mI, .ref mN, .ref mH, .ref mC]))] (fun r u => r = -1) (fun u => [(y0, .inr (6, [.int zs, .ref mW, .ref mD, .int (nI 0), .int zn, .ref mT, .int ze, .ref mP, .ref mR, .int za, .ref mA, .int zm, .ref mK, .ref mO, .ref mB, .ref mI, .ref mN, .ref mH, .ref mC]))]) := by
  refine si_Mi.of (cc := zkM_rate) (maxL := 1) (by decide) rfl (Nat.le_of_ble_eq_true rfl) ?_
  intro p e s m args below meth c A Q ls hF0 hin hK hN hP hD hA hS hl hret
  obtain ⟨hx, hb, hml, hown, hts0⟩ := hF0
  have hts : ∀ w ∈ si_tbl, w.before args s = true := fun w hw => hts0 w (List.mem_cons_of_mem _ hw)
  have hF : CallFix p m c zkM_rate 1 s args si_tbl zRM := ⟨hx, hb, hml, hown, hts⟩
  have hl : lv_has ls 1 [(0, .ref y0)] := hl
  refine lv_aload_n hx hb zdM_rate_0 rfl (lv_at hl 0 rfl) ?_
  refine va_get (D := g.1) (ci := 6) (v := .int (nI 0)) (C := zRM) (T := zTM) (N := 19) hx hb hts ziM hown hK hP 0 rfl rfl 3 (by decide) (hts _ zlM_86) (fun _ h => h) rfl zdM_rate_1 ?_
  refine si_if_eq (tgt := 14) hx hb zdM_rate_4 rfl (by decide) (fun h4 => ?_) (fun h4 => ?_)
  · refine lv_iconst (v := -1) hx hb zdM_rate_14 (by decide) ?_
    exact hret (-1) () _ _ _ _ (rfl) (rfl) (hP.sub [0] rfl) (hD.sub [0] (by decide) rfl) hS zdM_rate_15
  · exact absurd rfl h4

set_option maxHeartbeats 4000000 in
set_option maxRecDepth 100000 in
theorem cM_charAt_0 (l : Launch) (g : si_G) (y0 mW mD mT mP mR mA mK mO mB mI mN mH mC : Nat) (zs zn ze za zm : Int32) (q : Int32)  : si_Mi (S := Unit) l g vwCl zyM_charAt zwM_charAt ({ frames := 1, cells := 0, slots := 0, locals := 21 } : Room) [.ref y0, .int q] [(y0, .inr (6, [.int zs, .ref mW, .ref mD, .int (nI 0), .int zn, .ref mT, .int ze, .ref mP, .ref mR, .int za, .ref mA, .int zm, .ref mK, .ref mO, .ref mB, .ref mI, .ref mN, .ref mH, .ref mC]))] (fun r u => r = -1) (fun u => [(y0, .inr (6, [.int zs, .ref mW, .ref mD, .int (nI 0), .int zn, .ref mT, .int ze, .ref mP, .ref mR, .int za, .ref mA, .int zm, .ref mK, .ref mO, .ref mB, .ref mI, .ref mN, .ref mH, .ref mC]))]) := by
  refine si_Mi.of (cc := zkM_charAt) (maxL := 2) (by decide) rfl (Nat.le_of_ble_eq_true rfl) ?_
  intro p e s m args below meth c A Q ls hF0 hin hK hN hP hD hA hS hl hret
  obtain ⟨hx, hb, hml, hown, hts0⟩ := hF0
  have hts : ∀ w ∈ si_tbl, w.before args s = true := fun w hw => hts0 w (List.mem_cons_of_mem _ hw)
  have hF : CallFix p m c zkM_charAt 2 s args si_tbl zRM := ⟨hx, hb, hml, hown, hts⟩
  have hl : lv_has ls 2 [(0, .ref y0), (1, .int q)] := hl
  refine lv_aload_n hx hb zdM_charAt_0 rfl (lv_at hl 0 rfl) ?_
  refine lv_iload_n hx hb zdM_charAt_1 rfl (lv_at hl 1 rfl) ?_
  refine (cM_place_0 l g y0 mW mD mT mP mR mA mK mO mB mI mN mH mC zs zn ze za zm q).callV (wr := []) (As := [.int q]) (rest := []) hF (si_cV 1 hts zcM_place zlM_96 zimM_place zseM_place ziniM zhM_place ⟨Nat.le_of_ble_eq_true rfl, Nat.le_of_ble_eq_true rfl⟩) hK hN hP hD hS hA [0] [] rfl rfl (by decide) (by decide) (va_recv (q := (zRM, zTM, 19)) hK hP (ci := 6) (q0 := 0) rfl rfl) rfl hl.1 rfl (Nat.le_of_ble_eq_true rfl) zdM_charAt_2 ⟨Nat.le_of_ble_eq_true rfl, Nat.le_of_ble_eq_true rfl⟩ rfl rfl (fun r_ _u H locs hq hP hD hS => ?_)
  subst hq
  have hP : va_P g.1 vwCl [(y0, .inr (6, [.int zs, .ref mW, .ref mD, .int (nI 0), .int zn, .ref mT, .int ze, .ref mP, .ref mR, .int za, .ref mA, .int zm, .ref mK, .ref mO, .ref mB, .ref mI, .ref mN, .ref mH, .ref mC]))] H := hP
  have hD : va_D A [(y0, .inr (6, [.int zs, .ref mW, .ref mD, .int (nI 0), .int zn, .ref mT, .int ze, .ref mP, .ref mR, .int za, .ref mA, .int zm, .ref mK, .ref mO, .ref mB, .ref mI, .ref mN, .ref mH, .ref mC]))] := hD
  refine si_if_eq (tgt := 17) hx hb zdM_charAt_5 rfl (by decide) (fun h5 => ?_) (fun h5 => ?_)
  · refine lv_iconst (v := -1) hx hb zdM_charAt_17 (by decide) ?_
    exact hret (-1) () _ _ _ _ (rfl) (rfl) (hP.sub [0] rfl) (hD.sub [0] (by decide) rfl) hS zdM_charAt_18
  · exact absurd rfl h5

set_option maxHeartbeats 4000000 in
set_option maxRecDepth 100000 in
theorem cM_rowOf_0 (l : Launch) (g : si_G) (y0 mW mD mT mP mR mA mK mO mB mI mN mH mC : Nat) (zs zn ze za zm : Int32) (q : Int32)  : si_Mi (S := Unit) l g vwCl zyM_rowOf zwM_rowOf ({ frames := 1, cells := 0, slots := 0, locals := 21 } : Room) [.ref y0, .int q] [(y0, .inr (6, [.int zs, .ref mW, .ref mD, .int (nI 0), .int zn, .ref mT, .int ze, .ref mP, .ref mR, .int za, .ref mA, .int zm, .ref mK, .ref mO, .ref mB, .ref mI, .ref mN, .ref mH, .ref mC]))] (fun r u => r = -1) (fun u => [(y0, .inr (6, [.int zs, .ref mW, .ref mD, .int (nI 0), .int zn, .ref mT, .int ze, .ref mP, .ref mR, .int za, .ref mA, .int zm, .ref mK, .ref mO, .ref mB, .ref mI, .ref mN, .ref mH, .ref mC]))]) := by
  refine si_Mi.of (cc := zkM_rowOf) (maxL := 2) (by decide) rfl (Nat.le_of_ble_eq_true rfl) ?_
  intro p e s m args below meth c A Q ls hF0 hin hK hN hP hD hA hS hl hret
  obtain ⟨hx, hb, hml, hown, hts0⟩ := hF0
  have hts : ∀ w ∈ si_tbl, w.before args s = true := fun w hw => hts0 w (List.mem_cons_of_mem _ hw)
  have hF : CallFix p m c zkM_rowOf 2 s args si_tbl zRM := ⟨hx, hb, hml, hown, hts⟩
  have hl : lv_has ls 2 [(0, .ref y0), (1, .int q)] := hl
  refine lv_aload_n hx hb zdM_rowOf_0 rfl (lv_at hl 0 rfl) ?_
  refine lv_iload_n hx hb zdM_rowOf_1 rfl (lv_at hl 1 rfl) ?_
  refine (cM_place_0 l g y0 mW mD mT mP mR mA mK mO mB mI mN mH mC zs zn ze za zm q).callV (wr := []) (As := [.int q]) (rest := []) hF (si_cV 1 hts zcM_place zlM_96 zimM_place zseM_place ziniM zhM_place ⟨Nat.le_of_ble_eq_true rfl, Nat.le_of_ble_eq_true rfl⟩) hK hN hP hD hS hA [0] [] rfl rfl (by decide) (by decide) (va_recv (q := (zRM, zTM, 19)) hK hP (ci := 6) (q0 := 0) rfl rfl) rfl hl.1 rfl (Nat.le_of_ble_eq_true rfl) zdM_rowOf_2 ⟨Nat.le_of_ble_eq_true rfl, Nat.le_of_ble_eq_true rfl⟩ rfl rfl (fun r_ _u H locs hq hP hD hS => ?_)
  subst hq
  have hP : va_P g.1 vwCl [(y0, .inr (6, [.int zs, .ref mW, .ref mD, .int (nI 0), .int zn, .ref mT, .int ze, .ref mP, .ref mR, .int za, .ref mA, .int zm, .ref mK, .ref mO, .ref mB, .ref mI, .ref mN, .ref mH, .ref mC]))] H := hP
  have hD : va_D A [(y0, .inr (6, [.int zs, .ref mW, .ref mD, .int (nI 0), .int zn, .ref mT, .int ze, .ref mP, .ref mR, .int za, .ref mA, .int zm, .ref mK, .ref mO, .ref mB, .ref mI, .ref mN, .ref mH, .ref mC]))] := hD
  refine si_if_eq (tgt := 17) hx hb zdM_rowOf_5 rfl (by decide) (fun h5 => ?_) (fun h5 => ?_)
  · refine lv_iconst (v := -1) hx hb zdM_rowOf_17 (by decide) ?_
    exact hret (-1) () _ _ _ _ (rfl) (rfl) (hP.sub [0] rfl) (hD.sub [0] (by decide) rfl) hS zdM_rowOf_18
  · exact absurd rfl h5

set_option maxHeartbeats 4000000 in
set_option maxRecDepth 100000 in
theorem cM_placeOf_0 (l : Launch) (g : si_G) (y0 mW mD mT mP mR mA mK mO mB mI mN mH mC : Nat) (zs zn ze za zm : Int32) (q : Int32)  : si_Mi (S := Unit) l g vwCl zyM_placeOf zwM_placeOf ({ frames := 1, cells := 0, slots := 0, locals := 21 } : Room) [.ref y0, .int q] [(y0, .inr (6, [.int zs, .ref mW, .ref mD, .int (nI 0), .int zn, .ref mT, .int ze, .ref mP, .ref mR, .int za, .ref mA, .int zm, .ref mK, .ref mO, .ref mB, .ref mI, .ref mN, .ref mH, .ref mC]))] (fun r u => r = -1) (fun u => [(y0, .inr (6, [.int zs, .ref mW, .ref mD, .int (nI 0), .int zn, .ref mT, .int ze, .ref mP, .ref mR, .int za, .ref mA, .int zm, .ref mK, .ref mO, .ref mB, .ref mI, .ref mN, .ref mH, .ref mC]))]) := by
  refine si_Mi.of (cc := zkM_placeOf) (maxL := 2) (by decide) rfl (Nat.le_of_ble_eq_true rfl) ?_
  intro p e s m args below meth c A Q ls hF0 hin hK hN hP hD hA hS hl hret
  obtain ⟨hx, hb, hml, hown, hts0⟩ := hF0
  have hts : ∀ w ∈ si_tbl, w.before args s = true := fun w hw => hts0 w (List.mem_cons_of_mem _ hw)
  have hF : CallFix p m c zkM_placeOf 2 s args si_tbl zRM := ⟨hx, hb, hml, hown, hts⟩
  have hl : lv_has ls 2 [(0, .ref y0), (1, .int q)] := hl
  refine lv_aload_n hx hb zdM_placeOf_0 rfl (lv_at hl 0 rfl) ?_
  refine lv_iload_n hx hb zdM_placeOf_1 rfl (lv_at hl 1 rfl) ?_
  refine (cM_place_0 l g y0 mW mD mT mP mR mA mK mO mB mI mN mH mC zs zn ze za zm q).callV (wr := []) (As := [.int q]) (rest := []) hF (si_cV 1 hts zcM_place zlM_96 zimM_place zseM_place ziniM zhM_place ⟨Nat.le_of_ble_eq_true rfl, Nat.le_of_ble_eq_true rfl⟩) hK hN hP hD hS hA [0] [] rfl rfl (by decide) (by decide) (va_recv (q := (zRM, zTM, 19)) hK hP (ci := 6) (q0 := 0) rfl rfl) rfl hl.1 rfl (Nat.le_of_ble_eq_true rfl) zdM_placeOf_2 ⟨Nat.le_of_ble_eq_true rfl, Nat.le_of_ble_eq_true rfl⟩ rfl rfl (fun r_ _u H locs hq hP hD hS => ?_)
  subst hq
  have hP : va_P g.1 vwCl [(y0, .inr (6, [.int zs, .ref mW, .ref mD, .int (nI 0), .int zn, .ref mT, .int ze, .ref mP, .ref mR, .int za, .ref mA, .int zm, .ref mK, .ref mO, .ref mB, .ref mI, .ref mN, .ref mH, .ref mC]))] H := hP
  have hD : va_D A [(y0, .inr (6, [.int zs, .ref mW, .ref mD, .int (nI 0), .int zn, .ref mT, .int ze, .ref mP, .ref mR, .int za, .ref mA, .int zm, .ref mK, .ref mO, .ref mB, .ref mI, .ref mN, .ref mH, .ref mC]))] := hD
  refine si_if_eq (tgt := 17) hx hb zdM_placeOf_5 rfl (by decide) (fun h5 => ?_) (fun h5 => ?_)
  · refine lv_iconst (v := -1) hx hb zdM_placeOf_17 (by decide) ?_
    exact hret (-1) () _ _ _ _ (rfl) (rfl) (hP.sub [0] rfl) (hD.sub [0] (by decide) rfl) hS zdM_placeOf_18
  · exact absurd rfl h5

set_option maxHeartbeats 4000000 in
set_option maxRecDepth 100000 in
theorem cM_length_1 (l : Launch) (g : si_G) (y0 mW mD mT mP mR mA mK mO mB mI mN mH mC : Nat) (zs ze za zm : Int32) (t : List Nat)  : si_Mi (S := Unit) l g vwCl zyM_length zwM_length ({ frames := 0, cells := 0, slots := 0, locals := 0 } : Room) [.ref y0] [(y0, .inr (6, [.int zs, .ref mW, .ref mD, .int (nI 1), .int (nI t.length), .ref mT, .int ze, .ref mP, .ref mR, .int za, .ref mA, .int zm, .ref mK, .ref mO, .ref mB, .ref mI, .ref mN, .ref mH, .ref mC]))] (fun r u => r = nI t.length) (fun u => [(y0, .inr (6, [.int zs, .ref mW, .ref mD, .int (nI 1), .int (nI t.length), .ref mT, .int ze, .ref mP, .ref mR, .int za, .ref mA, .int zm, .ref mK, .ref mO, .ref mB, .ref mI, .ref mN, .ref mH, .ref mC]))]) := by
  refine si_Mi.of (cc := zkM_length) (maxL := 1) (by decide) rfl (Nat.le_of_ble_eq_true rfl) ?_
  intro p e s m args below meth c A Q ls hF0 hin hK hN hP hD hA hS hl hret
  obtain ⟨hx, hb, hml, hown, hts0⟩ := hF0
  have hts : ∀ w ∈ si_tbl, w.before args s = true := fun w hw => hts0 w (List.mem_cons_of_mem _ hw)
  have hF : CallFix p m c zkM_length 1 s args si_tbl zRM := ⟨hx, hb, hml, hown, hts⟩
  have hl : lv_has ls 1 [(0, .ref y0)] := hl
  refine lv_aload_n hx hb zdM_length_0 rfl (lv_at hl 0 rfl) ?_
  refine va_get (D := g.1) (ci := 6) (v := .int (nI 1)) (C := zRM) (T := zTM) (N := 19) hx hb hts ziM hown hK hP 0 rfl rfl 3 (by decide) (hts _ zlM_86) (fun _ h => h) rfl zdM_length_1 ?_
  refine si_if_eq (tgt := 14) hx hb zdM_length_4 rfl (by decide) (fun h4 => ?_) (fun h4 => ?_)
  · exact absurd h4 (by decide)
  · refine lv_aload_n hx hb zdM_length_7 rfl (lv_at hl 0 rfl) ?_
    refine va_get (D := g.1) (ci := 6) (v := .int (nI t.length)) (C := zRM) (T := zTM) (N := 19) hx hb hts ziM hown hK hP 0 rfl rfl 4 (by decide) (hts _ zlM_90) (fun _ h => h) rfl zdM_length_8 ?_
    refine lv_goto (tgt := 15) hx hb zdM_length_11 rfl ?_
    exact hret (nI t.length) () _ _ _ _ (rfl) (rfl) (hP.sub [0] rfl) (hD.sub [0] (by decide) rfl) hS zdM_length_15

set_option maxHeartbeats 4000000 in
set_option maxRecDepth 100000 in
theorem cM_rate_1 (l : Launch) (g : si_G) (y0 mW mD mT mP mR mA mK mO mB mI mN mH mC : Nat) (zs ze za zm : Int32) (t : List Nat)  : si_Mi (S := Unit) l g vwCl zyM_rate zwM_rate ({ frames := 0, cells := 0, slots := 0, locals := 0 } : Room) [.ref y0] [(y0, .inr (6, [.int zs, .ref mW, .ref mD, .int (nI 1), .int (nI t.length), .ref mT, .int ze, .ref mP, .ref mR, .int za, .ref mA, .int zm, .ref mK, .ref mO, .ref mB, .ref mI, .ref mN, .ref mH, .ref mC]))] (fun r u => r = ze) (fun u => [(y0, .inr (6, [.int zs, .ref mW, .ref mD, .int (nI 1), .int (nI t.length), .ref mT, .int ze, .ref mP, .ref mR, .int za, .ref mA, .int zm, .ref mK, .ref mO, .ref mB, .ref mI, .ref mN, .ref mH, .ref mC]))]) := by
  refine si_Mi.of (cc := zkM_rate) (maxL := 1) (by decide) rfl (Nat.le_of_ble_eq_true rfl) ?_
  intro p e s m args below meth c A Q ls hF0 hin hK hN hP hD hA hS hl hret
  obtain ⟨hx, hb, hml, hown, hts0⟩ := hF0
  have hts : ∀ w ∈ si_tbl, w.before args s = true := fun w hw => hts0 w (List.mem_cons_of_mem _ hw)
  have hF : CallFix p m c zkM_rate 1 s args si_tbl zRM := ⟨hx, hb, hml, hown, hts⟩
  have hl : lv_has ls 1 [(0, .ref y0)] := hl
  refine lv_aload_n hx hb zdM_rate_0 rfl (lv_at hl 0 rfl) ?_
  refine va_get (D := g.1) (ci := 6) (v := .int (nI 1)) (C := zRM) (T := zTM) (N := 19) hx hb hts ziM hown hK hP 0 rfl rfl 3 (by decide) (hts _ zlM_86) (fun _ h => h) rfl zdM_rate_1 ?_
  refine si_if_eq (tgt := 14) hx hb zdM_rate_4 rfl (by decide) (fun h4 => ?_) (fun h4 => ?_)
  · exact absurd h4 (by decide)
  · refine lv_aload_n hx hb zdM_rate_7 rfl (lv_at hl 0 rfl) ?_
    refine va_get (D := g.1) (ci := 6) (v := .int ze) (C := zRM) (T := zTM) (N := 19) hx hb hts ziM hown hK hP 0 rfl rfl 6 (by decide) (hts _ zlM_93) (fun _ h => h) rfl zdM_rate_8 ?_
    refine lv_goto (tgt := 15) hx hb zdM_rate_11 rfl ?_
    exact hret ze () _ _ _ _ (rfl) (rfl) (hP.sub [0] rfl) (hD.sub [0] (by decide) rfl) hS zdM_rate_15

set_option maxHeartbeats 4000000 in
set_option maxRecDepth 100000 in
theorem cM_place_1 (l : Launch) (g : si_G) (y0 mW mD mT mP mR mA mK mO mB mI mN mH mC : Nat) (zs ze za zm : Int32) (t : List Nat) (q : Int32) (hn : t.length ≤ 60) : si_Mi (S := Unit) l g vwCl zyM_place zwM_place ({ frames := 0, cells := 0, slots := 0, locals := 0 } : Room) [.ref y0, .int q] [(y0, .inr (6, [.int zs, .ref mW, .ref mD, .int (nI 1), .int (nI t.length), .ref mT, .int ze, .ref mP, .ref mR, .int za, .ref mA, .int zm, .ref mK, .ref mO, .ref mB, .ref mI, .ref mN, .ref mH, .ref mC]))] (fun r u => r = nI (si_inP t.length q).toNat) (fun u => [(y0, .inr (6, [.int zs, .ref mW, .ref mD, .int (nI 1), .int (nI t.length), .ref mT, .int ze, .ref mP, .ref mR, .int za, .ref mA, .int zm, .ref mK, .ref mO, .ref mB, .ref mI, .ref mN, .ref mH, .ref mC]))]) := by
  refine si_Mi.of (cc := zkM_place) (maxL := 2) (by decide) rfl (Nat.le_of_ble_eq_true rfl) ?_
  intro p e s m args below meth c A Q ls hF0 hin hK hN hP hD hA hS hl hret
  obtain ⟨hx, hb, hml, hown, hts0⟩ := hF0
  have hts : ∀ w ∈ si_tbl, w.before args s = true := fun w hw => hts0 w (List.mem_cons_of_mem _ hw)
  have hF : CallFix p m c zkM_place 2 s args si_tbl zRM := ⟨hx, hb, hml, hown, hts⟩
  have hl : lv_has ls 2 [(0, .ref y0), (1, .int q)] := hl
  refine lv_aload_n hx hb zdM_place_0 rfl (lv_at hl 0 rfl) ?_
  refine va_get (D := g.1) (ci := 6) (v := .int (nI 1)) (C := zRM) (T := zTM) (N := 19) hx hb hts ziM hown hK hP 0 rfl rfl 3 (by decide) (hts _ zlM_86) (fun _ h => h) rfl zdM_place_1 ?_
  refine si_if_eq (tgt := 23) hx hb zdM_place_4 rfl (by decide) (fun h4 => ?_) (fun h4 => ?_)
  · exact absurd h4 (by decide)
  · refine lv_iload_n hx hb zdM_place_7 rfl (lv_at hl 1 rfl) ?_
    refine lv_if_lt (tgt := 23) hx hb zdM_place_8 rfl (fun h8 => ?_) (fun h8 => ?_)
    · have hd : si_inP t.length q = false := decide_eq_false (fun z => z.1 h8)
      refine lv_iconst (v := nI 0) hx hb zdM_place_23 (by decide) ?_
      exact hret (nI 0) () _ _ _ _ (rfl) (by rw [hd]; rfl) (hP.sub [0] rfl) (hD.sub [0] (by decide) rfl) hS zdM_place_24
    · refine lv_iload_n hx hb zdM_place_11 rfl (lv_at hl 1 rfl) ?_
      refine lv_aload_n hx hb zdM_place_12 rfl (lv_at hl 0 rfl) ?_
      refine va_get (D := g.1) (ci := 6) (v := .int (nI t.length)) (C := zRM) (T := zTM) (N := 19) hx hb hts ziM hown hK hP 0 rfl rfl 4 (by decide) (hts _ zlM_90) (fun _ h => h) rfl zdM_place_13 ?_
      refine lv_icmp_gt (tgt := 23) hx hb zdM_place_16 rfl (fun h16 => ?_) (fun h16 => ?_)
      · have hd : si_inP t.length q = false := decide_eq_false (fun z => z.2 h16)
        refine lv_iconst (v := nI 0) hx hb zdM_place_23 (by decide) ?_
        exact hret (nI 0) () _ _ _ _ (rfl) (by rw [hd]; rfl) (hP.sub [0] rfl) (hD.sub [0] (by decide) rfl) hS zdM_place_24
      · have hd : si_inP t.length q = true := decide_eq_true ⟨h8, h16⟩
        refine lv_iconst (v := nI 1) hx hb zdM_place_19 (by decide) ?_
        refine lv_goto (tgt := 24) hx hb zdM_place_20 rfl ?_
        exact hret (nI 1) () _ _ _ _ (rfl) (by rw [hd]; rfl) (hP.sub [0] rfl) (hD.sub [0] (by decide) rfl) hS zdM_place_24

set_option maxHeartbeats 4000000 in
set_option maxRecDepth 100000 in
theorem cM_charAt_1 (l : Launch) (g : si_G) (y0 mW mD mT mP mR mA mK mO mB mI mN mH mC : Nat) (zs ze za zm : Int32) (t : List Nat) (ft : Nat → Int32) (q : Int32) (hn : t.length ≤ 60) (hft : ∀ x, x < t.length + 1 → ft x = nI (si_g t x)) : si_Mi (S := Unit) l g vwCl zyM_charAt zwM_charAt ({ frames := 1, cells := 0, slots := 0, locals := 21 } : Room) [.ref y0, .int q] [(y0, .inr (6, [.int zs, .ref mW, .ref mD, .int (nI 1), .int (nI t.length), .ref mT, .int ze, .ref mP, .ref mR, .int za, .ref mA, .int zm, .ref mK, .ref mO, .ref mB, .ref mI, .ref mN, .ref mH, .ref mC])), (mT, .inl (g.2.1, 61, .inl ft))] (fun r u => r = si_q t.length q (fun j => nI (si_g t j))) (fun u => [(y0, .inr (6, [.int zs, .ref mW, .ref mD, .int (nI 1), .int (nI t.length), .ref mT, .int ze, .ref mP, .ref mR, .int za, .ref mA, .int zm, .ref mK, .ref mO, .ref mB, .ref mI, .ref mN, .ref mH, .ref mC])), (mT, .inl (g.2.1, 61, .inl ft))]) := by
  refine si_Mi.of (cc := zkM_charAt) (maxL := 2) (by decide) rfl (Nat.le_of_ble_eq_true rfl) ?_
  intro p e s m args below meth c A Q ls hF0 hin hK hN hP hD hA hS hl hret
  obtain ⟨hx, hb, hml, hown, hts0⟩ := hF0
  have hts : ∀ w ∈ si_tbl, w.before args s = true := fun w hw => hts0 w (List.mem_cons_of_mem _ hw)
  have hF : CallFix p m c zkM_charAt 2 s args si_tbl zRM := ⟨hx, hb, hml, hown, hts⟩
  have hl : lv_has ls 2 [(0, .ref y0), (1, .int q)] := hl
  refine lv_aload_n hx hb zdM_charAt_0 rfl (lv_at hl 0 rfl) ?_
  refine lv_iload_n hx hb zdM_charAt_1 rfl (lv_at hl 1 rfl) ?_
  refine (cM_place_1 l g y0 mW mD mT mP mR mA mK mO mB mI mN mH mC zs ze za zm t q hn).callV (wr := [(mT, .inl (g.2.1, 61, .inl ft))]) (As := [.int q]) (rest := []) hF (si_cV 1 hts zcM_place zlM_96 zimM_place zseM_place ziniM zhM_place ⟨Nat.le_of_ble_eq_true rfl, Nat.le_of_ble_eq_true rfl⟩) hK hN hP hD hS hA [0] [1] rfl rfl (by decide) (by decide) (va_recv (q := (zRM, zTM, 19)) hK hP (ci := 6) (q0 := 0) rfl rfl) rfl hl.1 rfl (Nat.le_of_ble_eq_true rfl) zdM_charAt_2 ⟨Nat.le_of_ble_eq_true rfl, Nat.le_of_ble_eq_true rfl⟩ rfl rfl (fun r_ _u H locs hq hP hD hS => ?_)
  subst hq
  have hP : va_P g.1 vwCl [(mT, .inl (g.2.1, 61, .inl ft)), (y0, .inr (6, [.int zs, .ref mW, .ref mD, .int (nI 1), .int (nI t.length), .ref mT, .int ze, .ref mP, .ref mR, .int za, .ref mA, .int zm, .ref mK, .ref mO, .ref mB, .ref mI, .ref mN, .ref mH, .ref mC]))] H := hP
  have hD : va_D A [(mT, .inl (g.2.1, 61, .inl ft)), (y0, .inr (6, [.int zs, .ref mW, .ref mD, .int (nI 1), .int (nI t.length), .ref mT, .int ze, .ref mP, .ref mR, .int za, .ref mA, .int zm, .ref mK, .ref mO, .ref mB, .ref mI, .ref mN, .ref mH, .ref mC]))] := hD
  refine si_if_eq (tgt := 17) hx hb zdM_charAt_5 rfl (si_bn _) (fun h5 => ?_) (fun h5 => ?_)
  · have hd := si_b0 h5
    refine lv_iconst (v := -1) hx hb zdM_charAt_17 (by decide) ?_
    exact hret (-1) () _ _ _ _ (rfl) ((si_q_f hd).symm) (hP.sub [1, 0] rfl) (hD.sub [1, 0] (by decide) rfl) hS zdM_charAt_18
  · have hd := si_b1 h5
    obtain ⟨j, hj, rfl⟩ := si_inP_t hd
    refine lv_aload_n hx hb zdM_charAt_8 rfl (lv_at hl 0 rfl) ?_
    refine va_get (D := g.1) (ci := 6) (v := .ref mT) (C := zRM) (T := zTM) (N := 19) hx hb hts ziM hown hK hP 1 rfl rfl 5 (by decide) (hts _ zlM_17) (fun _ h => h) rfl zdM_charAt_9 ?_
    refine lv_iload_n hx hb zdM_charAt_12 rfl (lv_at hl 1 rfl) ?_
    refine si_iald (v := nI (si_g t j)) hx hb hK hP 0 0 rfl rfl (by decide) (by omega) (hft j (by omega)) zdM_charAt_13 ?_
    refine lv_goto (tgt := 18) hx hb zdM_charAt_14 rfl ?_
    exact hret (nI (si_g t j)) () _ _ _ _ (rfl) ((si_q_t (F := fun j => nI (si_g t j)) hd (by omega)).symm) (hP.sub [1, 0] rfl) (hD.sub [1, 0] (by decide) rfl) hS zdM_charAt_18

set_option maxHeartbeats 4000000 in
set_option maxRecDepth 100000 in
theorem cM_rowOf_1 (l : Launch) (g : si_G) (y0 mW mD mT mP mR mA mK mO mB mI mN mH mC : Nat) (zs ze za zm : Int32) (t : List Nat) (ft : Nat → Int32) (q : Int32) (hn : t.length ≤ 60) (hft : ∀ x, x < t.length + 1 → ft x = nI (si_rk t x)) : si_Mi (S := Unit) l g vwCl zyM_rowOf zwM_rowOf ({ frames := 1, cells := 0, slots := 0, locals := 21 } : Room) [.ref y0, .int q] [(y0, .inr (6, [.int zs, .ref mW, .ref mD, .int (nI 1), .int (nI t.length), .ref mT, .int ze, .ref mP, .ref mR, .int za, .ref mA, .int zm, .ref mK, .ref mO, .ref mB, .ref mI, .ref mN, .ref mH, .ref mC])), (mR, .inl (g.2.1, 61, .inl ft))] (fun r u => r = si_q t.length q (fun j => nI (si_rk t j))) (fun u => [(y0, .inr (6, [.int zs, .ref mW, .ref mD, .int (nI 1), .int (nI t.length), .ref mT, .int ze, .ref mP, .ref mR, .int za, .ref mA, .int zm, .ref mK, .ref mO, .ref mB, .ref mI, .ref mN, .ref mH, .ref mC])), (mR, .inl (g.2.1, 61, .inl ft))]) := by
  refine si_Mi.of (cc := zkM_rowOf) (maxL := 2) (by decide) rfl (Nat.le_of_ble_eq_true rfl) ?_
  intro p e s m args below meth c A Q ls hF0 hin hK hN hP hD hA hS hl hret
  obtain ⟨hx, hb, hml, hown, hts0⟩ := hF0
  have hts : ∀ w ∈ si_tbl, w.before args s = true := fun w hw => hts0 w (List.mem_cons_of_mem _ hw)
  have hF : CallFix p m c zkM_rowOf 2 s args si_tbl zRM := ⟨hx, hb, hml, hown, hts⟩
  have hl : lv_has ls 2 [(0, .ref y0), (1, .int q)] := hl
  refine lv_aload_n hx hb zdM_rowOf_0 rfl (lv_at hl 0 rfl) ?_
  refine lv_iload_n hx hb zdM_rowOf_1 rfl (lv_at hl 1 rfl) ?_
  refine (cM_place_1 l g y0 mW mD mT mP mR mA mK mO mB mI mN mH mC zs ze za zm t q hn).callV (wr := [(mR, .inl (g.2.1, 61, .inl ft))]) (As := [.int q]) (rest := []) hF (si_cV 1 hts zcM_place zlM_96 zimM_place zseM_place ziniM zhM_place ⟨Nat.le_of_ble_eq_true rfl, Nat.le_of_ble_eq_true rfl⟩) hK hN hP hD hS hA [0] [1] rfl rfl (by decide) (by decide) (va_recv (q := (zRM, zTM, 19)) hK hP (ci := 6) (q0 := 0) rfl rfl) rfl hl.1 rfl (Nat.le_of_ble_eq_true rfl) zdM_rowOf_2 ⟨Nat.le_of_ble_eq_true rfl, Nat.le_of_ble_eq_true rfl⟩ rfl rfl (fun r_ _u H locs hq hP hD hS => ?_)
  subst hq
  have hP : va_P g.1 vwCl [(mR, .inl (g.2.1, 61, .inl ft)), (y0, .inr (6, [.int zs, .ref mW, .ref mD, .int (nI 1), .int (nI t.length), .ref mT, .int ze, .ref mP, .ref mR, .int za, .ref mA, .int zm, .ref mK, .ref mO, .ref mB, .ref mI, .ref mN, .ref mH, .ref mC]))] H := hP
  have hD : va_D A [(mR, .inl (g.2.1, 61, .inl ft)), (y0, .inr (6, [.int zs, .ref mW, .ref mD, .int (nI 1), .int (nI t.length), .ref mT, .int ze, .ref mP, .ref mR, .int za, .ref mA, .int zm, .ref mK, .ref mO, .ref mB, .ref mI, .ref mN, .ref mH, .ref mC]))] := hD
  refine si_if_eq (tgt := 17) hx hb zdM_rowOf_5 rfl (si_bn _) (fun h5 => ?_) (fun h5 => ?_)
  · have hd := si_b0 h5
    refine lv_iconst (v := -1) hx hb zdM_rowOf_17 (by decide) ?_
    exact hret (-1) () _ _ _ _ (rfl) ((si_q_f hd).symm) (hP.sub [1, 0] rfl) (hD.sub [1, 0] (by decide) rfl) hS zdM_rowOf_18
  · have hd := si_b1 h5
    obtain ⟨j, hj, rfl⟩ := si_inP_t hd
    refine lv_aload_n hx hb zdM_rowOf_8 rfl (lv_at hl 0 rfl) ?_
    refine va_get (D := g.1) (ci := 6) (v := .ref mR) (C := zRM) (T := zTM) (N := 19) hx hb hts ziM hown hK hP 1 rfl rfl 8 (by decide) (hts _ zlM_23) (fun _ h => h) rfl zdM_rowOf_9 ?_
    refine lv_iload_n hx hb zdM_rowOf_12 rfl (lv_at hl 1 rfl) ?_
    refine si_iald (v := nI (si_rk t j)) hx hb hK hP 0 0 rfl rfl (by decide) (by omega) (hft j (by omega)) zdM_rowOf_13 ?_
    refine lv_goto (tgt := 18) hx hb zdM_rowOf_14 rfl ?_
    exact hret (nI (si_rk t j)) () _ _ _ _ (rfl) ((si_q_t (F := fun j => nI (si_rk t j)) hd (by omega)).symm) (hP.sub [1, 0] rfl) (hD.sub [1, 0] (by decide) rfl) hS zdM_rowOf_18

set_option maxHeartbeats 4000000 in
set_option maxRecDepth 100000 in
theorem cM_placeOf_1 (l : Launch) (g : si_G) (y0 mW mD mT mP mR mA mK mO mB mI mN mH mC : Nat) (zs ze za zm : Int32) (t : List Nat) (ft : Nat → Int32) (q : Int32) (hn : t.length ≤ 60) (hft : ∀ x, x < t.length + 1 → ft x = nI (si_pl t x)) : si_Mi (S := Unit) l g vwCl zyM_placeOf zwM_placeOf ({ frames := 1, cells := 0, slots := 0, locals := 21 } : Room) [.ref y0, .int q] [(y0, .inr (6, [.int zs, .ref mW, .ref mD, .int (nI 1), .int (nI t.length), .ref mT, .int ze, .ref mP, .ref mR, .int za, .ref mA, .int zm, .ref mK, .ref mO, .ref mB, .ref mI, .ref mN, .ref mH, .ref mC])), (mP, .inl (g.2.1, 61, .inl ft))] (fun r u => r = si_q t.length q (fun j => nI (si_pl t j))) (fun u => [(y0, .inr (6, [.int zs, .ref mW, .ref mD, .int (nI 1), .int (nI t.length), .ref mT, .int ze, .ref mP, .ref mR, .int za, .ref mA, .int zm, .ref mK, .ref mO, .ref mB, .ref mI, .ref mN, .ref mH, .ref mC])), (mP, .inl (g.2.1, 61, .inl ft))]) := by
  refine si_Mi.of (cc := zkM_placeOf) (maxL := 2) (by decide) rfl (Nat.le_of_ble_eq_true rfl) ?_
  intro p e s m args below meth c A Q ls hF0 hin hK hN hP hD hA hS hl hret
  obtain ⟨hx, hb, hml, hown, hts0⟩ := hF0
  have hts : ∀ w ∈ si_tbl, w.before args s = true := fun w hw => hts0 w (List.mem_cons_of_mem _ hw)
  have hF : CallFix p m c zkM_placeOf 2 s args si_tbl zRM := ⟨hx, hb, hml, hown, hts⟩
  have hl : lv_has ls 2 [(0, .ref y0), (1, .int q)] := hl
  refine lv_aload_n hx hb zdM_placeOf_0 rfl (lv_at hl 0 rfl) ?_
  refine lv_iload_n hx hb zdM_placeOf_1 rfl (lv_at hl 1 rfl) ?_
  refine (cM_place_1 l g y0 mW mD mT mP mR mA mK mO mB mI mN mH mC zs ze za zm t q hn).callV (wr := [(mP, .inl (g.2.1, 61, .inl ft))]) (As := [.int q]) (rest := []) hF (si_cV 1 hts zcM_place zlM_96 zimM_place zseM_place ziniM zhM_place ⟨Nat.le_of_ble_eq_true rfl, Nat.le_of_ble_eq_true rfl⟩) hK hN hP hD hS hA [0] [1] rfl rfl (by decide) (by decide) (va_recv (q := (zRM, zTM, 19)) hK hP (ci := 6) (q0 := 0) rfl rfl) rfl hl.1 rfl (Nat.le_of_ble_eq_true rfl) zdM_placeOf_2 ⟨Nat.le_of_ble_eq_true rfl, Nat.le_of_ble_eq_true rfl⟩ rfl rfl (fun r_ _u H locs hq hP hD hS => ?_)
  subst hq
  have hP : va_P g.1 vwCl [(mP, .inl (g.2.1, 61, .inl ft)), (y0, .inr (6, [.int zs, .ref mW, .ref mD, .int (nI 1), .int (nI t.length), .ref mT, .int ze, .ref mP, .ref mR, .int za, .ref mA, .int zm, .ref mK, .ref mO, .ref mB, .ref mI, .ref mN, .ref mH, .ref mC]))] H := hP
  have hD : va_D A [(mP, .inl (g.2.1, 61, .inl ft)), (y0, .inr (6, [.int zs, .ref mW, .ref mD, .int (nI 1), .int (nI t.length), .ref mT, .int ze, .ref mP, .ref mR, .int za, .ref mA, .int zm, .ref mK, .ref mO, .ref mB, .ref mI, .ref mN, .ref mH, .ref mC]))] := hD
  refine si_if_eq (tgt := 17) hx hb zdM_placeOf_5 rfl (si_bn _) (fun h5 => ?_) (fun h5 => ?_)
  · have hd := si_b0 h5
    refine lv_iconst (v := -1) hx hb zdM_placeOf_17 (by decide) ?_
    exact hret (-1) () _ _ _ _ (rfl) ((si_q_f hd).symm) (hP.sub [1, 0] rfl) (hD.sub [1, 0] (by decide) rfl) hS zdM_placeOf_18
  · have hd := si_b1 h5
    obtain ⟨j, hj, rfl⟩ := si_inP_t hd
    refine lv_aload_n hx hb zdM_placeOf_8 rfl (lv_at hl 0 rfl) ?_
    refine va_get (D := g.1) (ci := 6) (v := .ref mP) (C := zRM) (T := zTM) (N := 19) hx hb hts ziM hown hK hP 1 rfl rfl 7 (by decide) (hts _ zlM_20) (fun _ h => h) rfl zdM_placeOf_9 ?_
    refine lv_iload_n hx hb zdM_placeOf_12 rfl (lv_at hl 1 rfl) ?_
    refine si_iald (v := nI (si_pl t j)) hx hb hK hP 0 0 rfl rfl (by decide) (by omega) (hft j (by omega)) zdM_placeOf_13 ?_
    refine lv_goto (tgt := 18) hx hb zdM_placeOf_14 rfl ?_
    exact hret (nI (si_pl t j)) () _ _ _ _ (rfl) ((si_q_t (F := fun j => nI (si_pl t j)) hd (by omega)).symm) (hP.sub [1, 0] rfl) (hD.sub [1, 0] (by decide) rfl) hS zdM_placeOf_18

set_option maxHeartbeats 4000000 in
set_option maxRecDepth 100000 in
/-- occurs -/
theorem cM_occurs (l : Launch) (g : si_G) (y0 mW mD mT mP mR mA mK mO mB mI mN mH mC : Nat) (zs ze zm : Int32) (ft fa : Nat → Int32) (t b : List Nat) (k : Nat) (hok : si_ok t) (hft : ∀ x, x < t.length + 1 → ft x = nI (si_g t x)) (hb1 : b.length ≤ 20) (hfa : si_ln b fa) (hval : ∀ z ∈ b, 32 ≤ z ∧ z ≤ 126) (hk : k ≤ t.length) : si_Mi (S := Unit) l g vwCl zyM_occurs zwM_occurs ({ frames := 0, cells := 0, slots := 0, locals := 0 } : Room) [.ref y0, .int (nI k)] [(y0, .inr (6, [.int zs, .ref mW, .ref mD, .int (nI 1), .int (nI t.length), .ref mT, .int ze, .ref mP, .ref mR, .int (nI b.length), .ref mA, .int zm, .ref mK, .ref mO, .ref mB, .ref mI, .ref mN, .ref mH, .ref mC])), (mT, .inl (g.2.1, 61, .inl ft)), (mA, .inl (g.2.1, 20, .inl fa))] (fun r u => r = nI (si_oc t b k).toNat) (fun u => [(y0, .inr (6, [.int zs, .ref mW, .ref mD, .int (nI 1), .int (nI t.length), .ref mT, .int ze, .ref mP, .ref mR, .int (nI b.length), .ref mA, .int zm, .ref mK, .ref mO, .ref mB, .ref mI, .ref mN, .ref mH, .ref mC])), (mT, .inl (g.2.1, 61, .inl ft)), (mA, .inl (g.2.1, 20, .inl fa))]) := by
  refine si_Mi.of (cc := zkM_occurs) (maxL := 3) (by decide) rfl (Nat.le_of_ble_eq_true rfl) ?_
  intro p e s m args below meth c A Q ls hF0 hin hK hN hP hD hA hS hl hret
  obtain ⟨hx, hb, hml, hown, hts0⟩ := hF0
  have hts : ∀ w ∈ si_tbl, w.before args s = true := fun w hw => hts0 w (List.mem_cons_of_mem _ hw)
  have hF : CallFix p m c zkM_occurs 3 s args si_tbl zRM := ⟨hx, hb, hml, hown, hts⟩
  have hl : lv_has ls 3 [(0, .ref y0), (1, .int (nI k))] := hl
  have hn := hok.1
  refine lv_aload_n hx hb zdM_occurs_0 rfl (lv_at hl 0 rfl) ?_
  refine va_get (D := g.1) (ci := 6) (v := .int (nI 1)) (C := zRM) (T := zTM) (N := 19) hx hb hts ziM hown hK hP 0 rfl rfl 3 (by decide) (hts _ zlM_86) (fun _ h => h) rfl zdM_occurs_1 ?_
  refine si_if_eq (tgt := 20) hx hb zdM_occurs_4 rfl (by decide) (fun h4 => ?_) (fun h4 => ?_)
  · exact absurd h4 (by decide)
  · refine lv_iload_n hx hb zdM_occurs_7 rfl (lv_at hl 1 rfl) ?_
    refine lv_aload_n hx hb zdM_occurs_8 rfl (lv_at hl 0 rfl) ?_
    refine va_get (D := g.1) (ci := 6) (v := .int (nI b.length)) (C := zRM) (T := zTM) (N := 19) hx hb hts ziM hown hK hP 0 rfl rfl 9 (by decide) (hts _ zlM_100) (fun _ h => h) rfl zdM_occurs_9 ?_
    refine si_iadd (v := nI (k + b.length)) hx hb zdM_occurs_12 (nI_add _ _) ?_
    refine lv_aload_n hx hb zdM_occurs_13 rfl (lv_at hl 0 rfl) ?_
    refine va_get (D := g.1) (ci := 6) (v := .int (nI t.length)) (C := zRM) (T := zTM) (N := 19) hx hb hts ziM hown hK hP 0 rfl rfl 4 (by decide) (hts _ zlM_90) (fun _ h => h) rfl zdM_occurs_14 ?_
    refine si_icmp_le (tgt := 22) hx hb zdM_occurs_17 rfl (by omega) (by omega) (fun h17 => ?_) (fun h17 => ?_)
    · refine lv_iconst (v := nI 0) hx hb zdM_occurs_22 (by decide) ?_
      refine lv_istore_n (lv' := [(2, .int (nI 0)), (0, .ref y0), (1, .int (nI k))]) hx hb zdM_occurs_23 rfl hl (Nat.le_of_ble_eq_true rfl) rfl (fun ls hl => ?_)
      have L24 : ∀ (N : Nat) (i : Nat) (H : Heap) (locs : List Loc) (ls : Array Slot), b.length - i < N → (i ≤ b.length) → (∀ j, j < i → si_g t (k + j) = si_g b j) → lv_has ls 3 [(0, .ref y0), (1, .int (nI k)), (2, .int (nI i))] → va_P g.1 vwCl [(y0, .inr (6, [.int zs, .ref mW, .ref mD, .int (nI 1), .int (nI t.length), .ref mT, .int ze, .ref mP, .ref mR, .int (nI b.length), .ref mA, .int zm, .ref mK, .ref mO, .ref mB, .ref mI, .ref mN, .ref mH, .ref mC])), (mT, .inl (g.2.1, 61, .inl ft)), (mA, .inl (g.2.1, 20, .inl fa))] H → va_D A [(y0, .inr (6, [.int zs, .ref mW, .ref mD, .int (nI 1), .int (nI t.length), .ref mT, .int ze, .ref mP, .ref mR, .int (nI b.length), .ref mA, .int zm, .ref mK, .ref mO, .ref mB, .ref mI, .ref mN, .ref mH, .ref mC])), (mT, .inl (g.2.1, 61, .inl ft)), (mA, .inl (g.2.1, 20, .inl fa))] → va_S A s.heap H locs → W p l e ({ frames := 0, cells := 0, slots := 0, locals := 0 } : Room) s m args below meth c H locs 0 0 Q (F0 m 24 ls []) := by
        intro N
        induction N with
        | zero => intro i H locs ls hMs; exact absurd hMs (Nat.not_lt_zero _)
        | succ N ih24 =>
          intro i H locs ls hMs hi hall hl hP hD hS
          refine lv_iload_n hx hb zdM_occurs_24 rfl (lv_at hl 2 rfl) ?_
          refine lv_aload_n hx hb zdM_occurs_25 rfl (lv_at hl 0 rfl) ?_
          refine va_get (D := g.1) (ci := 6) (v := .int (nI b.length)) (C := zRM) (T := zTM) (N := 19) hx hb hts ziM hown hK hP 0 rfl rfl 9 (by decide) (hts _ zlM_100) (fun _ h => h) rfl zdM_occurs_26 ?_
          refine si_icmp_ge (tgt := 57) hx hb zdM_occurs_29 rfl (by omega) (by omega) (fun h29 => ?_) (fun h29 => ?_)
          · have hoc : si_oc t b k = true := si_oc_iff.mpr ⟨h17, fun j hj => hall j (by omega)⟩
            refine lv_iconst (v := nI 1) hx hb zdM_occurs_57 (by decide) ?_
            exact hret (nI 1) () _ _ _ _ (rfl) (by rw [hoc]; rfl) (hP.sub [0, 1, 2] rfl) (hD.sub [0, 1, 2] (by decide) rfl) hS zdM_occurs_58
          · refine lv_aload_n hx hb zdM_occurs_32 rfl (lv_at hl 0 rfl) ?_
            refine va_get (D := g.1) (ci := 6) (v := .ref mT) (C := zRM) (T := zTM) (N := 19) hx hb hts ziM hown hK hP 0 rfl rfl 5 (by decide) (hts _ zlM_17) (fun _ h => h) rfl zdM_occurs_33 ?_
            refine lv_iload_n hx hb zdM_occurs_36 rfl (lv_at hl 1 rfl) ?_
            refine lv_iload_n hx hb zdM_occurs_37 rfl (lv_at hl 2 rfl) ?_
            refine si_iadd (v := nI (k + i)) hx hb zdM_occurs_38 (nI_add _ _) ?_
            refine si_iald (v := nI (si_g t (k + i))) hx hb hK hP 1 0 rfl rfl (by decide) (by omega) (hft (k + i) (by omega)) zdM_occurs_39 ?_
            refine lv_aload_n hx hb zdM_occurs_40 rfl (lv_at hl 0 rfl) ?_
            refine va_get (D := g.1) (ci := 6) (v := .ref mA) (C := zRM) (T := zTM) (N := 19) hx hb hts ziM hown hK hP 0 rfl rfl 10 (by decide) (hts _ zlM_26) (fun _ h => h) rfl zdM_occurs_41 ?_
            refine lv_iload_n hx hb zdM_occurs_44 rfl (lv_at hl 2 rfl) ?_
            refine si_iald (v := nI (si_g b i)) hx hb hK hP 2 0 rfl rfl (by decide) (by omega) (hfa i (by omega)) zdM_occurs_45 ?_
            refine si_icmp_eq (tgt := 51) hx hb zdM_occurs_46 rfl (si_g_lt (by first | exact hok.2 | exact hval)) (si_g_lt (by first | exact hok.2 | exact hval)) (fun h46 => ?_) (fun h46 => ?_)
            · refine lv_iinc (k := 2) (v := nI (i + 1)) (lv' := [(2, .int (nI (i + 1))), (0, .ref y0), (1, .int (nI k))]) hx hb zdM_occurs_51 hl rfl (si_inc _) (Nat.le_of_ble_eq_true rfl) rfl (fun ls hl => ?_)
              refine lv_goto (tgt := 24) hx hb zdM_occurs_54 rfl ?_
              exact ih24 (i + 1) _ _ _ (by omega) (by omega) (lt_s hall h46) (lv_sub hl [1, 2, 0] rfl) (hP.sub [0, 1, 2] rfl) (hD.sub [0, 1, 2] (by decide) rfl) hS
            · have hoc : si_oc t b k = false := si_nt (fun z => h46 ((si_oc_iff.mp z).2 i (by omega)))
              refine lv_iconst (v := nI 0) hx hb zdM_occurs_49 (by decide) ?_
              exact hret (nI 0) () _ _ _ _ (rfl) (by rw [hoc]; rfl) (hP.sub [0, 1, 2] rfl) (hD.sub [0, 1, 2] (by decide) rfl) hS zdM_occurs_50
      exact L24 (b.length - 0 + 1) 0 _ _ _ (by omega) (by omega) (fun j hj => absurd hj (Nat.not_lt_zero _)) (lv_sub hl [1, 2, 0] rfl) (hP.sub [0, 1, 2] rfl) (hD.sub [0, 1, 2] (by decide) rfl) hS
    · have hoc : si_oc t b k = false := si_nt (fun z => by have := (si_oc_iff.mp z).1; omega)
      refine lv_iconst (v := nI 0) hx hb zdM_occurs_20 (by decide) ?_
      exact hret (nI 0) () _ _ _ _ (rfl) (by rw [hoc]; rfl) (hP.sub [0, 1, 2] rfl) (hD.sub [0, 1, 2] (by decide) rfl) hS zdM_occurs_21

set_option maxHeartbeats 4000000 in
set_option maxRecDepth 100000 in
theorem cM_count_0 (l : Launch) (g : si_G) (y0 mW mD mT mP mR mA mK mO mB mI mN mH mC : Nat) (zs zn ze za zm : Int32)  : si_Mi (S := Unit) l g vwCl zyM_count zwM_count ({ frames := 1, cells := 0, slots := 0, locals := 22 } : Room) [.ref y0] [(y0, .inr (6, [.int zs, .ref mW, .ref mD, .int (nI 0), .int zn, .ref mT, .int ze, .ref mP, .ref mR, .int za, .ref mA, .int zm, .ref mK, .ref mO, .ref mB, .ref mI, .ref mN, .ref mH, .ref mC]))] (fun r u => r = -1) (fun u => [(y0, .inr (6, [.int zs, .ref mW, .ref mD, .int (nI 0), .int zn, .ref mT, .int ze, .ref mP, .ref mR, .int za, .ref mA, .int zm, .ref mK, .ref mO, .ref mB, .ref mI, .ref mN, .ref mH, .ref mC]))]) := by
  refine si_Mi.of (cc := zkM_count) (maxL := 3) (by decide) rfl (Nat.le_of_ble_eq_true rfl) ?_
  intro p e s m args below meth c A Q ls hF0 hin hK hN hP hD hA hS hl hret
  obtain ⟨hx, hb, hml, hown, hts0⟩ := hF0
  have hts : ∀ w ∈ si_tbl, w.before args s = true := fun w hw => hts0 w (List.mem_cons_of_mem _ hw)
  have hF : CallFix p m c zkM_count 3 s args si_tbl zRM := ⟨hx, hb, hml, hown, hts⟩
  have hl : lv_has ls 3 [(0, .ref y0)] := hl
  refine lv_iconst (v := nI 0) hx hb zdM_count_0 (by decide) ?_
  refine lv_istore_n (lv' := [(1, .int (nI 0)), (0, .ref y0)]) hx hb zdM_count_1 rfl hl (Nat.le_of_ble_eq_true rfl) rfl (fun ls hl => ?_)
  refine lv_iconst (v := nI 0) hx hb zdM_count_2 (by decide) ?_
  refine lv_istore_n (lv' := [(2, .int (nI 0)), (1, .int (nI 0)), (0, .ref y0)]) hx hb zdM_count_3 rfl hl (Nat.le_of_ble_eq_true rfl) rfl (fun ls hl => ?_)
  refine lv_aload_n hx hb zdM_count_4 rfl (lv_at hl 2 rfl) ?_
  refine va_get (D := g.1) (ci := 6) (v := .int (nI 0)) (C := zRM) (T := zTM) (N := 19) hx hb hts ziM hown hK hP 0 rfl rfl 3 (by decide) (hts _ zlM_86) (fun _ h => h) rfl zdM_count_5 ?_
  refine si_if_eq (tgt := 41) hx hb zdM_count_8 rfl (by decide) (fun h8 => ?_) (fun h8 => ?_)
  · refine lv_aload_n hx hb zdM_count_41 rfl (lv_at hl 2 rfl) ?_
    refine va_get (D := g.1) (ci := 6) (v := .int (nI 0)) (C := zRM) (T := zTM) (N := 19) hx hb hts ziM hown hK hP 0 rfl rfl 3 (by decide) (hts _ zlM_86) (fun _ h => h) rfl zdM_count_42 ?_
    refine si_if_eq (tgt := 52) hx hb zdM_count_45 rfl (by decide) (fun h45 => ?_) (fun h45 => ?_)
    · refine lv_iconst (v := -1) hx hb zdM_count_52 (by decide) ?_
      exact hret (-1) () _ _ _ _ (rfl) (rfl) (hP.sub [0] rfl) (hD.sub [0] (by decide) rfl) hS zdM_count_53
    · exact absurd rfl h45
  · exact absurd rfl h8

set_option maxHeartbeats 4000000 in
set_option maxRecDepth 100000 in
theorem cM_firstRow_0 (l : Launch) (g : si_G) (y0 mW mD mT mP mR mA mK mO mB mI mN mH mC : Nat) (zs zn ze za zm : Int32)  : si_Mi (S := Unit) l g vwCl zyM_firstRow zwM_firstRow ({ frames := 1, cells := 0, slots := 0, locals := 22 } : Room) [.ref y0] [(y0, .inr (6, [.int zs, .ref mW, .ref mD, .int (nI 0), .int zn, .ref mT, .int ze, .ref mP, .ref mR, .int za, .ref mA, .int zm, .ref mK, .ref mO, .ref mB, .ref mI, .ref mN, .ref mH, .ref mC]))] (fun r u => r = -1) (fun u => [(y0, .inr (6, [.int zs, .ref mW, .ref mD, .int (nI 0), .int zn, .ref mT, .int ze, .ref mP, .ref mR, .int za, .ref mA, .int zm, .ref mK, .ref mO, .ref mB, .ref mI, .ref mN, .ref mH, .ref mC]))]) := by
  refine si_Mi.of (cc := zkM_firstRow) (maxL := 3) (by decide) rfl (Nat.le_of_ble_eq_true rfl) ?_
  intro p e s m args below meth c A Q ls hF0 hin hK hN hP hD hA hS hl hret
  obtain ⟨hx, hb, hml, hown, hts0⟩ := hF0
  have hts : ∀ w ∈ si_tbl, w.before args s = true := fun w hw => hts0 w (List.mem_cons_of_mem _ hw)
  have hF : CallFix p m c zkM_firstRow 3 s args si_tbl zRM := ⟨hx, hb, hml, hown, hts⟩
  have hl : lv_has ls 3 [(0, .ref y0)] := hl
  refine lv_iconst (v := -1) hx hb zdM_firstRow_0 (by decide) ?_
  refine lv_istore_n (lv' := [(1, .int (-1)), (0, .ref y0)]) hx hb zdM_firstRow_1 rfl hl (Nat.le_of_ble_eq_true rfl) rfl (fun ls hl => ?_)
  refine lv_iconst (v := nI 0) hx hb zdM_firstRow_2 (by decide) ?_
  refine lv_istore_n (lv' := [(2, .int (nI 0)), (1, .int (-1)), (0, .ref y0)]) hx hb zdM_firstRow_3 rfl hl (Nat.le_of_ble_eq_true rfl) rfl (fun ls hl => ?_)
  refine lv_aload_n hx hb zdM_firstRow_4 rfl (lv_at hl 2 rfl) ?_
  refine va_get (D := g.1) (ci := 6) (v := .int (nI 0)) (C := zRM) (T := zTM) (N := 19) hx hb hts ziM hown hK hP 0 rfl rfl 3 (by decide) (hts _ zlM_86) (fun _ h => h) rfl zdM_firstRow_5 ?_
  refine si_if_eq (tgt := 58) hx hb zdM_firstRow_8 rfl (by decide) (fun h8 => ?_) (fun h8 => ?_)
  · refine lv_iload_n hx hb zdM_firstRow_58 rfl (lv_at hl 1 rfl) ?_
    exact hret (-1) () _ _ _ _ (rfl) (rfl) (hP.sub [0] rfl) (hD.sub [0] (by decide) rfl) hS zdM_firstRow_59
  · exact absurd rfl h8

set_option maxHeartbeats 4000000 in
set_option maxRecDepth 100000 in
theorem cM_locate_0 (l : Launch) (g : si_G) (y0 mW mD mT mP mR mA mK mO mB mI mN mH mC : Nat) (zs zn ze za zm : Int32) (q : Int32)  : si_Mi (S := Unit) l g vwCl zyM_locate zwM_locate ({ frames := 1, cells := 0, slots := 0, locals := 22 } : Room) [.ref y0, .int q] [(y0, .inr (6, [.int zs, .ref mW, .ref mD, .int (nI 0), .int zn, .ref mT, .int ze, .ref mP, .ref mR, .int za, .ref mA, .int zm, .ref mK, .ref mO, .ref mB, .ref mI, .ref mN, .ref mH, .ref mC]))] (fun r u => r = -1) (fun u => [(y0, .inr (6, [.int zs, .ref mW, .ref mD, .int (nI 0), .int zn, .ref mT, .int ze, .ref mP, .ref mR, .int za, .ref mA, .int zm, .ref mK, .ref mO, .ref mB, .ref mI, .ref mN, .ref mH, .ref mC]))]) := by
  refine si_Mi.of (cc := zkM_locate) (maxL := 4) (by decide) rfl (Nat.le_of_ble_eq_true rfl) ?_
  intro p e s m args below meth c A Q ls hF0 hin hK hN hP hD hA hS hl hret
  obtain ⟨hx, hb, hml, hown, hts0⟩ := hF0
  have hts : ∀ w ∈ si_tbl, w.before args s = true := fun w hw => hts0 w (List.mem_cons_of_mem _ hw)
  have hF : CallFix p m c zkM_locate 4 s args si_tbl zRM := ⟨hx, hb, hml, hown, hts⟩
  have hl : lv_has ls 4 [(0, .ref y0), (1, .int q)] := hl
  refine lv_iload_n hx hb zdM_locate_0 rfl (lv_at hl 1 rfl) ?_
  refine lv_istore_n (lv' := [(2, .int q), (0, .ref y0), (1, .int q)]) hx hb zdM_locate_1 rfl hl (Nat.le_of_ble_eq_true rfl) rfl (fun ls hl => ?_)
  refine lv_iconst (v := nI 0) hx hb zdM_locate_2 (by decide) ?_
  refine lv_istore_n (lv' := [(3, .int (nI 0)), (2, .int q), (0, .ref y0), (1, .int q)]) hx hb zdM_locate_3 rfl hl (Nat.le_of_ble_eq_true rfl) rfl (fun ls hl => ?_)
  refine lv_aload_n hx hb zdM_locate_4 rfl (lv_at hl 2 rfl) ?_
  refine va_get (D := g.1) (ci := 6) (v := .int (nI 0)) (C := zRM) (T := zTM) (N := 19) hx hb hts ziM hown hK hP 0 rfl rfl 3 (by decide) (hts _ zlM_86) (fun _ h => h) rfl zdM_locate_5 ?_
  refine si_if_eq (tgt := 46) hx hb zdM_locate_8 rfl (by decide) (fun h8 => ?_) (fun h8 => ?_)
  · refine lv_iconst (v := -1) hx hb zdM_locate_46 (by decide) ?_
    exact hret (-1) () _ _ _ _ (rfl) (rfl) (hP.sub [0] rfl) (hD.sub [0] (by decide) rfl) hS zdM_locate_47
  · exact absurd rfl h8

set_option maxHeartbeats 4000000 in
set_option maxRecDepth 100000 in
theorem cM_variety_0 (l : Launch) (g : si_G) (y0 mW mD mT mP mR mA mK mO mB mI mN mH mC : Nat) (zs zn ze za zm : Int32)  : si_Mi (S := Unit) l g vwCl zyM_variety zwM_variety ({ frames := 1, cells := 0, slots := 0, locals := 22 } : Room) [.ref y0] [(y0, .inr (6, [.int zs, .ref mW, .ref mD, .int (nI 0), .int zn, .ref mT, .int ze, .ref mP, .ref mR, .int za, .ref mA, .int zm, .ref mK, .ref mO, .ref mB, .ref mI, .ref mN, .ref mH, .ref mC]))] (fun r u => r = -1) (fun u => [(y0, .inr (6, [.int zs, .ref mW, .ref mD, .int (nI 0), .int zn, .ref mT, .int ze, .ref mP, .ref mR, .int za, .ref mA, .int zm, .ref mK, .ref mO, .ref mB, .ref mI, .ref mN, .ref mH, .ref mC]))]) := by
  refine si_Mi.of (cc := zkM_variety) (maxL := 5) (by decide) rfl (Nat.le_of_ble_eq_true rfl) ?_
  intro p e s m args below meth c A Q ls hF0 hin hK hN hP hD hA hS hl hret
  obtain ⟨hx, hb, hml, hown, hts0⟩ := hF0
  have hts : ∀ w ∈ si_tbl, w.before args s = true := fun w hw => hts0 w (List.mem_cons_of_mem _ hw)
  have hF : CallFix p m c zkM_variety 5 s args si_tbl zRM := ⟨hx, hb, hml, hown, hts⟩
  have hl : lv_has ls 5 [(0, .ref y0)] := hl
  refine lv_iconst (v := nI 0) hx hb zdM_variety_0 (by decide) ?_
  refine lv_istore_n (lv' := [(1, .int (nI 0)), (0, .ref y0)]) hx hb zdM_variety_1 rfl hl (Nat.le_of_ble_eq_true rfl) rfl (fun ls hl => ?_)
  refine lv_bipush (v := nI 32) hx hb zdM_variety_2 (by decide) ?_
  refine lv_istore_n (lv' := [(2, .int (nI 32)), (1, .int (nI 0)), (0, .ref y0)]) hx hb zdM_variety_4 rfl hl (Nat.le_of_ble_eq_true rfl) rfl (fun ls hl => ?_)
  refine lv_iload_n hx hb zdM_variety_5 rfl (lv_at hl 0 rfl) ?_
  refine lv_bipush (v := nI 127) hx hb zdM_variety_6 (by decide) ?_
  refine si_icmp_ge (tgt := 88) hx hb zdM_variety_8 rfl (by decide) (by decide) (fun h8 => ?_) (fun h8 => ?_)
  · exact absurd h8 (by decide)
  · refine lv_aload_n hx hb zdM_variety_11 rfl (lv_at hl 2 rfl) ?_
    refine va_get (D := g.1) (ci := 6) (v := .int (nI 0)) (C := zRM) (T := zTM) (N := 19) hx hb hts ziM hown hK hP 0 rfl rfl 3 (by decide) (hts _ zlM_86) (fun _ h => h) rfl zdM_variety_12 ?_
    refine si_if_eq (tgt := 88) hx hb zdM_variety_15 rfl (by decide) (fun h15 => ?_) (fun h15 => ?_)
    · refine lv_aload_n hx hb zdM_variety_88 rfl (lv_at hl 2 rfl) ?_
      refine va_get (D := g.1) (ci := 6) (v := .int (nI 0)) (C := zRM) (T := zTM) (N := 19) hx hb hts ziM hown hK hP 0 rfl rfl 3 (by decide) (hts _ zlM_86) (fun _ h => h) rfl zdM_variety_89 ?_
      refine si_if_eq (tgt := 99) hx hb zdM_variety_92 rfl (by decide) (fun h92 => ?_) (fun h92 => ?_)
      · refine lv_iconst (v := -1) hx hb zdM_variety_99 (by decide) ?_
        exact hret (-1) () _ _ _ _ (rfl) (rfl) (hP.sub [0] rfl) (hD.sub [0] (by decide) rfl) hS zdM_variety_100
      · exact absurd rfl h92
    · exact absurd rfl h15

set_option maxHeartbeats 4000000 in
set_option maxRecDepth 100000 in
theorem cM_count_1 (l : Launch) (g : si_G) (y0 mW mD mT mP mR mA mK mO mB mI mN mH mC : Nat) (zs ze zm : Int32) (ft fa : Nat → Int32) (t b : List Nat) (hok : si_ok t) (hft : ∀ x, x < t.length + 1 → ft x = nI (si_g t x)) (hb1 : b.length ≤ 20) (hfa : si_ln b fa) (hval : ∀ z ∈ b, 32 ≤ z ∧ z ≤ 126) : si_Mi (S := Unit) l g vwCl zyM_count zwM_count ({ frames := 1, cells := 0, slots := 0, locals := 22 } : Room) [.ref y0] [(y0, .inr (6, [.int zs, .ref mW, .ref mD, .int (nI 1), .int (nI t.length), .ref mT, .int ze, .ref mP, .ref mR, .int (nI b.length), .ref mA, .int zm, .ref mK, .ref mO, .ref mB, .ref mI, .ref mN, .ref mH, .ref mC])), (mT, .inl (g.2.1, 61, .inl ft)), (mA, .inl (g.2.1, 20, .inl fa))] (fun r u => r = nI (si_cn (t.length + 1) (si_oc t b))) (fun u => [(y0, .inr (6, [.int zs, .ref mW, .ref mD, .int (nI 1), .int (nI t.length), .ref mT, .int ze, .ref mP, .ref mR, .int (nI b.length), .ref mA, .int zm, .ref mK, .ref mO, .ref mB, .ref mI, .ref mN, .ref mH, .ref mC])), (mT, .inl (g.2.1, 61, .inl ft)), (mA, .inl (g.2.1, 20, .inl fa))]) := by
  refine si_Mi.of (cc := zkM_count) (maxL := 3) (by decide) rfl (Nat.le_of_ble_eq_true rfl) ?_
  intro p e s m args below meth c A Q ls hF0 hin hK hN hP hD hA hS hl hret
  obtain ⟨hx, hb, hml, hown, hts0⟩ := hF0
  have hts : ∀ w ∈ si_tbl, w.before args s = true := fun w hw => hts0 w (List.mem_cons_of_mem _ hw)
  have hF : CallFix p m c zkM_count 3 s args si_tbl zRM := ⟨hx, hb, hml, hown, hts⟩
  have hl : lv_has ls 3 [(0, .ref y0)] := hl
  have hn := hok.1
  refine lv_iconst (v := nI 0) hx hb zdM_count_0 (by decide) ?_
  refine lv_istore_n (lv' := [(1, .int (nI 0)), (0, .ref y0)]) hx hb zdM_count_1 rfl hl (Nat.le_of_ble_eq_true rfl) rfl (fun ls hl => ?_)
  refine lv_iconst (v := nI 0) hx hb zdM_count_2 (by decide) ?_
  refine lv_istore_n (lv' := [(2, .int (nI 0)), (1, .int (nI 0)), (0, .ref y0)]) hx hb zdM_count_3 rfl hl (Nat.le_of_ble_eq_true rfl) rfl (fun ls hl => ?_)
  have L4 : ∀ (N : Nat) (k : Nat) (fo : Nat) (H : Heap) (locs : List Loc) (ls : Array Slot), t.length + 1 - k < N → (k ≤ t.length + 1) → (fo = si_cn k (si_oc t b)) → lv_has ls 3 [(0, .ref y0), (1, .int (nI fo)), (2, .int (nI k))] → va_P g.1 vwCl [(y0, .inr (6, [.int zs, .ref mW, .ref mD, .int (nI 1), .int (nI t.length), .ref mT, .int ze, .ref mP, .ref mR, .int (nI b.length), .ref mA, .int zm, .ref mK, .ref mO, .ref mB, .ref mI, .ref mN, .ref mH, .ref mC])), (mT, .inl (g.2.1, 61, .inl ft)), (mA, .inl (g.2.1, 20, .inl fa))] H → va_D A [(y0, .inr (6, [.int zs, .ref mW, .ref mD, .int (nI 1), .int (nI t.length), .ref mT, .int ze, .ref mP, .ref mR, .int (nI b.length), .ref mA, .int zm, .ref mK, .ref mO, .ref mB, .ref mI, .ref mN, .ref mH, .ref mC])), (mT, .inl (g.2.1, 61, .inl ft)), (mA, .inl (g.2.1, 20, .inl fa))] → va_S A s.heap H locs → W p l e ({ frames := 1, cells := 0, slots := 0, locals := 22 } : Room) s m args below meth c H locs 0 0 Q (F0 m 4 ls []) := by
    intro N
    induction N with
    | zero => intro k fo H locs ls hMs; exact absurd hMs (Nat.not_lt_zero _)
    | succ N ih4 =>
      intro k fo H locs ls hMs hk hfo hl hP hD hS
      refine lv_aload_n hx hb zdM_count_4 rfl (lv_at hl 0 rfl) ?_
      refine va_get (D := g.1) (ci := 6) (v := .int (nI 1)) (C := zRM) (T := zTM) (N := 19) hx hb hts ziM hown hK hP 0 rfl rfl 3 (by decide) (hts _ zlM_86) (fun _ h => h) rfl zdM_count_5 ?_
      refine si_if_eq (tgt := 41) hx hb zdM_count_8 rfl (by decide) (fun h8 => ?_) (fun h8 => ?_)
      · exact absurd h8 (by decide)
      · refine lv_iload_n hx hb zdM_count_11 rfl (lv_at hl 2 rfl) ?_
        refine lv_aload_n hx hb zdM_count_12 rfl (lv_at hl 0 rfl) ?_
        refine va_get (D := g.1) (ci := 6) (v := .int (nI t.length)) (C := zRM) (T := zTM) (N := 19) hx hb hts ziM hown hK hP 0 rfl rfl 4 (by decide) (hts _ zlM_90) (fun _ h => h) rfl zdM_count_13 ?_
        refine si_icmp_gt (tgt := 41) hx hb zdM_count_16 rfl (by omega) (by omega) (fun h16 => ?_) (fun h16 => ?_)
        · refine lv_aload_n hx hb zdM_count_41 rfl (lv_at hl 0 rfl) ?_
          refine va_get (D := g.1) (ci := 6) (v := .int (nI 1)) (C := zRM) (T := zTM) (N := 19) hx hb hts ziM hown hK hP 0 rfl rfl 3 (by decide) (hts _ zlM_86) (fun _ h => h) rfl zdM_count_42 ?_
          refine si_if_eq (tgt := 52) hx hb zdM_count_45 rfl (by decide) (fun h45 => ?_) (fun h45 => ?_)
          · exact absurd h45 (by decide)
          · refine lv_iload_n hx hb zdM_count_48 rfl (lv_at hl 1 rfl) ?_
            refine lv_goto (tgt := 53) hx hb zdM_count_49 rfl ?_
            exact hret (nI fo) () _ _ _ _ (rfl) (by rw [hfo, show k = t.length + 1 by omega]) (hP.sub [0, 1, 2] rfl) (hD.sub [0, 1, 2] (by decide) rfl) hS zdM_count_53
        · refine lv_aload_n hx hb zdM_count_19 rfl (lv_at hl 0 rfl) ?_
          refine lv_iload_n hx hb zdM_count_20 rfl (lv_at hl 2 rfl) ?_
          refine (cM_occurs l g y0 mW mD mT mP mR mA mK mO mB mI mN mH mC zs ze zm ft fa t b k hok hft hb1 hfa hval (by omega)).callV (wr := []) (As := [.int (nI k)]) (rest := []) hF (si_cV 1 hts zcM_occurs zlM_103 zimM_occurs zseM_occurs ziniM zhM_occurs ⟨Nat.le_of_ble_eq_true rfl, Nat.le_of_ble_eq_true rfl⟩) hK hN hP hD hS hA [0, 1, 2] [] rfl rfl (by decide) (by decide) (va_recv (q := (zRM, zTM, 19)) hK hP (ci := 6) (q0 := 0) rfl rfl) rfl hl.1 rfl (Nat.le_of_ble_eq_true rfl) zdM_count_21 ⟨Nat.le_of_ble_eq_true rfl, Nat.le_of_ble_eq_true rfl⟩ rfl rfl (fun r_ _u H locs hq9 hP hD hS => ?_)
          subst hq9
          have hP : va_P g.1 vwCl [(y0, .inr (6, [.int zs, .ref mW, .ref mD, .int (nI 1), .int (nI t.length), .ref mT, .int ze, .ref mP, .ref mR, .int (nI b.length), .ref mA, .int zm, .ref mK, .ref mO, .ref mB, .ref mI, .ref mN, .ref mH, .ref mC])), (mT, .inl (g.2.1, 61, .inl ft)), (mA, .inl (g.2.1, 20, .inl fa))] H := hP
          have hD : va_D A [(y0, .inr (6, [.int zs, .ref mW, .ref mD, .int (nI 1), .int (nI t.length), .ref mT, .int ze, .ref mP, .ref mR, .int (nI b.length), .ref mA, .int zm, .ref mK, .ref mO, .ref mB, .ref mI, .ref mN, .ref mH, .ref mC])), (mT, .inl (g.2.1, 61, .inl ft)), (mA, .inl (g.2.1, 20, .inl fa))] := hD
          refine si_if_eq (tgt := 33) hx hb zdM_count_24 rfl (si_bn _) (fun h24 => ?_) (fun h24 => ?_)
          · refine lv_iload_n hx hb zdM_count_33 rfl (lv_at hl 1 rfl) ?_
            refine lv_istore_n (lv' := [(1, .int (nI fo)), (0, .ref y0), (2, .int (nI k))]) hx hb zdM_count_34 rfl hl (Nat.le_of_ble_eq_true rfl) rfl (fun ls hl => ?_)
            refine lv_iinc (k := 2) (v := nI (k + 1)) (lv' := [(2, .int (nI (k + 1))), (1, .int (nI fo)), (0, .ref y0)]) hx hb zdM_count_35 hl rfl (si_inc _) (Nat.le_of_ble_eq_true rfl) rfl (fun ls hl => ?_)
            refine lv_goto (tgt := 4) hx hb zdM_count_38 rfl ?_
            exact ih4 (k + 1) fo _ _ _ (by omega) (by omega) (by first | (rw [si_cn_t (si_b1 h24), hfo]; done) | (rw [si_cn_f (si_b0 h24), hfo]; done)) (lv_sub hl [2, 1, 0] rfl) (hP.sub [0, 1, 2] rfl) (hD.sub [0, 1, 2] (by decide) rfl) hS
          · refine lv_iload_n hx hb zdM_count_27 rfl (lv_at hl 1 rfl) ?_
            refine lv_iconst (v := nI 1) hx hb zdM_count_28 (by decide) ?_
            refine si_iadd (v := nI (fo + 1)) hx hb zdM_count_29 (nI_add _ _) ?_
            refine lv_goto (tgt := 34) hx hb zdM_count_30 rfl ?_
            refine lv_istore_n (lv' := [(1, .int (nI (fo + 1))), (0, .ref y0), (2, .int (nI k))]) hx hb zdM_count_34 rfl hl (Nat.le_of_ble_eq_true rfl) rfl (fun ls hl => ?_)
            refine lv_iinc (k := 2) (v := nI (k + 1)) (lv' := [(2, .int (nI (k + 1))), (1, .int (nI (fo + 1))), (0, .ref y0)]) hx hb zdM_count_35 hl rfl (si_inc _) (Nat.le_of_ble_eq_true rfl) rfl (fun ls hl => ?_)
            refine lv_goto (tgt := 4) hx hb zdM_count_38 rfl ?_
            exact ih4 (k + 1) (fo + 1) _ _ _ (by omega) (by omega) (by first | (rw [si_cn_t (si_b1 h24), hfo]; done) | (rw [si_cn_f (si_b0 h24), hfo]; done)) (lv_sub hl [2, 1, 0] rfl) (hP.sub [0, 1, 2] rfl) (hD.sub [0, 1, 2] (by decide) rfl) hS
  exact L4 (t.length + 1 - 0 + 1) 0 0 _ _ _ (by omega) (by omega) (rfl) (lv_sub hl [2, 1, 0] rfl) (hP.sub [0, 1, 2] rfl) (hD.sub [0, 1, 2] (by decide) rfl) hS

set_option maxHeartbeats 4000000 in
set_option maxRecDepth 100000 in
theorem cM_firstRow_1 (l : Launch) (g : si_G) (y0 mW mD mT mP mR mA mK mO mB mI mN mH mC : Nat) (zs ze zm : Int32) (ft fa : Nat → Int32) (t b : List Nat) (fr : Nat → Int32) (hok : si_ok t) (hft : ∀ x, x < t.length + 1 → ft x = nI (si_g t x)) (hb1 : b.length ≤ 20) (hfa : si_ln b fa) (hval : ∀ z ∈ b, 32 ≤ z ∧ z ≤ 126) (hfr : ∀ x, x < t.length + 1 → fr x = nI (si_rk t x)) : si_Mi (S := Unit) l g vwCl zyM_firstRow zwM_firstRow ({ frames := 1, cells := 0, slots := 0, locals := 22 } : Room) [.ref y0] [(y0, .inr (6, [.int zs, .ref mW, .ref mD, .int (nI 1), .int (nI t.length), .ref mT, .int ze, .ref mP, .ref mR, .int (nI b.length), .ref mA, .int zm, .ref mK, .ref mO, .ref mB, .ref mI, .ref mN, .ref mH, .ref mC])), (mT, .inl (g.2.1, 61, .inl ft)), (mA, .inl (g.2.1, 20, .inl fa)), (mR, .inl (g.2.1, 61, .inl fr))] (fun r u => si_fr t b r) (fun u => [(y0, .inr (6, [.int zs, .ref mW, .ref mD, .int (nI 1), .int (nI t.length), .ref mT, .int ze, .ref mP, .ref mR, .int (nI b.length), .ref mA, .int zm, .ref mK, .ref mO, .ref mB, .ref mI, .ref mN, .ref mH, .ref mC])), (mT, .inl (g.2.1, 61, .inl ft)), (mA, .inl (g.2.1, 20, .inl fa)), (mR, .inl (g.2.1, 61, .inl fr))]) := by
  refine si_Mi.of (cc := zkM_firstRow) (maxL := 3) (by decide) rfl (Nat.le_of_ble_eq_true rfl) ?_
  intro p e s m args below meth c A Q ls hF0 hin hK hN hP hD hA hS hl hret
  obtain ⟨hx, hb, hml, hown, hts0⟩ := hF0
  have hts : ∀ w ∈ si_tbl, w.before args s = true := fun w hw => hts0 w (List.mem_cons_of_mem _ hw)
  have hF : CallFix p m c zkM_firstRow 3 s args si_tbl zRM := ⟨hx, hb, hml, hown, hts⟩
  have hl : lv_has ls 3 [(0, .ref y0)] := hl
  have hn := hok.1
  refine lv_iconst (v := -1) hx hb zdM_firstRow_0 (by decide) ?_
  refine lv_istore_n (lv' := [(1, .int (-1)), (0, .ref y0)]) hx hb zdM_firstRow_1 rfl hl (Nat.le_of_ble_eq_true rfl) rfl (fun ls hl => ?_)
  refine lv_iconst (v := nI 0) hx hb zdM_firstRow_2 (by decide) ?_
  refine lv_istore_n (lv' := [(2, .int (nI 0)), (1, .int (-1)), (0, .ref y0)]) hx hb zdM_firstRow_3 rfl hl (Nat.le_of_ble_eq_true rfl) rfl (fun ls hl => ?_)
  have L4 : ∀ (N : Nat) (k : Nat) (v : Int32) (H : Heap) (locs : List Loc) (ls : Array Slot), t.length + 1 - k < N → (k ≤ t.length + 1) → (si_fm t b k v) → lv_has ls 3 [(0, .ref y0), (1, .int v), (2, .int (nI k))] → va_P g.1 vwCl [(y0, .inr (6, [.int zs, .ref mW, .ref mD, .int (nI 1), .int (nI t.length), .ref mT, .int ze, .ref mP, .ref mR, .int (nI b.length), .ref mA, .int zm, .ref mK, .ref mO, .ref mB, .ref mI, .ref mN, .ref mH, .ref mC])), (mT, .inl (g.2.1, 61, .inl ft)), (mA, .inl (g.2.1, 20, .inl fa)), (mR, .inl (g.2.1, 61, .inl fr))] H → va_D A [(y0, .inr (6, [.int zs, .ref mW, .ref mD, .int (nI 1), .int (nI t.length), .ref mT, .int ze, .ref mP, .ref mR, .int (nI b.length), .ref mA, .int zm, .ref mK, .ref mO, .ref mB, .ref mI, .ref mN, .ref mH, .ref mC])), (mT, .inl (g.2.1, 61, .inl ft)), (mA, .inl (g.2.1, 20, .inl fa)), (mR, .inl (g.2.1, 61, .inl fr))] → va_S A s.heap H locs → W p l e ({ frames := 1, cells := 0, slots := 0, locals := 22 } : Room) s m args below meth c H locs 0 0 Q (F0 m 4 ls []) := by
    intro N
    induction N with
    | zero => intro k v H locs ls hMs; exact absurd hMs (Nat.not_lt_zero _)
    | succ N ih4 =>
      intro k v H locs ls hMs hk hfm hl hP hD hS
      refine lv_aload_n hx hb zdM_firstRow_4 rfl (lv_at hl 0 rfl) ?_
      refine va_get (D := g.1) (ci := 6) (v := .int (nI 1)) (C := zRM) (T := zTM) (N := 19) hx hb hts ziM hown hK hP 0 rfl rfl 3 (by decide) (hts _ zlM_86) (fun _ h => h) rfl zdM_firstRow_5 ?_
      refine si_if_eq (tgt := 58) hx hb zdM_firstRow_8 rfl (by decide) (fun h8 => ?_) (fun h8 => ?_)
      · exact absurd h8 (by decide)
      · refine lv_iload_n hx hb zdM_firstRow_11 rfl (lv_at hl 2 rfl) ?_
        refine lv_aload_n hx hb zdM_firstRow_12 rfl (lv_at hl 0 rfl) ?_
        refine va_get (D := g.1) (ci := 6) (v := .int (nI t.length)) (C := zRM) (T := zTM) (N := 19) hx hb hts ziM hown hK hP 0 rfl rfl 4 (by decide) (hts _ zlM_90) (fun _ h => h) rfl zdM_firstRow_13 ?_
        refine si_icmp_gt (tgt := 58) hx hb zdM_firstRow_16 rfl (by omega) (by omega) (fun h16 => ?_) (fun h16 => ?_)
        · refine lv_iload_n hx hb zdM_firstRow_58 rfl (lv_at hl 1 rfl) ?_
          exact hret v () _ _ _ _ (rfl) (si_fm_end (by rw [show t.length + 1 = k by omega]; exact hfm)) (hP.sub [0, 1, 2, 3] rfl) (hD.sub [0, 1, 2, 3] (by decide) rfl) hS zdM_firstRow_59
        · have hrk := si_rk_le (t := t) (p := k) (by omega)
          refine lv_aload_n hx hb zdM_firstRow_19 rfl (lv_at hl 0 rfl) ?_
          refine lv_iload_n hx hb zdM_firstRow_20 rfl (lv_at hl 2 rfl) ?_
          refine (cM_occurs l g y0 mW mD mT mP mR mA mK mO mB mI mN mH mC zs ze zm ft fa t b k hok hft hb1 hfa hval (by omega)).callV (wr := [(mR, .inl (g.2.1, 61, .inl fr))]) (As := [.int (nI k)]) (rest := []) hF (si_cV 1 hts zcM_occurs zlM_103 zimM_occurs zseM_occurs ziniM zhM_occurs ⟨Nat.le_of_ble_eq_true rfl, Nat.le_of_ble_eq_true rfl⟩) hK hN hP hD hS hA [0, 1, 2] [3] rfl rfl (by decide) (by decide) (va_recv (q := (zRM, zTM, 19)) hK hP (ci := 6) (q0 := 0) rfl rfl) rfl hl.1 rfl (Nat.le_of_ble_eq_true rfl) zdM_firstRow_21 ⟨Nat.le_of_ble_eq_true rfl, Nat.le_of_ble_eq_true rfl⟩ rfl rfl (fun r_ _u H locs hq9 hP hD hS => ?_)
          subst hq9
          have hP : va_P g.1 vwCl [(mR, .inl (g.2.1, 61, .inl fr)), (y0, .inr (6, [.int zs, .ref mW, .ref mD, .int (nI 1), .int (nI t.length), .ref mT, .int ze, .ref mP, .ref mR, .int (nI b.length), .ref mA, .int zm, .ref mK, .ref mO, .ref mB, .ref mI, .ref mN, .ref mH, .ref mC])), (mT, .inl (g.2.1, 61, .inl ft)), (mA, .inl (g.2.1, 20, .inl fa))] H := hP
          have hD : va_D A [(mR, .inl (g.2.1, 61, .inl fr)), (y0, .inr (6, [.int zs, .ref mW, .ref mD, .int (nI 1), .int (nI t.length), .ref mT, .int ze, .ref mP, .ref mR, .int (nI b.length), .ref mA, .int zm, .ref mK, .ref mO, .ref mB, .ref mI, .ref mN, .ref mH, .ref mC])), (mT, .inl (g.2.1, 61, .inl ft)), (mA, .inl (g.2.1, 20, .inl fa))] := hD
          refine si_if_eq (tgt := 50) hx hb zdM_firstRow_24 rfl (si_bn _) (fun h24 => ?_) (fun h24 => ?_)
          · refine lv_iload_n hx hb zdM_firstRow_50 rfl (lv_at hl 1 rfl) ?_
            refine lv_istore_n (lv' := [(1, .int v), (0, .ref y0), (2, .int (nI k))]) hx hb zdM_firstRow_51 rfl hl (Nat.le_of_ble_eq_true rfl) rfl (fun ls hl => ?_)
            refine lv_iinc (k := 2) (v := nI (k + 1)) (lv' := [(2, .int (nI (k + 1))), (1, .int v), (0, .ref y0)]) hx hb zdM_firstRow_52 hl rfl (si_inc _) (Nat.le_of_ble_eq_true rfl) rfl (fun ls hl => ?_)
            refine lv_goto (tgt := 4) hx hb zdM_firstRow_55 rfl ?_
            exact ih4 (k + 1) v _ _ _ (by omega) (by omega) (by first | exact si_fm_no hfm (si_b0 h24) | exact si_fm_new (by omega) (by omega) hfm (si_b1 h24) (Or.inl h28) | exact si_fm_new (by omega) (by omega) hfm (si_b1 h24) (Or.inr ⟨r0, rfl, by omega, h38⟩) | exact si_fm_keep (by omega) hfm (by omega) h38) (lv_sub hl [2, 1, 0] rfl) (hP.sub [1, 2, 3, 0] rfl) (hD.sub [1, 2, 3, 0] (by decide) rfl) hS
          · refine lv_iload_n hx hb zdM_firstRow_27 rfl (lv_at hl 1 rfl) ?_
            refine lv_if_lt (tgt := 41) hx hb zdM_firstRow_28 rfl (fun h28 => ?_) (fun h28 => ?_)
            · refine lv_aload_n hx hb zdM_firstRow_41 rfl (lv_at hl 0 rfl) ?_
              refine va_get (D := g.1) (ci := 6) (v := .ref mR) (C := zRM) (T := zTM) (N := 19) hx hb hts ziM hown hK hP 1 rfl rfl 8 (by decide) (hts _ zlM_23) (fun _ h => h) rfl zdM_firstRow_42 ?_
              refine lv_iload_n hx hb zdM_firstRow_45 rfl (lv_at hl 2 rfl) ?_
              refine si_iald (v := nI (si_rk t k)) hx hb hK hP 0 0 rfl rfl (by decide) (by omega) (hfr k (by omega)) zdM_firstRow_46 ?_
              refine lv_goto (tgt := 51) hx hb zdM_firstRow_47 rfl ?_
              refine lv_istore_n (lv' := [(1, .int (nI (si_rk t k))), (0, .ref y0), (2, .int (nI k))]) hx hb zdM_firstRow_51 rfl hl (Nat.le_of_ble_eq_true rfl) rfl (fun ls hl => ?_)
              refine lv_iinc (k := 2) (v := nI (k + 1)) (lv' := [(2, .int (nI (k + 1))), (1, .int (nI (si_rk t k))), (0, .ref y0)]) hx hb zdM_firstRow_52 hl rfl (si_inc _) (Nat.le_of_ble_eq_true rfl) rfl (fun ls hl => ?_)
              refine lv_goto (tgt := 4) hx hb zdM_firstRow_55 rfl ?_
              exact ih4 (k + 1) (nI (si_rk t k)) _ _ _ (by omega) (by omega) (by first | exact si_fm_no hfm (si_b0 h24) | exact si_fm_new (by omega) (by omega) hfm (si_b1 h24) (Or.inl h28) | exact si_fm_new (by omega) (by omega) hfm (si_b1 h24) (Or.inr ⟨r0, rfl, by omega, h38⟩) | exact si_fm_keep (by omega) hfm (by omega) h38) (lv_sub hl [2, 1, 0] rfl) (hP.sub [1, 2, 3, 0] rfl) (hD.sub [1, 2, 3, 0] (by decide) rfl) hS
            · obtain ⟨r0, hr0, rfl⟩ := si_fm_r hfm h28
              refine lv_aload_n hx hb zdM_firstRow_31 rfl (lv_at hl 0 rfl) ?_
              refine va_get (D := g.1) (ci := 6) (v := .ref mR) (C := zRM) (T := zTM) (N := 19) hx hb hts ziM hown hK hP 1 rfl rfl 8 (by decide) (hts _ zlM_23) (fun _ h => h) rfl zdM_firstRow_32 ?_
              refine lv_iload_n hx hb zdM_firstRow_35 rfl (lv_at hl 2 rfl) ?_
              refine si_iald (v := nI (si_rk t k)) hx hb hK hP 0 0 rfl rfl (by decide) (by omega) (hfr k (by omega)) zdM_firstRow_36 ?_
              refine lv_iload_n hx hb zdM_firstRow_37 rfl (lv_at hl 1 rfl) ?_
              refine si_icmp_ge (tgt := 50) hx hb zdM_firstRow_38 rfl (by omega) (by omega) (fun h38 => ?_) (fun h38 => ?_)
              · refine lv_iload_n hx hb zdM_firstRow_50 rfl (lv_at hl 1 rfl) ?_
                refine lv_istore_n (lv' := [(1, .int (nI r0)), (0, .ref y0), (2, .int (nI k))]) hx hb zdM_firstRow_51 rfl hl (Nat.le_of_ble_eq_true rfl) rfl (fun ls hl => ?_)
                refine lv_iinc (k := 2) (v := nI (k + 1)) (lv' := [(2, .int (nI (k + 1))), (1, .int (nI r0)), (0, .ref y0)]) hx hb zdM_firstRow_52 hl rfl (si_inc _) (Nat.le_of_ble_eq_true rfl) rfl (fun ls hl => ?_)
                refine lv_goto (tgt := 4) hx hb zdM_firstRow_55 rfl ?_
                exact ih4 (k + 1) (nI r0) _ _ _ (by omega) (by omega) (by first | exact si_fm_no hfm (si_b0 h24) | exact si_fm_new (by omega) (by omega) hfm (si_b1 h24) (Or.inl h28) | exact si_fm_new (by omega) (by omega) hfm (si_b1 h24) (Or.inr ⟨r0, rfl, by omega, h38⟩) | exact si_fm_keep (by omega) hfm (by omega) h38) (lv_sub hl [2, 1, 0] rfl) (hP.sub [1, 2, 3, 0] rfl) (hD.sub [1, 2, 3, 0] (by decide) rfl) hS
              · refine lv_aload_n hx hb zdM_firstRow_41 rfl (lv_at hl 0 rfl) ?_
                refine va_get (D := g.1) (ci := 6) (v := .ref mR) (C := zRM) (T := zTM) (N := 19) hx hb hts ziM hown hK hP 1 rfl rfl 8 (by decide) (hts _ zlM_23) (fun _ h => h) rfl zdM_firstRow_42 ?_
                refine lv_iload_n hx hb zdM_firstRow_45 rfl (lv_at hl 2 rfl) ?_
                refine si_iald (v := nI (si_rk t k)) hx hb hK hP 0 0 rfl rfl (by decide) (by omega) (hfr k (by omega)) zdM_firstRow_46 ?_
                refine lv_goto (tgt := 51) hx hb zdM_firstRow_47 rfl ?_
                refine lv_istore_n (lv' := [(1, .int (nI (si_rk t k))), (0, .ref y0), (2, .int (nI k))]) hx hb zdM_firstRow_51 rfl hl (Nat.le_of_ble_eq_true rfl) rfl (fun ls hl => ?_)
                refine lv_iinc (k := 2) (v := nI (k + 1)) (lv' := [(2, .int (nI (k + 1))), (1, .int (nI (si_rk t k))), (0, .ref y0)]) hx hb zdM_firstRow_52 hl rfl (si_inc _) (Nat.le_of_ble_eq_true rfl) rfl (fun ls hl => ?_)
                refine lv_goto (tgt := 4) hx hb zdM_firstRow_55 rfl ?_
                exact ih4 (k + 1) (nI (si_rk t k)) _ _ _ (by omega) (by omega) (by first | exact si_fm_no hfm (si_b0 h24) | exact si_fm_new (by omega) (by omega) hfm (si_b1 h24) (Or.inl h28) | exact si_fm_new (by omega) (by omega) hfm (si_b1 h24) (Or.inr ⟨r0, rfl, by omega, h38⟩) | exact si_fm_keep (by omega) hfm (by omega) h38) (lv_sub hl [2, 1, 0] rfl) (hP.sub [1, 2, 3, 0] rfl) (hD.sub [1, 2, 3, 0] (by decide) rfl) hS
  exact L4 (t.length + 1 - 0 + 1) 0 (-1) _ _ _ (by omega) (by omega) (si_fm_0) (lv_sub hl [2, 1, 0] rfl) (hP.sub [0, 1, 2, 3] rfl) (hD.sub [0, 1, 2, 3] (by decide) rfl) hS

set_option maxHeartbeats 4000000 in
set_option maxRecDepth 100000 in
theorem cM_locate_m (l : Launch) (g : si_G) (y0 mW mD mT mP mR mA mK mO mB mI mN mH mC : Nat) (zs ze zm : Int32) (ft fa : Nat → Int32) (t b : List Nat) (q : Int32) (hok : si_ok t) (hft : ∀ x, x < t.length + 1 → ft x = nI (si_g t x)) (hb1 : b.length ≤ 20) (hfa : si_ln b fa) (hval : ∀ z ∈ b, 32 ≤ z ∧ z ≤ 126) (hq : q < 0) : si_Mi (S := Unit) l g vwCl zyM_locate zwM_locate ({ frames := 1, cells := 0, slots := 0, locals := 22 } : Room) [.ref y0, .int q] [(y0, .inr (6, [.int zs, .ref mW, .ref mD, .int (nI 1), .int (nI t.length), .ref mT, .int ze, .ref mP, .ref mR, .int (nI b.length), .ref mA, .int zm, .ref mK, .ref mO, .ref mB, .ref mI, .ref mN, .ref mH, .ref mC])), (mT, .inl (g.2.1, 61, .inl ft)), (mA, .inl (g.2.1, 20, .inl fa))] (fun r u => si_lcR t b q r) (fun u => [(y0, .inr (6, [.int zs, .ref mW, .ref mD, .int (nI 1), .int (nI t.length), .ref mT, .int ze, .ref mP, .ref mR, .int (nI b.length), .ref mA, .int zm, .ref mK, .ref mO, .ref mB, .ref mI, .ref mN, .ref mH, .ref mC])), (mT, .inl (g.2.1, 61, .inl ft)), (mA, .inl (g.2.1, 20, .inl fa))]) := by
  refine si_Mi.of (cc := zkM_locate) (maxL := 4) (by decide) rfl (Nat.le_of_ble_eq_true rfl) ?_
  intro p e s m args below meth c A Q ls hF0 hin hK hN hP hD hA hS hl hret
  obtain ⟨hx, hb, hml, hown, hts0⟩ := hF0
  have hts : ∀ w ∈ si_tbl, w.before args s = true := fun w hw => hts0 w (List.mem_cons_of_mem _ hw)
  have hF : CallFix p m c zkM_locate 4 s args si_tbl zRM := ⟨hx, hb, hml, hown, hts⟩
  have hl : lv_has ls 4 [(0, .ref y0), (1, .int q)] := hl
  refine lv_iload_n hx hb zdM_locate_0 rfl (lv_at hl 1 rfl) ?_
  refine lv_istore_n (lv' := [(2, .int q), (0, .ref y0), (1, .int q)]) hx hb zdM_locate_1 rfl hl (Nat.le_of_ble_eq_true rfl) rfl (fun ls hl => ?_)
  refine lv_iconst (v := nI 0) hx hb zdM_locate_2 (by decide) ?_
  refine lv_istore_n (lv' := [(3, .int (nI 0)), (2, .int q), (0, .ref y0), (1, .int q)]) hx hb zdM_locate_3 rfl hl (Nat.le_of_ble_eq_true rfl) rfl (fun ls hl => ?_)
  refine lv_aload_n hx hb zdM_locate_4 rfl (lv_at hl 2 rfl) ?_
  refine va_get (D := g.1) (ci := 6) (v := .int (nI 1)) (C := zRM) (T := zTM) (N := 19) hx hb hts ziM hown hK hP 0 rfl rfl 3 (by decide) (hts _ zlM_86) (fun _ h => h) rfl zdM_locate_5 ?_
  refine si_if_eq (tgt := 46) hx hb zdM_locate_8 rfl (by decide) (fun h8 => ?_) (fun h8 => ?_)
  · exact absurd h8 (by decide)
  · refine lv_iload_n hx hb zdM_locate_11 rfl (lv_at hl 3 rfl) ?_
    refine lv_if_lt (tgt := 46) hx hb zdM_locate_12 rfl (fun h12 => ?_) (fun h12 => ?_)
    · refine lv_iconst (v := -1) hx hb zdM_locate_46 (by decide) ?_
      exact hret (-1) () _ _ _ _ (rfl) (Or.inl ⟨hq, rfl⟩) (hP.sub [0, 1, 2] rfl) (hD.sub [0, 1, 2] (by decide) rfl) hS zdM_locate_47
    · exact absurd hq h12

set_option maxHeartbeats 4000000 in
set_option maxRecDepth 100000 in
theorem cM_locate_1 (l : Launch) (g : si_G) (y0 mW mD mT mP mR mA mK mO mB mI mN mH mC : Nat) (zs ze zm : Int32) (ft fa : Nat → Int32) (t b : List Nat) (j : Nat) (hok : si_ok t) (hft : ∀ x, x < t.length + 1 → ft x = nI (si_g t x)) (hb1 : b.length ≤ 20) (hfa : si_ln b fa) (hval : ∀ z ∈ b, 32 ≤ z ∧ z ≤ 126) (hj : j < 2 ^ 31) : si_Mi (S := Unit) l g vwCl zyM_locate zwM_locate ({ frames := 1, cells := 0, slots := 0, locals := 22 } : Room) [.ref y0, .int (nI j)] [(y0, .inr (6, [.int zs, .ref mW, .ref mD, .int (nI 1), .int (nI t.length), .ref mT, .int ze, .ref mP, .ref mR, .int (nI b.length), .ref mA, .int zm, .ref mK, .ref mO, .ref mB, .ref mI, .ref mN, .ref mH, .ref mC])), (mT, .inl (g.2.1, 61, .inl ft)), (mA, .inl (g.2.1, 20, .inl fa))] (fun r u => si_lcR t b (nI j) r) (fun u => [(y0, .inr (6, [.int zs, .ref mW, .ref mD, .int (nI 1), .int (nI t.length), .ref mT, .int ze, .ref mP, .ref mR, .int (nI b.length), .ref mA, .int zm, .ref mK, .ref mO, .ref mB, .ref mI, .ref mN, .ref mH, .ref mC])), (mT, .inl (g.2.1, 61, .inl ft)), (mA, .inl (g.2.1, 20, .inl fa))]) := by
  refine si_Mi.of (cc := zkM_locate) (maxL := 4) (by decide) rfl (Nat.le_of_ble_eq_true rfl) ?_
  intro p e s m args below meth c A Q ls hF0 hin hK hN hP hD hA hS hl hret
  obtain ⟨hx, hb, hml, hown, hts0⟩ := hF0
  have hts : ∀ w ∈ si_tbl, w.before args s = true := fun w hw => hts0 w (List.mem_cons_of_mem _ hw)
  have hF : CallFix p m c zkM_locate 4 s args si_tbl zRM := ⟨hx, hb, hml, hown, hts⟩
  have hl : lv_has ls 4 [(0, .ref y0), (1, .int (nI j))] := hl
  have hn := hok.1
  refine lv_iload_n hx hb zdM_locate_0 rfl (lv_at hl 1 rfl) ?_
  refine lv_istore_n (lv' := [(2, .int (nI j)), (0, .ref y0), (1, .int (nI j))]) hx hb zdM_locate_1 rfl hl (Nat.le_of_ble_eq_true rfl) rfl (fun ls hl => ?_)
  refine lv_iconst (v := nI 0) hx hb zdM_locate_2 (by decide) ?_
  refine lv_istore_n (lv' := [(3, .int (nI 0)), (2, .int (nI j)), (0, .ref y0), (1, .int (nI j))]) hx hb zdM_locate_3 rfl hl (Nat.le_of_ble_eq_true rfl) rfl (fun ls hl => ?_)
  have L4 : ∀ (N : Nat) (k : Nat) (lf : Nat) (H : Heap) (locs : List Loc) (ls : Array Slot), t.length + 1 - k < N → (k ≤ t.length + 1) → (lf + si_cn k (si_oc t b) = j) → lv_has ls 4 [(0, .ref y0), (1, .int (nI j)), (2, .int (nI lf)), (3, .int (nI k))] → va_P g.1 vwCl [(y0, .inr (6, [.int zs, .ref mW, .ref mD, .int (nI 1), .int (nI t.length), .ref mT, .int ze, .ref mP, .ref mR, .int (nI b.length), .ref mA, .int zm, .ref mK, .ref mO, .ref mB, .ref mI, .ref mN, .ref mH, .ref mC])), (mT, .inl (g.2.1, 61, .inl ft)), (mA, .inl (g.2.1, 20, .inl fa))] H → va_D A [(y0, .inr (6, [.int zs, .ref mW, .ref mD, .int (nI 1), .int (nI t.length), .ref mT, .int ze, .ref mP, .ref mR, .int (nI b.length), .ref mA, .int zm, .ref mK, .ref mO, .ref mB, .ref mI, .ref mN, .ref mH, .ref mC])), (mT, .inl (g.2.1, 61, .inl ft)), (mA, .inl (g.2.1, 20, .inl fa))] → va_S A s.heap H locs → W p l e ({ frames := 1, cells := 0, slots := 0, locals := 22 } : Room) s m args below meth c H locs 0 0 Q (F0 m 4 ls []) := by
    intro N
    induction N with
    | zero => intro k lf H locs ls hMs; exact absurd hMs (Nat.not_lt_zero _)
    | succ N ih4 =>
      intro k lf H locs ls hMs hk hlf hl hP hD hS
      refine lv_aload_n hx hb zdM_locate_4 rfl (lv_at hl 0 rfl) ?_
      refine va_get (D := g.1) (ci := 6) (v := .int (nI 1)) (C := zRM) (T := zTM) (N := 19) hx hb hts ziM hown hK hP 0 rfl rfl 3 (by decide) (hts _ zlM_86) (fun _ h => h) rfl zdM_locate_5 ?_
      refine si_if_eq (tgt := 46) hx hb zdM_locate_8 rfl (by decide) (fun h8 => ?_) (fun h8 => ?_)
      · exact absurd h8 (by decide)
      · refine lv_iload_n hx hb zdM_locate_11 rfl (lv_at hl 1 rfl) ?_
        refine si_if_lt (tgt := 46) hx hb zdM_locate_12 rfl (by omega) ?_
        refine lv_iload_n hx hb zdM_locate_15 rfl (lv_at hl 3 rfl) ?_
        refine lv_aload_n hx hb zdM_locate_16 rfl (lv_at hl 0 rfl) ?_
        refine va_get (D := g.1) (ci := 6) (v := .int (nI t.length)) (C := zRM) (T := zTM) (N := 19) hx hb hts ziM hown hK hP 0 rfl rfl 4 (by decide) (hts _ zlM_90) (fun _ h => h) rfl zdM_locate_17 ?_
        refine si_icmp_gt (tgt := 46) hx hb zdM_locate_20 rfl (by omega) (by omega) (fun h20 => ?_) (fun h20 => ?_)
        · refine lv_iconst (v := -1) hx hb zdM_locate_46 (by decide) ?_
          exact hret (-1) () _ _ _ _ (rfl) (Or.inr ⟨j, hj, rfl, Or.inl ⟨rfl, by rw [show t.length + 1 = k by omega]; omega⟩⟩) (hP.sub [0, 1, 2] rfl) (hD.sub [0, 1, 2] (by decide) rfl) hS zdM_locate_47
        · refine lv_aload_n hx hb zdM_locate_23 rfl (lv_at hl 0 rfl) ?_
          refine lv_iload_n hx hb zdM_locate_24 rfl (lv_at hl 3 rfl) ?_
          refine (cM_occurs l g y0 mW mD mT mP mR mA mK mO mB mI mN mH mC zs ze zm ft fa t b k hok hft hb1 hfa hval (by omega)).callV (wr := []) (As := [.int (nI k)]) (rest := []) hF (si_cV 1 hts zcM_occurs zlM_103 zimM_occurs zseM_occurs ziniM zhM_occurs ⟨Nat.le_of_ble_eq_true rfl, Nat.le_of_ble_eq_true rfl⟩) hK hN hP hD hS hA [0, 1, 2] [] rfl rfl (by decide) (by decide) (va_recv (q := (zRM, zTM, 19)) hK hP (ci := 6) (q0 := 0) rfl rfl) rfl hl.1 rfl (Nat.le_of_ble_eq_true rfl) zdM_locate_25 ⟨Nat.le_of_ble_eq_true rfl, Nat.le_of_ble_eq_true rfl⟩ rfl rfl (fun r_ _u H locs hq9 hP hD hS => ?_)
          subst hq9
          have hP : va_P g.1 vwCl [(y0, .inr (6, [.int zs, .ref mW, .ref mD, .int (nI 1), .int (nI t.length), .ref mT, .int ze, .ref mP, .ref mR, .int (nI b.length), .ref mA, .int zm, .ref mK, .ref mO, .ref mB, .ref mI, .ref mN, .ref mH, .ref mC])), (mT, .inl (g.2.1, 61, .inl ft)), (mA, .inl (g.2.1, 20, .inl fa))] H := hP
          have hD : va_D A [(y0, .inr (6, [.int zs, .ref mW, .ref mD, .int (nI 1), .int (nI t.length), .ref mT, .int ze, .ref mP, .ref mR, .int (nI b.length), .ref mA, .int zm, .ref mK, .ref mO, .ref mB, .ref mI, .ref mN, .ref mH, .ref mC])), (mT, .inl (g.2.1, 61, .inl ft)), (mA, .inl (g.2.1, 20, .inl fa))] := hD
          refine si_if_eq (tgt := 40) hx hb zdM_locate_28 rfl (si_bn _) (fun h28 => ?_) (fun h28 => ?_)
          · refine lv_iinc (k := 3) (v := nI (k + 1)) (lv' := [(3, .int (nI (k + 1))), (0, .ref y0), (1, .int (nI j)), (2, .int (nI lf))]) hx hb zdM_locate_40 hl rfl (si_inc _) (Nat.le_of_ble_eq_true rfl) rfl (fun ls hl => ?_)
            refine lv_goto (tgt := 4) hx hb zdM_locate_43 rfl ?_
            exact ih4 (k + 1) lf _ _ _ (by omega) (by omega) (by first | (rw [si_cn_t (si_b1 h28)]; omega) | (rw [si_cn_f (si_b0 h28)]; exact hlf)) (lv_sub hl [1, 2, 3, 0] rfl) (hP.sub [0, 1, 2] rfl) (hD.sub [0, 1, 2] (by decide) rfl) hS
          · refine lv_iload_n hx hb zdM_locate_31 rfl (lv_at hl 2 rfl) ?_
            refine si_if_ne (tgt := 37) hx hb zdM_locate_32 rfl (by omega) (fun h32 => ?_) (fun h32 => ?_)
            · refine lv_iinc (k := 2) (v := nI (lf - 1)) (lv' := [(2, .int (nI (lf - 1))), (0, .ref y0), (1, .int (nI j)), (3, .int (nI k))]) hx hb zdM_locate_37 hl rfl (si_dec (by omega)) (Nat.le_of_ble_eq_true rfl) rfl (fun ls hl => ?_)
              refine lv_iinc (k := 3) (v := nI (k + 1)) (lv' := [(3, .int (nI (k + 1))), (2, .int (nI (lf - 1))), (0, .ref y0), (1, .int (nI j))]) hx hb zdM_locate_40 hl rfl (si_inc _) (Nat.le_of_ble_eq_true rfl) rfl (fun ls hl => ?_)
              refine lv_goto (tgt := 4) hx hb zdM_locate_43 rfl ?_
              exact ih4 (k + 1) (lf - 1) _ _ _ (by omega) (by omega) (by first | (rw [si_cn_t (si_b1 h28)]; omega) | (rw [si_cn_f (si_b0 h28)]; exact hlf)) (lv_sub hl [2, 3, 1, 0] rfl) (hP.sub [0, 1, 2] rfl) (hD.sub [0, 1, 2] (by decide) rfl) hS
            · refine lv_iload_n hx hb zdM_locate_35 rfl (lv_at hl 3 rfl) ?_
              exact hret (nI k) () _ _ _ _ (rfl) (Or.inr ⟨j, hj, rfl, Or.inr ⟨k, by omega, rfl, si_b1 h28, by omega⟩⟩) (hP.sub [0, 1, 2] rfl) (hD.sub [0, 1, 2] (by decide) rfl) hS zdM_locate_36
  exact L4 (t.length + 1 - 0 + 1) 0 j _ _ _ (by omega) (by omega) (rfl) (lv_sub hl [2, 3, 1, 0] rfl) (hP.sub [0, 1, 2] rfl) (hD.sub [0, 1, 2] (by decide) rfl) hS

set_option maxHeartbeats 4000000 in
set_option maxRecDepth 100000 in
theorem cM_variety_1 (l : Launch) (g : si_G) (y0 mW mD mT mP mR mA mK mO mB mI mN mH mC : Nat) (zs ze zm : Int32) (ft fa : Nat → Int32) (t b : List Nat) (hok : si_ok t) (hft : ∀ x, x < t.length + 1 → ft x = nI (si_g t x)) (hb1 : b.length ≤ 20) (hfa : si_ln b fa) (hval : ∀ z ∈ b, 32 ≤ z ∧ z ≤ 126) : si_Mi (S := Unit) l g vwCl zyM_variety zwM_variety ({ frames := 1, cells := 0, slots := 0, locals := 22 } : Room) [.ref y0] [(y0, .inr (6, [.int zs, .ref mW, .ref mD, .int (nI 1), .int (nI t.length), .ref mT, .int ze, .ref mP, .ref mR, .int (nI b.length), .ref mA, .int zm, .ref mK, .ref mO, .ref mB, .ref mI, .ref mN, .ref mH, .ref mC])), (mT, .inl (g.2.1, 61, .inl ft)), (mA, .inl (g.2.1, 20, .inl fa))] (fun r u => r = nI (si_va t b)) (fun u => [(y0, .inr (6, [.int zs, .ref mW, .ref mD, .int (nI 1), .int (nI t.length), .ref mT, .int ze, .ref mP, .ref mR, .int (nI b.length), .ref mA, .int zm, .ref mK, .ref mO, .ref mB, .ref mI, .ref mN, .ref mH, .ref mC])), (mT, .inl (g.2.1, 61, .inl ft)), (mA, .inl (g.2.1, 20, .inl fa))]) := by
  refine si_Mi.of (cc := zkM_variety) (maxL := 5) (by decide) rfl (Nat.le_of_ble_eq_true rfl) ?_
  intro p e s m args below meth c A Q ls hF0 hin hK hN hP hD hA hS hl hret
  obtain ⟨hx, hb, hml, hown, hts0⟩ := hF0
  have hts : ∀ w ∈ si_tbl, w.before args s = true := fun w hw => hts0 w (List.mem_cons_of_mem _ hw)
  have hF : CallFix p m c zkM_variety 5 s args si_tbl zRM := ⟨hx, hb, hml, hown, hts⟩
  have hl : lv_has ls 5 [(0, .ref y0)] := hl
  have hn := hok.1
  refine lv_iconst (v := nI 0) hx hb zdM_variety_0 (by decide) ?_
  refine lv_istore_n (lv' := [(1, .int (nI 0)), (0, .ref y0)]) hx hb zdM_variety_1 rfl hl (Nat.le_of_ble_eq_true rfl) rfl (fun ls hl => ?_)
  refine lv_bipush (v := nI 32) hx hb zdM_variety_2 (by decide) ?_
  refine lv_istore_n (lv' := [(2, .int (nI 32)), (1, .int (nI 0)), (0, .ref y0)]) hx hb zdM_variety_4 rfl hl (Nat.le_of_ble_eq_true rfl) rfl (fun ls hl => ?_)
  have L5 : ∀ (N : Nat) (x : Nat) (d : Nat) (H : Heap) (locs : List Loc) (ls : Array Slot), 127 - x < N → (32 ≤ x) → (x ≤ 127) → (d = si_cn x (fun x => decide (32 ≤ x) && si_fo t b x)) → lv_has ls 5 [(0, .ref y0), (1, .int (nI d)), (2, .int (nI x))] → va_P g.1 vwCl [(y0, .inr (6, [.int zs, .ref mW, .ref mD, .int (nI 1), .int (nI t.length), .ref mT, .int ze, .ref mP, .ref mR, .int (nI b.length), .ref mA, .int zm, .ref mK, .ref mO, .ref mB, .ref mI, .ref mN, .ref mH, .ref mC])), (mT, .inl (g.2.1, 61, .inl ft)), (mA, .inl (g.2.1, 20, .inl fa))] H → va_D A [(y0, .inr (6, [.int zs, .ref mW, .ref mD, .int (nI 1), .int (nI t.length), .ref mT, .int ze, .ref mP, .ref mR, .int (nI b.length), .ref mA, .int zm, .ref mK, .ref mO, .ref mB, .ref mI, .ref mN, .ref mH, .ref mC])), (mT, .inl (g.2.1, 61, .inl ft)), (mA, .inl (g.2.1, 20, .inl fa))] → va_S A s.heap H locs → W p l e ({ frames := 1, cells := 0, slots := 0, locals := 22 } : Room) s m args below meth c H locs 0 0 Q (F0 m 5 ls []) := by
    intro N
    induction N with
    | zero => intro x d H locs ls hMs; exact absurd hMs (Nat.not_lt_zero _)
    | succ N ih5 =>
      intro x d H locs ls hMs hx1 hx2 hd hl hP hD hS
      refine lv_iload_n hx hb zdM_variety_5 rfl (lv_at hl 2 rfl) ?_
      refine lv_bipush (v := nI 127) hx hb zdM_variety_6 (by decide) ?_
      refine si_icmp_ge (tgt := 88) hx hb zdM_variety_8 rfl (by omega) (by decide) (fun h8 => ?_) (fun h8 => ?_)
      · refine lv_aload_n hx hb zdM_variety_88 rfl (lv_at hl 0 rfl) ?_
        refine va_get (D := g.1) (ci := 6) (v := .int (nI 1)) (C := zRM) (T := zTM) (N := 19) hx hb hts ziM hown hK hP 0 rfl rfl 3 (by decide) (hts _ zlM_86) (fun _ h => h) rfl zdM_variety_89 ?_
        refine si_if_eq (tgt := 99) hx hb zdM_variety_92 rfl (by decide) (fun h92 => ?_) (fun h92 => ?_)
        · exact absurd h92 (by decide)
        · refine lv_iload_n hx hb zdM_variety_95 rfl (lv_at hl 1 rfl) ?_
          refine lv_goto (tgt := 100) hx hb zdM_variety_96 rfl ?_
          exact hret (nI d) () _ _ _ _ (rfl) (by rw [hd, show x = 127 by omega]; rfl) (hP.sub [0, 1, 2] rfl) (hD.sub [0, 1, 2] (by decide) rfl) hS zdM_variety_100
      · refine lv_aload_n hx hb zdM_variety_11 rfl (lv_at hl 0 rfl) ?_
        refine va_get (D := g.1) (ci := 6) (v := .int (nI 1)) (C := zRM) (T := zTM) (N := 19) hx hb hts ziM hown hK hP 0 rfl rfl 3 (by decide) (hts _ zlM_86) (fun _ h => h) rfl zdM_variety_12 ?_
        refine si_if_eq (tgt := 88) hx hb zdM_variety_15 rfl (by decide) (fun h15 => ?_) (fun h15 => ?_)
        · exact absurd h15 (by decide)
        · refine lv_iconst (v := nI 0) hx hb zdM_variety_18 (by decide) ?_
          refine lv_istore_n (lv' := [(3, .int (nI 0)), (0, .ref y0), (1, .int (nI d)), (2, .int (nI x))]) hx hb zdM_variety_19 rfl hl (Nat.le_of_ble_eq_true rfl) rfl (fun ls hl => ?_)
          refine lv_iconst (v := nI 1) hx hb zdM_variety_20 (by decide) ?_
          refine lv_istore (lv' := [(4, .int (nI 1)), (3, .int (nI 0)), (0, .ref y0), (1, .int (nI d)), (2, .int (nI x))]) hx hb zdM_variety_21 hl (Nat.le_of_ble_eq_true rfl) rfl (fun ls hl => ?_)
          have L23 : ∀ (N : Nat) (k : Nat) (fd : Nat) (H : Heap) (locs : List Loc) (ls : Array Slot), t.length + 1 - k < N → (1 ≤ k) → (k ≤ t.length + 1) → (fd = (si_fK t b (k - 1) x).toNat) → lv_has ls 5 [(0, .ref y0), (1, .int (nI d)), (2, .int (nI x)), (3, .int (nI fd)), (4, .int (nI k))] → va_P g.1 vwCl [(y0, .inr (6, [.int zs, .ref mW, .ref mD, .int (nI 1), .int (nI t.length), .ref mT, .int ze, .ref mP, .ref mR, .int (nI b.length), .ref mA, .int zm, .ref mK, .ref mO, .ref mB, .ref mI, .ref mN, .ref mH, .ref mC])), (mT, .inl (g.2.1, 61, .inl ft)), (mA, .inl (g.2.1, 20, .inl fa))] H → va_D A [(y0, .inr (6, [.int zs, .ref mW, .ref mD, .int (nI 1), .int (nI t.length), .ref mT, .int ze, .ref mP, .ref mR, .int (nI b.length), .ref mA, .int zm, .ref mK, .ref mO, .ref mB, .ref mI, .ref mN, .ref mH, .ref mC])), (mT, .inl (g.2.1, 61, .inl ft)), (mA, .inl (g.2.1, 20, .inl fa))] → va_S A s.heap H locs → W p l e ({ frames := 1, cells := 0, slots := 0, locals := 22 } : Room) s m args below meth c H locs 0 0 Q (F0 m 23 ls []) := by
            intro N
            induction N with
            | zero => intro k fd H locs ls hMs; exact absurd hMs (Nat.not_lt_zero _)
            | succ N ih23 =>
              intro k fd H locs ls hMs hk1 hk hfd hl hP hD hS
              refine lv_iload hx hb zdM_variety_23 (lv_at hl 4 rfl) ?_
              refine lv_aload_n hx hb zdM_variety_25 rfl (lv_at hl 0 rfl) ?_
              refine va_get (D := g.1) (ci := 6) (v := .int (nI t.length)) (C := zRM) (T := zTM) (N := 19) hx hb hts ziM hown hK hP 0 rfl rfl 4 (by decide) (hts _ zlM_90) (fun _ h => h) rfl zdM_variety_26 ?_
              refine si_icmp_gt (tgt := 70) hx hb zdM_variety_29 rfl (by omega) (by omega) (fun h29 => ?_) (fun h29 => ?_)
              · have hke : k - 1 = t.length := by omega
                rw [hke] at hfd
                subst hfd
                have hft2 : si_fK t b t.length x = true → si_fo t b x = true := id
                have hff2 : si_fK t b t.length x = false → si_fo t b x = false := id
                refine lv_iload_n hx hb zdM_variety_70 rfl (lv_at hl 3 rfl) ?_
                refine si_if_eq (tgt := 80) hx hb zdM_variety_71 rfl (si_bn _) (fun h71 => ?_) (fun h71 => ?_)
                · refine lv_iload_n hx hb zdM_variety_80 rfl (lv_at hl 1 rfl) ?_
                  refine lv_istore_n (lv' := [(1, .int (nI d)), (0, .ref y0), (2, .int (nI x)), (3, .int (nI ((si_fK t b t.length x).toNat))), (4, .int (nI k))]) hx hb zdM_variety_81 rfl hl (Nat.le_of_ble_eq_true rfl) rfl (fun ls hl => ?_)
                  refine lv_iinc (k := 2) (v := nI (x + 1)) (lv' := [(2, .int (nI (x + 1))), (1, .int (nI d)), (0, .ref y0), (3, .int (nI ((si_fK t b t.length x).toNat))), (4, .int (nI k))]) hx hb zdM_variety_82 hl rfl (si_inc _) (Nat.le_of_ble_eq_true rfl) rfl (fun ls hl => ?_)
                  refine lv_goto (tgt := 5) hx hb zdM_variety_85 rfl ?_
                  exact ih5 (x + 1) d _ _ _ (by omega) (by omega) (by omega) (by first | (rw [si_cn_t (P := (fun x => decide (32 ≤ x) && si_fo t b x)) (by rw [hft2 (si_b1 h71), Bool.and_true]; exact decide_eq_true hx1), hd]; done) | (rw [si_cn_f (P := (fun x => decide (32 ≤ x) && si_fo t b x)) (by rw [hff2 (si_b0 h71), Bool.and_false]), hd]; done)) (lv_sub hl [2, 1, 0] rfl) (hP.sub [0, 1, 2] rfl) (hD.sub [0, 1, 2] (by decide) rfl) hS
                · refine lv_iload_n hx hb zdM_variety_74 rfl (lv_at hl 1 rfl) ?_
                  refine lv_iconst (v := nI 1) hx hb zdM_variety_75 (by decide) ?_
                  refine si_iadd (v := nI (d + 1)) hx hb zdM_variety_76 (nI_add _ _) ?_
                  refine lv_goto (tgt := 81) hx hb zdM_variety_77 rfl ?_
                  refine lv_istore_n (lv' := [(1, .int (nI (d + 1))), (0, .ref y0), (2, .int (nI x)), (3, .int (nI ((si_fK t b t.length x).toNat))), (4, .int (nI k))]) hx hb zdM_variety_81 rfl hl (Nat.le_of_ble_eq_true rfl) rfl (fun ls hl => ?_)
                  refine lv_iinc (k := 2) (v := nI (x + 1)) (lv' := [(2, .int (nI (x + 1))), (1, .int (nI (d + 1))), (0, .ref y0), (3, .int (nI ((si_fK t b t.length x).toNat))), (4, .int (nI k))]) hx hb zdM_variety_82 hl rfl (si_inc _) (Nat.le_of_ble_eq_true rfl) rfl (fun ls hl => ?_)
                  refine lv_goto (tgt := 5) hx hb zdM_variety_85 rfl ?_
                  exact ih5 (x + 1) (d + 1) _ _ _ (by omega) (by omega) (by omega) (by first | (rw [si_cn_t (P := (fun x => decide (32 ≤ x) && si_fo t b x)) (by rw [hft2 (si_b1 h71), Bool.and_true]; exact decide_eq_true hx1), hd]; done) | (rw [si_cn_f (P := (fun x => decide (32 ≤ x) && si_fo t b x)) (by rw [hff2 (si_b0 h71), Bool.and_false]), hd]; done)) (lv_sub hl [2, 1, 0] rfl) (hP.sub [0, 1, 2] rfl) (hD.sub [0, 1, 2] (by decide) rfl) hS
              · subst hfd
                refine lv_iload_n hx hb zdM_variety_32 rfl (lv_at hl 3 rfl) ?_
                refine si_if_ne (tgt := 58) hx hb zdM_variety_33 rfl (si_bn _) (fun h33 => ?_) (fun h33 => ?_)
                · refine lv_iconst (v := nI 1) hx hb zdM_variety_58 (by decide) ?_
                  refine lv_goto (tgt := 63) hx hb zdM_variety_59 rfl ?_
                  refine lv_istore_n (lv' := [(3, .int (nI 1)), (0, .ref y0), (1, .int (nI d)), (2, .int (nI x)), (4, .int (nI k))]) hx hb zdM_variety_63 rfl hl (Nat.le_of_ble_eq_true rfl) rfl (fun ls hl => ?_)
                  refine lv_iinc (k := 4) (v := nI (k + 1)) (lv' := [(4, .int (nI (k + 1))), (3, .int (nI 1)), (0, .ref y0), (1, .int (nI d)), (2, .int (nI x))]) hx hb zdM_variety_64 hl rfl (si_inc _) (Nat.le_of_ble_eq_true rfl) rfl (fun ls hl => ?_)
                  refine lv_goto (tgt := 23) hx hb zdM_variety_67 rfl ?_
                  exact ih23 (k + 1) 1 _ _ _ (by omega) (by omega) (by omega) (by first | exact (si_bt1 (si_fKC hk1 (si_b1 h33))).symm | exact (si_bt1 (si_fKA hk1 h46 (si_b1 h55))).symm | exact (si_bt0 (si_fKB hk1 (si_b0 h33) (si_b0 h55))).symm | exact (si_bt0 (si_fKD hk1 (si_b0 h33) h46)).symm) (lv_sub hl [2, 3, 4, 1, 0] rfl) (hP.sub [0, 1, 2] rfl) (hD.sub [0, 1, 2] (by decide) rfl) hS
                · refine lv_aload_n hx hb zdM_variety_36 rfl (lv_at hl 0 rfl) ?_
                  refine va_get (D := g.1) (ci := 6) (v := .ref mT) (C := zRM) (T := zTM) (N := 19) hx hb hts ziM hown hK hP 0 rfl rfl 5 (by decide) (hts _ zlM_17) (fun _ h => h) rfl zdM_variety_37 ?_
                  refine lv_iload hx hb zdM_variety_40 (lv_at hl 4 rfl) ?_
                  refine lv_iconst (v := nI 1) hx hb zdM_variety_42 (by decide) ?_
                  refine si_isub (v := nI (k - 1)) hx hb zdM_variety_43 (pk_sub (by omega)) ?_
                  refine si_iald (v := nI (si_g t (k - 1))) hx hb hK hP 1 0 rfl rfl (by decide) (by omega) (hft (k - 1) (by omega)) zdM_variety_44 ?_
                  refine lv_iload_n hx hb zdM_variety_45 rfl (lv_at hl 2 rfl) ?_
                  refine si_icmp_ne (tgt := 62) hx hb zdM_variety_46 rfl (by first | omega | exact si_g_lt hok.2) (by first | omega | exact si_g_lt hok.2) (fun h46 => ?_) (fun h46 => ?_)
                  · refine lv_iconst (v := nI 0) hx hb zdM_variety_62 (by decide) ?_
                    refine lv_istore_n (lv' := [(3, .int (nI 0)), (0, .ref y0), (1, .int (nI d)), (2, .int (nI x)), (4, .int (nI k))]) hx hb zdM_variety_63 rfl hl (Nat.le_of_ble_eq_true rfl) rfl (fun ls hl => ?_)
                    refine lv_iinc (k := 4) (v := nI (k + 1)) (lv' := [(4, .int (nI (k + 1))), (3, .int (nI 0)), (0, .ref y0), (1, .int (nI d)), (2, .int (nI x))]) hx hb zdM_variety_64 hl rfl (si_inc _) (Nat.le_of_ble_eq_true rfl) rfl (fun ls hl => ?_)
                    refine lv_goto (tgt := 23) hx hb zdM_variety_67 rfl ?_
                    exact ih23 (k + 1) 0 _ _ _ (by omega) (by omega) (by omega) (by first | exact (si_bt1 (si_fKC hk1 (si_b1 h33))).symm | exact (si_bt1 (si_fKA hk1 h46 (si_b1 h55))).symm | exact (si_bt0 (si_fKB hk1 (si_b0 h33) (si_b0 h55))).symm | exact (si_bt0 (si_fKD hk1 (si_b0 h33) h46)).symm) (lv_sub hl [2, 3, 4, 1, 0] rfl) (hP.sub [0, 1, 2] rfl) (hD.sub [0, 1, 2] (by decide) rfl) hS
                  · refine lv_aload_n hx hb zdM_variety_49 rfl (lv_at hl 0 rfl) ?_
                    refine lv_iload hx hb zdM_variety_50 (lv_at hl 4 rfl) ?_
                    refine (cM_occurs l g y0 mW mD mT mP mR mA mK mO mB mI mN mH mC zs ze zm ft fa t b k hok hft hb1 hfa hval (by omega)).callV (wr := []) (As := [.int (nI k)]) (rest := []) hF (si_cV 1 hts zcM_occurs zlM_103 zimM_occurs zseM_occurs ziniM zhM_occurs ⟨Nat.le_of_ble_eq_true rfl, Nat.le_of_ble_eq_true rfl⟩) hK hN hP hD hS hA [0, 1, 2] [] rfl rfl (by decide) (by decide) (va_recv (q := (zRM, zTM, 19)) hK hP (ci := 6) (q0 := 0) rfl rfl) rfl hl.1 rfl (Nat.le_of_ble_eq_true rfl) zdM_variety_52 ⟨Nat.le_of_ble_eq_true rfl, Nat.le_of_ble_eq_true rfl⟩ rfl rfl (fun r_ _u H locs hq9 hP hD hS => ?_)
                    subst hq9
                    have hP : va_P g.1 vwCl [(y0, .inr (6, [.int zs, .ref mW, .ref mD, .int (nI 1), .int (nI t.length), .ref mT, .int ze, .ref mP, .ref mR, .int (nI b.length), .ref mA, .int zm, .ref mK, .ref mO, .ref mB, .ref mI, .ref mN, .ref mH, .ref mC])), (mT, .inl (g.2.1, 61, .inl ft)), (mA, .inl (g.2.1, 20, .inl fa))] H := hP
                    have hD : va_D A [(y0, .inr (6, [.int zs, .ref mW, .ref mD, .int (nI 1), .int (nI t.length), .ref mT, .int ze, .ref mP, .ref mR, .int (nI b.length), .ref mA, .int zm, .ref mK, .ref mO, .ref mB, .ref mI, .ref mN, .ref mH, .ref mC])), (mT, .inl (g.2.1, 61, .inl ft)), (mA, .inl (g.2.1, 20, .inl fa))] := hD
                    refine si_if_eq (tgt := 62) hx hb zdM_variety_55 rfl (si_bn _) (fun h55 => ?_) (fun h55 => ?_)
                    · refine lv_iconst (v := nI 0) hx hb zdM_variety_62 (by decide) ?_
                      refine lv_istore_n (lv' := [(3, .int (nI 0)), (0, .ref y0), (1, .int (nI d)), (2, .int (nI x)), (4, .int (nI k))]) hx hb zdM_variety_63 rfl hl (Nat.le_of_ble_eq_true rfl) rfl (fun ls hl => ?_)
                      refine lv_iinc (k := 4) (v := nI (k + 1)) (lv' := [(4, .int (nI (k + 1))), (3, .int (nI 0)), (0, .ref y0), (1, .int (nI d)), (2, .int (nI x))]) hx hb zdM_variety_64 hl rfl (si_inc _) (Nat.le_of_ble_eq_true rfl) rfl (fun ls hl => ?_)
                      refine lv_goto (tgt := 23) hx hb zdM_variety_67 rfl ?_
                      exact ih23 (k + 1) 0 _ _ _ (by omega) (by omega) (by omega) (by first | exact (si_bt1 (si_fKC hk1 (si_b1 h33))).symm | exact (si_bt1 (si_fKA hk1 h46 (si_b1 h55))).symm | exact (si_bt0 (si_fKB hk1 (si_b0 h33) (si_b0 h55))).symm | exact (si_bt0 (si_fKD hk1 (si_b0 h33) h46)).symm) (lv_sub hl [2, 3, 4, 1, 0] rfl) (hP.sub [0, 1, 2] rfl) (hD.sub [0, 1, 2] (by decide) rfl) hS
                    · refine lv_iconst (v := nI 1) hx hb zdM_variety_58 (by decide) ?_
                      refine lv_goto (tgt := 63) hx hb zdM_variety_59 rfl ?_
                      refine lv_istore_n (lv' := [(3, .int (nI 1)), (0, .ref y0), (1, .int (nI d)), (2, .int (nI x)), (4, .int (nI k))]) hx hb zdM_variety_63 rfl hl (Nat.le_of_ble_eq_true rfl) rfl (fun ls hl => ?_)
                      refine lv_iinc (k := 4) (v := nI (k + 1)) (lv' := [(4, .int (nI (k + 1))), (3, .int (nI 1)), (0, .ref y0), (1, .int (nI d)), (2, .int (nI x))]) hx hb zdM_variety_64 hl rfl (si_inc _) (Nat.le_of_ble_eq_true rfl) rfl (fun ls hl => ?_)
                      refine lv_goto (tgt := 23) hx hb zdM_variety_67 rfl ?_
                      exact ih23 (k + 1) 1 _ _ _ (by omega) (by omega) (by omega) (by first | exact (si_bt1 (si_fKC hk1 (si_b1 h33))).symm | exact (si_bt1 (si_fKA hk1 h46 (si_b1 h55))).symm | exact (si_bt0 (si_fKB hk1 (si_b0 h33) (si_b0 h55))).symm | exact (si_bt0 (si_fKD hk1 (si_b0 h33) h46)).symm) (lv_sub hl [2, 3, 4, 1, 0] rfl) (hP.sub [0, 1, 2] rfl) (hD.sub [0, 1, 2] (by decide) rfl) hS
          exact L23 (t.length + 1 - 1 + 1) 1 0 _ _ _ (by omega) (by omega) (by omega) (rfl) (lv_sub hl [2, 3, 4, 1, 0] rfl) (hP.sub [0, 1, 2] rfl) (hD.sub [0, 1, 2] (by decide) rfl) hS
  exact L5 (127 - 32 + 1) 32 0 _ _ _ (by omega) (by omega) (by omega) (si_va0.symm) (lv_sub hl [2, 1, 0] rfl) (hP.sub [0, 1, 2] rfl) (hD.sub [0, 1, 2] (by decide) rfl) hS

