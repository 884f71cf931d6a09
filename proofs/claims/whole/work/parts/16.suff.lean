/-! Contracts of the Suffixes. Written by wip/draft/p16.py -/
theorem si_sm_eq {t : List Nat} {q k : Nat} (hq : q < t.length) (hp : k < t.length) (he : si_g t q = si_g t k) : si_sf t q k = si_sf t (q + 1) (k + 1) := by
  rw [si_sf_s hq hp, he]
  simp
theorem si_sm_lt {t : List Nat} {q k : Nat} (hq : q ≤ t.length) (hp : k < t.length) (h : si_g t q < si_g t k) : si_sf t q k = true := by
  by_cases e : q = t.length
  · subst e; exact si_sf_e hp
  · rw [si_sf_s (by omega) hp]
    simp [h]
theorem si_sm_gt {t : List Nat} {q k : Nat} (hq : q ≤ t.length) (hp : k < t.length) (h : si_g t k < si_g t q) : si_sf t q k = false := by
  by_cases e : q = t.length
  · rw [e, si_g_out (Nat.le_refl _)] at h
    omega
  · rw [si_sf_s (by omega) hp]
    have h1 : ¬ si_g t q < si_g t k := by omega
    have h2 : ¬ si_g t q = si_g t k := by omega
    simp [h1, h2]
theorem si_cnA {n lo : Nat} {F : Nat → Bool} (h : lo ≤ n) (hF : F n = true) : si_cn (n + 1) (fun x => decide (lo ≤ x) && F x) = si_cn n (fun x => decide (lo ≤ x) && F x) + 1 := si_cn_t (by rw [hF, Bool.and_true]; exact decide_eq_true h)
theorem si_cnB {n lo : Nat} {F : Nat → Bool} (hF : F n = false) : si_cn (n + 1) (fun x => decide (lo ≤ x) && F x) = si_cn n (fun x => decide (lo ≤ x) && F x) := si_cn_f (by rw [hF, Bool.and_false])
theorem si_cnC {n : Nat} {F : Nat → Bool} : si_cn n (fun x => decide (n ≤ x) && F x) = 0 := si_cn_0 (fun x hx => by
  have : decide (n ≤ x) = false := decide_eq_false (by omega)
  rw [this, Bool.false_and])
theorem si_insA {t : List Nat} {kp q row : Nat} {f : Nat → Int32} (hrow : row = si_rr t (kp + 1) kp) (hq : kp + 1 ≤ q) (hn : q ≤ t.length) (hA : ∀ x, kp + 1 ≤ x → x < q → f x = nI (si_rr t kp x)) (hB : f q = nI (si_rr t (kp + 1) q)) (h : si_rr t (kp + 1) q < row) : ∀ x, kp + 1 ≤ x → x < q + 1 → f x = nI (si_rr t kp x) := by
  intro x h1 h2
  by_cases e : x = q
  · subst e
    rw [hB, si_rr_in (p := kp) (q := x) (by omega) hn, if_neg (by omega)]
    rfl
  · exact hA x h1 (by omega)
theorem si_insB {t : List Nat} {kp q row : Nat} {f : Nat → Int32} (hrow : row = si_rr t (kp + 1) kp) (hq : kp + 1 ≤ q) (hn : q ≤ t.length) (hA : ∀ x, kp + 1 ≤ x → x < q → f x = nI (si_rr t kp x)) (h : row ≤ si_rr t (kp + 1) q) : ∀ x, kp + 1 ≤ x → x < q + 1 → upd f q (nI (si_rr t (kp + 1) q + 1)) x = nI (si_rr t kp x) := by
  intro x h1 h2
  by_cases e : x = q
  · subst e
    rw [pk_us, si_rr_in (p := kp) (q := x) (by omega) hn, if_pos (by omega)]
  · rw [pk_un e]; exact hA x h1 (by omega)
theorem si_insC {t : List Nat} {kp row : Nat} {f : Nat → Int32} (hrow : row = si_rr t (kp + 1) kp) (hk : kp ≤ t.length) (hA : ∀ x, kp + 1 ≤ x → x ≤ t.length → f x = nI (si_rr t kp x)) : ∀ x, kp ≤ x → x ≤ t.length → upd f kp (nI row) x = nI (si_rr t kp x) := by
  intro x h1 h2
  by_cases e : x = kp
  · subst e
    rw [pk_us, hrow, si_rr_self hk]
  · rw [pk_un e]; exact hA x (by omega) h2
theorem si_plU {t : List Nat} {k : Nat} {f : Nat → Int32} (hk : k ≤ t.length) (h : ∀ x, x < k → f (si_rk t x) = nI x) : ∀ x, x < k + 1 → upd f (si_rk t k) (nI k) (si_rk t x) = nI x := by
  intro x hx
  by_cases e : x = k
  · subst e; rw [pk_us]
  · rw [pk_un (fun z => e (si_rk_inj (by omega) hk z))]
    exact h x (by omega)
set_option maxHeartbeats 4000000 in
set_option maxRecDepth 100000 in
/-- isSmaller -/
theorem cS_isSmaller (l : Launch) (g : si_G) (h0 a2 a3 : Nat) (fr fp : Nat → Int32) (last : Int32) (h1 a1 cap : Nat) (f : Nat → Int32) (t : List Nat) (kq kp : Nat) (hcap : cap < 2 ^ 20) (htc : t.length ≤ cap) (hok : si_ok t) (hf : si_ln t f) (hpq : kp < kq) (hqn : kq ≤ t.length) (hR : ∀ x, kp + 1 ≤ x → x ≤ t.length → fr x = nI (si_rr t (kp + 1) x)) : si_Mi (S := Unit) l g vwCl zyS_isSmaller zwS_isSmaller ({ frames := 1, cells := 0, slots := 0, locals := 21 } : Room) [.ref h0, .ref h1, .int (nI kq), .int (nI kp)] [(h0, .inr (4, [.ref a2, .ref a3, .int last])), (a2, .inl (g.2.1, 61, .inl fr)), (a3, .inl (g.2.1, 61, .inl fp)), (h1, .inr (2, [.ref a1, .int (nI t.length)])), (a1, .inl (g.2.1, cap, .inl f))] (fun r u => r = nI (si_sf t kq kp).toNat) (fun u => [(h0, .inr (4, [.ref a2, .ref a3, .int last])), (a2, .inl (g.2.1, 61, .inl fr)), (a3, .inl (g.2.1, 61, .inl fp)), (h1, .inr (2, [.ref a1, .int (nI t.length)])), (a1, .inl (g.2.1, cap, .inl f))]) := by
  refine si_Mi.of (cc := zkS_isSmaller) (maxL := 6) (by decide) rfl (Nat.le_of_ble_eq_true rfl) ?_
  intro p e s m args below meth c A Q ls hF0 hin hK hN hP hD hA hS hl hret
  obtain ⟨hx, hb, hml, hown, hts0⟩ := hF0
  have hts : ∀ w ∈ si_tbl, w.before args s = true := fun w hw => hts0 w (List.mem_cons_of_mem _ hw)
  have hF : CallFix p m c zkS_isSmaller 6 s args si_tbl zRS := ⟨hx, hb, hml, hown, hts⟩
  have hl : lv_has ls 6 [(0, .ref h0), (1, .ref h1), (2, .int (nI kq)), (3, .int (nI kp))] := hl
  have hn := hok.1
  refine lv_aload_n hx hb zdS_isSmaller_0 rfl (lv_at hl 1 rfl) ?_
  refine lv_iload_n hx hb zdS_isSmaller_1 rfl (lv_at hl 2 rfl) ?_
  refine (cL_codeAt l g h1 a1 cap t.length f (nI kq) (nI (si_g t kq)) (by omega) (by omega) (si_ca_n hf (by omega) (by omega))).callV (wr := [(h0, .inr (4, [.ref a2, .ref a3, .int last])), (a2, .inl (g.2.1, 61, .inl fr)), (a3, .inl (g.2.1, 61, .inl fp))]) (As := [.int (nI kq)]) (rest := []) hF (si_cV 1 hts zcL_codeAt zlS_35 zimL_codeAt zseL_codeAt ziniL zhL_codeAt ⟨Nat.le_of_ble_eq_true rfl, Nat.le_of_ble_eq_true rfl⟩) hK hN hP hD hS hA [3, 4] [0, 1, 2] rfl rfl (by decide) (by decide) (va_recv (q := (zRL, zTL, 2)) hK hP (ci := 2) (q0 := 3) rfl rfl) rfl hl.1 rfl (Nat.le_of_ble_eq_true rfl) zdS_isSmaller_2 ⟨Nat.le_of_ble_eq_true rfl, Nat.le_of_ble_eq_true rfl⟩ rfl rfl (fun r_ _u H locs hq hP hD hS => ?_)
  subst hq
  have hP : va_P g.1 vwCl [(h0, .inr (4, [.ref a2, .ref a3, .int last])), (a2, .inl (g.2.1, 61, .inl fr)), (a3, .inl (g.2.1, 61, .inl fp)), (h1, .inr (2, [.ref a1, .int (nI t.length)])), (a1, .inl (g.2.1, cap, .inl f))] H := hP
  have hD : va_D A [(h0, .inr (4, [.ref a2, .ref a3, .int last])), (a2, .inl (g.2.1, 61, .inl fr)), (a3, .inl (g.2.1, 61, .inl fp)), (h1, .inr (2, [.ref a1, .int (nI t.length)])), (a1, .inl (g.2.1, cap, .inl f))] := hD
  refine lv_istore (lv' := [(4, .int (nI (si_g t kq))), (0, .ref h0), (1, .ref h1), (2, .int (nI kq)), (3, .int (nI kp))]) hx hb zdS_isSmaller_5 hl (Nat.le_of_ble_eq_true rfl) rfl (fun ls hl => ?_)
  refine lv_aload_n hx hb zdS_isSmaller_7 rfl (lv_at hl 2 rfl) ?_
  refine lv_iload_n hx hb zdS_isSmaller_8 rfl (lv_at hl 4 rfl) ?_
  refine (cL_codeAt l g h1 a1 cap t.length f (nI kp) (nI (si_g t kp)) (by omega) (by omega) (si_ca_n hf (by omega) (by omega))).callV (wr := [(h0, .inr (4, [.ref a2, .ref a3, .int last])), (a2, .inl (g.2.1, 61, .inl fr)), (a3, .inl (g.2.1, 61, .inl fp))]) (As := [.int (nI kp)]) (rest := []) hF (si_cV 1 hts zcL_codeAt zlS_35 zimL_codeAt zseL_codeAt ziniL zhL_codeAt ⟨Nat.le_of_ble_eq_true rfl, Nat.le_of_ble_eq_true rfl⟩) hK hN hP hD hS hA [3, 4] [0, 1, 2] rfl rfl (by decide) (by decide) (va_recv (q := (zRL, zTL, 2)) hK hP (ci := 2) (q0 := 3) rfl rfl) rfl hl.1 rfl (Nat.le_of_ble_eq_true rfl) zdS_isSmaller_9 ⟨Nat.le_of_ble_eq_true rfl, Nat.le_of_ble_eq_true rfl⟩ rfl rfl (fun r_ _u H locs hq hP hD hS => ?_)
  subst hq
  have hP : va_P g.1 vwCl [(h0, .inr (4, [.ref a2, .ref a3, .int last])), (a2, .inl (g.2.1, 61, .inl fr)), (a3, .inl (g.2.1, 61, .inl fp)), (h1, .inr (2, [.ref a1, .int (nI t.length)])), (a1, .inl (g.2.1, cap, .inl f))] H := hP
  have hD : va_D A [(h0, .inr (4, [.ref a2, .ref a3, .int last])), (a2, .inl (g.2.1, 61, .inl fr)), (a3, .inl (g.2.1, 61, .inl fp)), (h1, .inr (2, [.ref a1, .int (nI t.length)])), (a1, .inl (g.2.1, cap, .inl f))] := hD
  refine lv_istore (lv' := [(5, .int (nI (si_g t kp))), (4, .int (nI (si_g t kq))), (0, .ref h0), (1, .ref h1), (2, .int (nI kq)), (3, .int (nI kp))]) hx hb zdS_isSmaller_12 hl (Nat.le_of_ble_eq_true rfl) rfl (fun ls hl => ?_)
  refine lv_iload hx hb zdS_isSmaller_14 (lv_at hl 1 rfl) ?_
  refine lv_iload hx hb zdS_isSmaller_16 (lv_at hl 0 rfl) ?_
  refine si_icmp_ne (tgt := 48) hx hb zdS_isSmaller_18 rfl (si_g_lt hok.2) (si_g_lt hok.2) (fun h18 => ?_) (fun h18 => ?_)
  · refine lv_iload hx hb zdS_isSmaller_48 (lv_at hl 1 rfl) ?_
    refine lv_iload hx hb zdS_isSmaller_50 (lv_at hl 0 rfl) ?_
    refine si_icmp_ge (tgt := 59) hx hb zdS_isSmaller_52 rfl (si_g_lt hok.2) (si_g_lt hok.2) (fun h52 => ?_) (fun h52 => ?_)
    · have hres : si_sf t kq kp = false := si_sm_gt hqn (by omega) (by omega)
      refine lv_iconst (v := nI 0) hx hb zdS_isSmaller_59 (by decide) ?_
      exact hret (nI 0) () _ _ _ _ (rfl) (by rw [hres]; rfl) (hP.sub [0, 1, 2, 3, 4] rfl) (hD.sub [0, 1, 2, 3, 4] (by decide) rfl) hS zdS_isSmaller_60
    · have hres : si_sf t kq kp = true := si_sm_lt hqn (by omega) h52
      refine lv_iconst (v := nI 1) hx hb zdS_isSmaller_55 (by decide) ?_
      refine lv_goto (tgt := 60) hx hb zdS_isSmaller_56 rfl ?_
      exact hret (nI 1) () _ _ _ _ (rfl) (by rw [hres]; rfl) (hP.sub [0, 1, 2, 3, 4] rfl) (hD.sub [0, 1, 2, 3, 4] (by decide) rfl) hS zdS_isSmaller_60
  · have hp32 := si_ok_at hok (show kp < t.length by omega)
    have hq1 : kq < t.length := by
      apply Classical.byContradiction
      intro z
      rw [si_g_out (by omega)] at h18
      omega
    have hse := si_sm_eq hq1 (by omega) h18
    have hb1 := si_rr_le t (kp + 1) (kq + 1) (by omega)
    have hb2 := si_rr_le t (kp + 1) (kp + 1) (by omega)
    have hiff := si_rr_iff (t := t) (lo := kp + 1) (q := kq + 1) (p := kp + 1) (by omega) (by omega) (by omega) (by omega)
    refine lv_aload_n hx hb zdS_isSmaller_21 rfl (lv_at hl 2 rfl) ?_
    refine va_get (D := g.1) (ci := 4) (v := .ref a2) (C := zRS) (T := zTS) (N := 3) hx hb hts ziS hown hK hP 0 rfl rfl 0 (by decide) (hts _ zlS_9) (fun _ h => h) rfl zdS_isSmaller_22 ?_
    refine lv_iload_n hx hb zdS_isSmaller_25 rfl (lv_at hl 4 rfl) ?_
    refine lv_iconst (v := nI 1) hx hb zdS_isSmaller_26 (by decide) ?_
    refine si_iadd (v := nI (kq + 1)) hx hb zdS_isSmaller_27 (nI_add _ _) ?_
    refine si_iald (v := nI (si_rr t (kp + 1) (kq + 1))) hx hb hK hP 1 0 rfl rfl (by decide) (by omega) (hR (kq + 1) (by omega) (by omega)) zdS_isSmaller_28 ?_
    refine lv_aload_n hx hb zdS_isSmaller_29 rfl (lv_at hl 2 rfl) ?_
    refine va_get (D := g.1) (ci := 4) (v := .ref a2) (C := zRS) (T := zTS) (N := 3) hx hb hts ziS hown hK hP 0 rfl rfl 0 (by decide) (hts _ zlS_9) (fun _ h => h) rfl zdS_isSmaller_30 ?_
    refine lv_iload_n hx hb zdS_isSmaller_33 rfl (lv_at hl 5 rfl) ?_
    refine lv_iconst (v := nI 1) hx hb zdS_isSmaller_34 (by decide) ?_
    refine si_iadd (v := nI (kp + 1)) hx hb zdS_isSmaller_35 (nI_add _ _) ?_
    refine si_iald (v := nI (si_rr t (kp + 1) (kp + 1))) hx hb hK hP 1 0 rfl rfl (by decide) (by omega) (hR (kp + 1) (by omega) (by omega)) zdS_isSmaller_36 ?_
    refine si_icmp_ge (tgt := 44) hx hb zdS_isSmaller_37 rfl (by omega) (by omega) (fun h37 => ?_) (fun h37 => ?_)
    · have hres : si_sf t kq kp = false := by rw [hse]; exact si_nt (fun z => by have := hiff.mpr z; omega)
      refine lv_iconst (v := nI 0) hx hb zdS_isSmaller_44 (by decide) ?_
      refine lv_goto (tgt := 60) hx hb zdS_isSmaller_45 rfl ?_
      exact hret (nI 0) () _ _ _ _ (rfl) (by rw [hres]; rfl) (hP.sub [0, 1, 2, 3, 4] rfl) (hD.sub [0, 1, 2, 3, 4] (by decide) rfl) hS zdS_isSmaller_60
    · have hres : si_sf t kq kp = true := by rw [hse]; exact hiff.mp h37
      refine lv_iconst (v := nI 1) hx hb zdS_isSmaller_40 (by decide) ?_
      refine lv_goto (tgt := 60) hx hb zdS_isSmaller_41 rfl ?_
      exact hret (nI 1) () _ _ _ _ (rfl) (by rw [hres]; rfl) (hP.sub [0, 1, 2, 3, 4] rfl) (hD.sub [0, 1, 2, 3, 4] (by decide) rfl) hS zdS_isSmaller_60

set_option maxHeartbeats 4000000 in
set_option maxRecDepth 100000 in
/-- insert -/
theorem cS_insert (l : Launch) (g : si_G) (h0 a2 a3 : Nat) (fr fp : Nat → Int32) (h1 a1 cap : Nat) (f : Nat → Int32) (t : List Nat) (kp : Nat) (hcap : cap < 2 ^ 20) (htc : t.length ≤ cap) (hok : si_ok t) (hf : si_ln t f) (hpn : kp ≤ t.length) (hR : ∀ x, kp + 1 ≤ x → x ≤ t.length → fr x = nI (si_rr t (kp + 1) x)) : si_Mv (S := Nat → Int32) l g vwCl zyS_insert zwS_insert ({ frames := 2, cells := 0, slots := 0, locals := 46 } : Room) [.ref h0, .ref h1, .int (nI kp)] [(h0, .inr (4, [.ref a2, .ref a3, .int (nI t.length)])), (a2, .inl (g.2.1, 61, .inl fr)), (a3, .inl (g.2.1, 61, .inl fp)), (h1, .inr (2, [.ref a1, .int (nI t.length)])), (a1, .inl (g.2.1, cap, .inl f))] (fun u => ∀ x, kp ≤ x → x ≤ t.length → u x = nI (si_rr t (kp) x)) (fun u => [(h0, .inr (4, [.ref a2, .ref a3, .int (nI t.length)])), (a2, .inl (g.2.1, 61, .inl u)), (a3, .inl (g.2.1, 61, .inl fp)), (h1, .inr (2, [.ref a1, .int (nI t.length)])), (a1, .inl (g.2.1, cap, .inl f))]) := by
  refine si_Mv.of (cc := zkS_insert) (maxL := 5) (by decide) rfl (Nat.le_of_ble_eq_true rfl) ?_
  intro p e s m args below meth c A Q ls hF0 hin hK hN hP hD hA hS hl hret
  obtain ⟨hx, hb, hml, hown, hts0⟩ := hF0
  have hts : ∀ w ∈ si_tbl, w.before args s = true := fun w hw => hts0 w (List.mem_cons_of_mem _ hw)
  have hF : CallFix p m c zkS_insert 5 s args si_tbl zRS := ⟨hx, hb, hml, hown, hts⟩
  have hl : lv_has ls 5 [(0, .ref h0), (1, .ref h1), (2, .int (nI kp))] := hl
  have hn := hok.1
  refine lv_iconst (v := nI 0) hx hb zdS_insert_0 (by decide) ?_
  refine lv_istore_n (lv' := [(3, .int (nI 0)), (0, .ref h0), (1, .ref h1), (2, .int (nI kp))]) hx hb zdS_insert_1 rfl hl (Nat.le_of_ble_eq_true rfl) rfl (fun ls hl => ?_)
  refine lv_iload_n hx hb zdS_insert_2 rfl (lv_at hl 3 rfl) ?_
  refine lv_iconst (v := nI 1) hx hb zdS_insert_3 (by decide) ?_
  refine si_iadd (v := nI (kp + 1)) hx hb zdS_insert_4 (nI_add _ _) ?_
  refine lv_istore (lv' := [(4, .int (nI (kp + 1))), (3, .int (nI 0)), (0, .ref h0), (1, .ref h1), (2, .int (nI kp))]) hx hb zdS_insert_5 hl (Nat.le_of_ble_eq_true rfl) rfl (fun ls hl => ?_)
  have L7 : ∀ (N : Nat) (q : Nat) (row : Nat) (H : Heap) (locs : List Loc) (ls : Array Slot), t.length + 1 - q < N → (kp + 1 ≤ q) → (q ≤ t.length + 1) → (row = si_cn q (fun x => decide (kp + 1 ≤ x) && si_sf t x kp)) → lv_has ls 5 [(0, .ref h0), (1, .ref h1), (2, .int (nI kp)), (3, .int (nI row)), (4, .int (nI q))] → va_P g.1 vwCl [(h0, .inr (4, [.ref a2, .ref a3, .int (nI t.length)])), (a2, .inl (g.2.1, 61, .inl fr)), (a3, .inl (g.2.1, 61, .inl fp)), (h1, .inr (2, [.ref a1, .int (nI t.length)])), (a1, .inl (g.2.1, cap, .inl f))] H → va_D A [(h0, .inr (4, [.ref a2, .ref a3, .int (nI t.length)])), (a2, .inl (g.2.1, 61, .inl fr)), (a3, .inl (g.2.1, 61, .inl fp)), (h1, .inr (2, [.ref a1, .int (nI t.length)])), (a1, .inl (g.2.1, cap, .inl f))] → va_S A s.heap H locs → W p l e ({ frames := 2, cells := 0, slots := 0, locals := 46 } : Room) s m args below meth c H locs 0 0 Q (F0 m 7 ls []) := by
    intro N
    induction N with
    | zero => intro q row H locs ls hMs; exact absurd hMs (Nat.not_lt_zero _)
    | succ N ih7 =>
      intro q row H locs ls hMs hq1 hq2 hrw hl hP hD hS
      refine lv_iload hx hb zdS_insert_7 (lv_at hl 4 rfl) ?_
      refine lv_aload_n hx hb zdS_insert_9 rfl (lv_at hl 0 rfl) ?_
      refine va_get (D := g.1) (ci := 4) (v := .int (nI t.length)) (C := zRS) (T := zTS) (N := 3) hx hb hts ziS hown hK hP 0 rfl rfl 2 (by decide) (hts _ zlS_18) (fun _ h => h) rfl zdS_insert_10 ?_
      refine si_icmp_gt (tgt := 36) hx hb zdS_insert_13 rfl (by omega) (by omega) (fun h13 => ?_) (fun h13 => ?_)
      · have hrow : row = si_rr t (kp + 1) kp := by rw [hrw, show q = t.length + 1 by omega]; rfl
        have hrl := si_rr_le t (kp + 1) kp (by omega)
        refine lv_iload_n hx hb zdS_insert_36 rfl (lv_at hl 2 rfl) ?_
        refine lv_iconst (v := nI 1) hx hb zdS_insert_37 (by decide) ?_
        refine si_iadd (v := nI (kp + 1)) hx hb zdS_insert_38 (nI_add _ _) ?_
        refine lv_istore (lv' := [(4, .int (nI (kp + 1))), (0, .ref h0), (1, .ref h1), (2, .int (nI kp)), (3, .int (nI row))]) hx hb zdS_insert_39 hl (Nat.le_of_ble_eq_true rfl) rfl (fun ls hl => ?_)
        have L41 : ∀ (N : Nat) (q : Nat) (f2 : Nat → Int32) (H : Heap) (locs : List Loc) (ls : Array Slot), t.length + 1 - q < N → (kp + 1 ≤ q) → (q ≤ t.length + 1) → (∀ x, kp + 1 ≤ x → x < q → f2 x = nI (si_rr t kp x)) → (∀ x, q ≤ x → x ≤ t.length → f2 x = nI (si_rr t (kp + 1) x)) → lv_has ls 5 [(0, .ref h0), (1, .ref h1), (2, .int (nI kp)), (3, .int (nI row)), (4, .int (nI q))] → va_P g.1 vwCl [(h0, .inr (4, [.ref a2, .ref a3, .int (nI t.length)])), (a2, .inl (g.2.1, 61, .inl f2)), (a3, .inl (g.2.1, 61, .inl fp)), (h1, .inr (2, [.ref a1, .int (nI t.length)])), (a1, .inl (g.2.1, cap, .inl f))] H → va_D A [(h0, .inr (4, [.ref a2, .ref a3, .int (nI t.length)])), (a2, .inl (g.2.1, 61, .inl f2)), (a3, .inl (g.2.1, 61, .inl fp)), (h1, .inr (2, [.ref a1, .int (nI t.length)])), (a1, .inl (g.2.1, cap, .inl f))] → va_S A s.heap H locs → W p l e ({ frames := 2, cells := 0, slots := 0, locals := 46 } : Room) s m args below meth c H locs 0 0 Q (F0 m 41 ls []) := by
          intro N
          induction N with
          | zero => intro q f2 H locs ls hMs; exact absurd hMs (Nat.not_lt_zero _)
          | succ N ih41 =>
            intro q f2 H locs ls hMs hq1 hq2 hA hB hl hP hD hS
            refine lv_iload hx hb zdS_insert_41 (lv_at hl 4 rfl) ?_
            refine lv_aload_n hx hb zdS_insert_43 rfl (lv_at hl 0 rfl) ?_
            refine va_get (D := g.1) (ci := 4) (v := .int (nI t.length)) (C := zRS) (T := zTS) (N := 3) hx hb hts ziS hown hK hP 0 rfl rfl 2 (by decide) (hts _ zlS_18) (fun _ h => h) rfl zdS_insert_44 ?_
            refine si_icmp_gt (tgt := 78) hx hb zdS_insert_47 rfl (by omega) (by omega) (fun h47 => ?_) (fun h47 => ?_)
            · refine lv_aload_n hx hb zdS_insert_78 rfl (lv_at hl 0 rfl) ?_
              refine va_get (D := g.1) (ci := 4) (v := .ref a2) (C := zRS) (T := zTS) (N := 3) hx hb hts ziS hown hK hP 0 rfl rfl 0 (by decide) (hts _ zlS_9) (fun _ h => h) rfl zdS_insert_79 ?_
              refine lv_iload_n hx hb zdS_insert_82 rfl (lv_at hl 2 rfl) ?_
              refine lv_iload_n hx hb zdS_insert_83 rfl (lv_at hl 3 rfl) ?_
              refine si_iast hx hb hK hP hD hS 1 0 rfl rfl (by decide) (by omega) zdS_insert_84 (fun H locs hP hD hS => ?_)
              have hP : va_P g.1 vwCl [(h0, .inr (4, [.ref a2, .ref a3, .int (nI t.length)])), (a2, .inl (g.2.1, 61, .inl (upd f2 kp (nI row)))), (a3, .inl (g.2.1, 61, .inl fp)), (h1, .inr (2, [.ref a1, .int (nI t.length)])), (a1, .inl (g.2.1, cap, .inl f))] H := hP
              have hD : va_D A [(h0, .inr (4, [.ref a2, .ref a3, .int (nI t.length)])), (a2, .inl (g.2.1, 61, .inl (upd f2 kp (nI row)))), (a3, .inl (g.2.1, 61, .inl fp)), (h1, .inr (2, [.ref a1, .int (nI t.length)])), (a1, .inl (g.2.1, cap, .inl f))] := hD
              exact hret (upd f2 kp (nI row)) _ _ _ _ (si_insC hrow hpn (fun x h1 h2 => hA x h1 (by omega))) (hP.sub [0, 1, 2, 3, 4] rfl) (hD.sub [0, 1, 2, 3, 4] (by decide) rfl) hS zdS_insert_85
            · have hql := si_rr_le t (kp + 1) q (by omega)
              refine lv_aload_n hx hb zdS_insert_50 rfl (lv_at hl 0 rfl) ?_
              refine va_get (D := g.1) (ci := 4) (v := .ref a2) (C := zRS) (T := zTS) (N := 3) hx hb hts ziS hown hK hP 0 rfl rfl 0 (by decide) (hts _ zlS_9) (fun _ h => h) rfl zdS_insert_51 ?_
              refine lv_iload hx hb zdS_insert_54 (lv_at hl 4 rfl) ?_
              refine si_iald (v := nI (si_rr t (kp + 1) q)) hx hb hK hP 1 0 rfl rfl (by decide) (by omega) (hB q (Nat.le_refl _) (by omega)) zdS_insert_56 ?_
              refine lv_iload_n hx hb zdS_insert_57 rfl (lv_at hl 3 rfl) ?_
              refine si_icmp_lt (tgt := 72) hx hb zdS_insert_58 rfl (by omega) (by omega) (fun h58 => ?_) (fun h58 => ?_)
              · refine lv_iinc (k := 4) (v := nI (q + 1)) (lv' := [(4, .int (nI (q + 1))), (0, .ref h0), (1, .ref h1), (2, .int (nI kp)), (3, .int (nI row))]) hx hb zdS_insert_72 hl rfl (si_inc _) (Nat.le_of_ble_eq_true rfl) rfl (fun ls hl => ?_)
                refine lv_goto (tgt := 41) hx hb zdS_insert_75 rfl ?_
                exact ih41 (q + 1) f2 _ _ _ (by omega) (by omega) (by omega) (by first | exact si_insB hrow hq1 (by omega) hA h58 | exact si_insA hrow hq1 (by omega) hA (hB q (Nat.le_refl _) (by omega)) h58) (fun x h1 h2 => by first | exact hB x (by omega) h2 | (rw [pk_un (by omega)]; exact hB x (by omega) h2)) (lv_sub hl [1, 2, 3, 4, 0] rfl) (hP.sub [0, 1, 2, 3, 4] rfl) (hD.sub [0, 1, 2, 3, 4] (by decide) rfl) hS
              · refine lv_aload_n hx hb zdS_insert_61 rfl (lv_at hl 0 rfl) ?_
                refine va_get (D := g.1) (ci := 4) (v := .ref a2) (C := zRS) (T := zTS) (N := 3) hx hb hts ziS hown hK hP 0 rfl rfl 0 (by decide) (hts _ zlS_9) (fun _ h => h) rfl zdS_insert_62 ?_
                refine lv_iload hx hb zdS_insert_65 (lv_at hl 4 rfl) ?_
                refine lv_dup2_11 hx hb zdS_insert_67 rfl rfl ?_
                refine si_iald (v := nI (si_rr t (kp + 1) q)) hx hb hK hP 1 0 rfl rfl (by decide) (by omega) (hB q (Nat.le_refl _) (by omega)) zdS_insert_68 ?_
                refine lv_iconst (v := nI 1) hx hb zdS_insert_69 (by decide) ?_
                refine si_iadd (v := nI (si_rr t (kp + 1) q + 1)) hx hb zdS_insert_70 (nI_add _ _) ?_
                refine si_iast hx hb hK hP hD hS 1 0 rfl rfl (by decide) (by omega) zdS_insert_71 (fun H locs hP hD hS => ?_)
                have hP : va_P g.1 vwCl [(h0, .inr (4, [.ref a2, .ref a3, .int (nI t.length)])), (a2, .inl (g.2.1, 61, .inl (upd f2 q (nI (si_rr t (kp + 1) q + 1))))), (a3, .inl (g.2.1, 61, .inl fp)), (h1, .inr (2, [.ref a1, .int (nI t.length)])), (a1, .inl (g.2.1, cap, .inl f))] H := hP
                have hD : va_D A [(h0, .inr (4, [.ref a2, .ref a3, .int (nI t.length)])), (a2, .inl (g.2.1, 61, .inl (upd f2 q (nI (si_rr t (kp + 1) q + 1))))), (a3, .inl (g.2.1, 61, .inl fp)), (h1, .inr (2, [.ref a1, .int (nI t.length)])), (a1, .inl (g.2.1, cap, .inl f))] := hD
                refine lv_iinc (k := 4) (v := nI (q + 1)) (lv' := [(4, .int (nI (q + 1))), (0, .ref h0), (1, .ref h1), (2, .int (nI kp)), (3, .int (nI row))]) hx hb zdS_insert_72 hl rfl (si_inc _) (Nat.le_of_ble_eq_true rfl) rfl (fun ls hl => ?_)
                refine lv_goto (tgt := 41) hx hb zdS_insert_75 rfl ?_
                exact ih41 (q + 1) (upd f2 q (nI (si_rr t (kp + 1) q + 1))) _ _ _ (by omega) (by omega) (by omega) (by first | exact si_insB hrow hq1 (by omega) hA h58 | exact si_insA hrow hq1 (by omega) hA (hB q (Nat.le_refl _) (by omega)) h58) (fun x h1 h2 => by first | exact hB x (by omega) h2 | (rw [pk_un (by omega)]; exact hB x (by omega) h2)) (lv_sub hl [1, 2, 3, 4, 0] rfl) (hP.sub [0, 1, 2, 3, 4] rfl) (hD.sub [0, 1, 2, 3, 4] (by decide) rfl) hS
        exact L41 (t.length + 1 - (kp + 1) + 1) (kp + 1) fr _ _ _ (by omega) (by omega) (by omega) (fun x h1 h2 => absurd h2 (by omega)) (fun x h1 h2 => hR x h1 h2) (lv_sub hl [1, 2, 3, 4, 0] rfl) (hP.sub [0, 1, 2, 3, 4] rfl) (hD.sub [0, 1, 2, 3, 4] (by decide) rfl) hS
      · have hrl : row ≤ q := by rw [hrw]; exact si_cn_le _ _
        refine lv_aload_n hx hb zdS_insert_16 rfl (lv_at hl 0 rfl) ?_
        refine lv_aload_n hx hb zdS_insert_17 rfl (lv_at hl 1 rfl) ?_
        refine lv_iload hx hb zdS_insert_18 (lv_at hl 4 rfl) ?_
        refine lv_iload_n hx hb zdS_insert_20 rfl (lv_at hl 2 rfl) ?_
        refine (cS_isSmaller l g h0 a2 a3 fr fp (nI t.length) h1 a1 cap f t q kp hcap htc hok hf (by omega) (by omega) hR).callV (wr := []) (As := [.ref h1, .int (nI q), .int (nI kp)]) (rest := []) hF (si_cV 3 hts zcS_isSmaller zlS_31 zimS_isSmaller zseS_isSmaller ziniS zhS_isSmaller ⟨Nat.le_of_ble_eq_true rfl, Nat.le_of_ble_eq_true rfl⟩) hK hN hP hD hS hA [0, 1, 2, 3, 4] [] rfl rfl (by decide) (by decide) (va_recv (q := (zRS, zTS, 3)) hK hP (ci := 4) (q0 := 0) rfl rfl) rfl hl.1 rfl (Nat.le_of_ble_eq_true rfl) zdS_insert_21 ⟨Nat.le_of_ble_eq_true rfl, Nat.le_of_ble_eq_true rfl⟩ rfl rfl (fun r_ _u H locs hq hP hD hS => ?_)
        subst hq
        have hP : va_P g.1 vwCl [(h0, .inr (4, [.ref a2, .ref a3, .int (nI t.length)])), (a2, .inl (g.2.1, 61, .inl fr)), (a3, .inl (g.2.1, 61, .inl fp)), (h1, .inr (2, [.ref a1, .int (nI t.length)])), (a1, .inl (g.2.1, cap, .inl f))] H := hP
        have hD : va_D A [(h0, .inr (4, [.ref a2, .ref a3, .int (nI t.length)])), (a2, .inl (g.2.1, 61, .inl fr)), (a3, .inl (g.2.1, 61, .inl fp)), (h1, .inr (2, [.ref a1, .int (nI t.length)])), (a1, .inl (g.2.1, cap, .inl f))] := hD
        refine si_if_eq (tgt := 30) hx hb zdS_insert_24 rfl (si_bn _) (fun h24 => ?_) (fun h24 => ?_)
        · have hs := si_b0 h24
          refine lv_iinc (k := 4) (v := nI (q + 1)) (lv' := [(4, .int (nI (q + 1))), (0, .ref h0), (1, .ref h1), (2, .int (nI kp)), (3, .int (nI row))]) hx hb zdS_insert_30 hl rfl (si_inc _) (Nat.le_of_ble_eq_true rfl) rfl (fun ls hl => ?_)
          refine lv_goto (tgt := 7) hx hb zdS_insert_33 rfl ?_
          exact ih7 (q + 1) row _ _ _ (by omega) (by omega) (by omega) (by first | (rw [si_cnA (F := fun x => si_sf t x kp) hq1 hs, hrw]; done) | (rw [si_cnB (F := fun x => si_sf t x kp) hs, hrw]; done)) (lv_sub hl [1, 2, 3, 4, 0] rfl) (hP.sub [0, 1, 2, 3, 4] rfl) (hD.sub [0, 1, 2, 3, 4] (by decide) rfl) hS
        · have hs := si_b1 h24
          refine lv_iinc (k := 3) (v := nI (row + 1)) (lv' := [(3, .int (nI (row + 1))), (0, .ref h0), (1, .ref h1), (2, .int (nI kp)), (4, .int (nI q))]) hx hb zdS_insert_27 hl rfl (si_inc _) (Nat.le_of_ble_eq_true rfl) rfl (fun ls hl => ?_)
          refine lv_iinc (k := 4) (v := nI (q + 1)) (lv' := [(4, .int (nI (q + 1))), (3, .int (nI (row + 1))), (0, .ref h0), (1, .ref h1), (2, .int (nI kp))]) hx hb zdS_insert_30 hl rfl (si_inc _) (Nat.le_of_ble_eq_true rfl) rfl (fun ls hl => ?_)
          refine lv_goto (tgt := 7) hx hb zdS_insert_33 rfl ?_
          exact ih7 (q + 1) (row + 1) _ _ _ (by omega) (by omega) (by omega) (by first | (rw [si_cnA (F := fun x => si_sf t x kp) hq1 hs, hrw]; done) | (rw [si_cnB (F := fun x => si_sf t x kp) hs, hrw]; done)) (lv_sub hl [2, 3, 4, 1, 0] rfl) (hP.sub [0, 1, 2, 3, 4] rfl) (hD.sub [0, 1, 2, 3, 4] (by decide) rfl) hS
  exact L7 (t.length + 1 - (kp + 1) + 1) (kp + 1) 0 _ _ _ (by omega) (by omega) (by omega) (si_cnC.symm) (lv_sub hl [2, 3, 4, 1, 0] rfl) (hP.sub [0, 1, 2, 3, 4] rfl) (hD.sub [0, 1, 2, 3, 4] (by decide) rfl) hS

set_option maxHeartbeats 4000000 in
set_option maxRecDepth 100000 in
/-- sort -/
theorem cS_sort (l : Launch) (g : si_G) (h0 a2 a3 : Nat) (fr fp : Nat → Int32) (last : Int32) (h1 a1 cap : Nat) (f : Nat → Int32) (t : List Nat) (hcap : cap < 2 ^ 20) (htc : t.length ≤ cap) (hok : si_ok t) (hf : si_ln t f) : si_Mv (S := (Nat → Int32) × (Nat → Int32)) l g vwCl zyS_sort zwS_sort ({ frames := 3, cells := 0, slots := 0, locals := 70 } : Room) [.ref h0, .ref h1] [(h0, .inr (4, [.ref a2, .ref a3, .int last])), (a2, .inl (g.2.1, 61, .inl fr)), (a3, .inl (g.2.1, 61, .inl fp)), (h1, .inr (2, [.ref a1, .int (nI t.length)])), (a1, .inl (g.2.1, cap, .inl f))] (fun u => si_su t u.1 u.2) (fun u => [(h0, .inr (4, [.ref a2, .ref a3, .int (nI t.length)])), (a2, .inl (g.2.1, 61, .inl u.1)), (a3, .inl (g.2.1, 61, .inl u.2)), (h1, .inr (2, [.ref a1, .int (nI t.length)])), (a1, .inl (g.2.1, cap, .inl f))]) := by
  refine si_Mv.of (cc := zkS_sort) (maxL := 3) (by decide) rfl (Nat.le_of_ble_eq_true rfl) ?_
  intro p e s m args below meth c A Q ls hF0 hin hK hN hP hD hA hS hl hret
  obtain ⟨hx, hb, hml, hown, hts0⟩ := hF0
  have hts : ∀ w ∈ si_tbl, w.before args s = true := fun w hw => hts0 w (List.mem_cons_of_mem _ hw)
  have hF : CallFix p m c zkS_sort 3 s args si_tbl zRS := ⟨hx, hb, hml, hown, hts⟩
  have hl : lv_has ls 3 [(0, .ref h0), (1, .ref h1)] := hl
  have hn := hok.1
  refine lv_aload_n hx hb zdS_sort_0 rfl (lv_at hl 0 rfl) ?_
  refine lv_aload_n hx hb zdS_sort_1 rfl (lv_at hl 1 rfl) ?_
  refine va_getN (D := g.1) (ci := 2) (v := .int (nI t.length)) (C := zRL) (T := zTL) (N := 2) hx hb hts ziL hown hK hP 3 rfl rfl 1 (by decide) (va_Nw.use rfl (hN _ zlS_22)) (fun _ h => h) rfl zdS_sort_2 ?_
  refine va_put (D := g.1) (ci := 4) (v := .int (nI t.length)) (ty := .int) (C := zRS) (T := zTS) (N := 3) hx hb hts ziS ztS ztoS znS hown hK hP hD hS 0 rfl rfl 2 (by decide) (hts _ zlS_18) (fun _ h => h) rfl (by decide +kernel) rfl rfl (Nat.le_of_ble_eq_true rfl) zdS_sort_5 (fun H locs hP hD hS => ?_)
  have hP : va_P g.1 vwCl [(h0, .inr (4, [.ref a2, .ref a3, .int (nI t.length)])), (a2, .inl (g.2.1, 61, .inl fr)), (a3, .inl (g.2.1, 61, .inl fp)), (h1, .inr (2, [.ref a1, .int (nI t.length)])), (a1, .inl (g.2.1, cap, .inl f))] H := hP
  have hD : va_D A [(h0, .inr (4, [.ref a2, .ref a3, .int (nI t.length)])), (a2, .inl (g.2.1, 61, .inl fr)), (a3, .inl (g.2.1, 61, .inl fp)), (h1, .inr (2, [.ref a1, .int (nI t.length)])), (a1, .inl (g.2.1, cap, .inl f))] := hD
  refine lv_aload_n hx hb zdS_sort_8 rfl (lv_at hl 0 rfl) ?_
  refine va_get (D := g.1) (ci := 4) (v := .int (nI t.length)) (C := zRS) (T := zTS) (N := 3) hx hb hts ziS hown hK hP 0 rfl rfl 2 (by decide) (hts _ zlS_18) (fun _ h => h) rfl zdS_sort_9 ?_
  refine lv_istore_n (lv' := [(2, .int (nI t.length)), (0, .ref h0), (1, .ref h1)]) hx hb zdS_sort_12 rfl hl (Nat.le_of_ble_eq_true rfl) rfl (fun ls hl => ?_)
  have L13 : ∀ (N : Nat) (k : Nat) (q : Int32) (f2 : Nat → Int32) (H : Heap) (locs : List Loc) (ls : Array Slot), k < N → (si_dw q k) → (k ≤ t.length + 1) → (∀ x, k ≤ x → x ≤ t.length → f2 x = nI (si_rr t k x)) → lv_has ls 3 [(0, .ref h0), (1, .ref h1), (2, .int q)] → va_P g.1 vwCl [(h0, .inr (4, [.ref a2, .ref a3, .int (nI t.length)])), (a2, .inl (g.2.1, 61, .inl f2)), (a3, .inl (g.2.1, 61, .inl fp)), (h1, .inr (2, [.ref a1, .int (nI t.length)])), (a1, .inl (g.2.1, cap, .inl f))] H → va_D A [(h0, .inr (4, [.ref a2, .ref a3, .int (nI t.length)])), (a2, .inl (g.2.1, 61, .inl f2)), (a3, .inl (g.2.1, 61, .inl fp)), (h1, .inr (2, [.ref a1, .int (nI t.length)])), (a1, .inl (g.2.1, cap, .inl f))] → va_S A s.heap H locs → W p l e ({ frames := 3, cells := 0, slots := 0, locals := 70 } : Room) s m args below meth c H locs 0 0 Q (F0 m 13 ls []) := by
    intro N
    induction N with
    | zero => intro k q f2 H locs ls hMs; exact absurd hMs (Nat.not_lt_zero _)
    | succ N ih13 =>
      intro k q f2 H locs ls hMs hdw hk hR hl hP hD hS
      refine lv_iload_n hx hb zdS_sort_13 rfl (lv_at hl 2 rfl) ?_
      refine lv_if_lt (tgt := 29) hx hb zdS_sort_14 rfl (fun h14 => ?_) (fun h14 => ?_)
      · have hk0 : k = 0 := si_dw_0 (by omega) hdw h14
        subst hk0
        refine lv_iconst (v := nI 0) hx hb zdS_sort_29 (by decide) ?_
        refine lv_istore_n (lv' := [(2, .int (nI 0)), (0, .ref h0), (1, .ref h1)]) hx hb zdS_sort_30 rfl hl (Nat.le_of_ble_eq_true rfl) rfl (fun ls hl => ?_)
        have L31 : ∀ (N : Nat) (k : Nat) (f3 : Nat → Int32) (H : Heap) (locs : List Loc) (ls : Array Slot), t.length + 1 - k < N → (k ≤ t.length + 1) → (∀ x, x < k → f3 (si_rk t x) = nI x) → lv_has ls 3 [(0, .ref h0), (1, .ref h1), (2, .int (nI k))] → va_P g.1 vwCl [(h0, .inr (4, [.ref a2, .ref a3, .int (nI t.length)])), (a2, .inl (g.2.1, 61, .inl f2)), (a3, .inl (g.2.1, 61, .inl f3)), (h1, .inr (2, [.ref a1, .int (nI t.length)])), (a1, .inl (g.2.1, cap, .inl f))] H → va_D A [(h0, .inr (4, [.ref a2, .ref a3, .int (nI t.length)])), (a2, .inl (g.2.1, 61, .inl f2)), (a3, .inl (g.2.1, 61, .inl f3)), (h1, .inr (2, [.ref a1, .int (nI t.length)])), (a1, .inl (g.2.1, cap, .inl f))] → va_S A s.heap H locs → W p l e ({ frames := 3, cells := 0, slots := 0, locals := 70 } : Room) s m args below meth c H locs 0 0 Q (F0 m 31 ls []) := by
          intro N
          induction N with
          | zero => intro k f3 H locs ls hMs; exact absurd hMs (Nat.not_lt_zero _)
          | succ N ih31 =>
            intro k f3 H locs ls hMs hk hPl hl hP hD hS
            refine lv_iload_n hx hb zdS_sort_31 rfl (lv_at hl 2 rfl) ?_
            refine lv_aload_n hx hb zdS_sort_32 rfl (lv_at hl 0 rfl) ?_
            refine va_get (D := g.1) (ci := 4) (v := .int (nI t.length)) (C := zRS) (T := zTS) (N := 3) hx hb hts ziS hown hK hP 0 rfl rfl 2 (by decide) (hts _ zlS_18) (fun _ h => h) rfl zdS_sort_33 ?_
            refine si_icmp_gt (tgt := 57) hx hb zdS_sort_36 rfl (by omega) (by omega) (fun h36 => ?_) (fun h36 => ?_)
            · have hsu : si_su t f2 f3 := ⟨fun x hx => (hR x (Nat.zero_le _) (by omega)).trans (by rw [si_rr_0]), si_pl_of (fun x hx => hPl x (by omega))⟩
              exact hret (f2, f3) _ _ _ _ (hsu) (hP.sub [0, 1, 2, 3, 4] rfl) (hD.sub [0, 1, 2, 3, 4] (by decide) rfl) hS zdS_sort_57
            · have hrk := si_rk_le (t := t) (p := k) (by omega)
              refine lv_aload_n hx hb zdS_sort_39 rfl (lv_at hl 0 rfl) ?_
              refine va_get (D := g.1) (ci := 4) (v := .ref a3) (C := zRS) (T := zTS) (N := 3) hx hb hts ziS hown hK hP 0 rfl rfl 1 (by decide) (hts _ zlS_15) (fun _ h => h) rfl zdS_sort_40 ?_
              refine lv_aload_n hx hb zdS_sort_43 rfl (lv_at hl 0 rfl) ?_
              refine va_get (D := g.1) (ci := 4) (v := .ref a2) (C := zRS) (T := zTS) (N := 3) hx hb hts ziS hown hK hP 0 rfl rfl 0 (by decide) (hts _ zlS_9) (fun _ h => h) rfl zdS_sort_44 ?_
              refine lv_iload_n hx hb zdS_sort_47 rfl (lv_at hl 2 rfl) ?_
              refine si_iald (v := nI (si_rk t k)) hx hb hK hP 1 0 rfl rfl (by decide) (by omega) ((hR k (Nat.zero_le _) (by omega)).trans (by rw [si_rr_0])) zdS_sort_48 ?_
              refine lv_iload_n hx hb zdS_sort_49 rfl (lv_at hl 2 rfl) ?_
              refine si_iast hx hb hK hP hD hS 2 0 rfl rfl (by decide) (by omega) zdS_sort_50 (fun H locs hP hD hS => ?_)
              have hP : va_P g.1 vwCl [(h0, .inr (4, [.ref a2, .ref a3, .int (nI t.length)])), (a2, .inl (g.2.1, 61, .inl f2)), (a3, .inl (g.2.1, 61, .inl (upd f3 (si_rk t k) (nI k)))), (h1, .inr (2, [.ref a1, .int (nI t.length)])), (a1, .inl (g.2.1, cap, .inl f))] H := hP
              have hD : va_D A [(h0, .inr (4, [.ref a2, .ref a3, .int (nI t.length)])), (a2, .inl (g.2.1, 61, .inl f2)), (a3, .inl (g.2.1, 61, .inl (upd f3 (si_rk t k) (nI k)))), (h1, .inr (2, [.ref a1, .int (nI t.length)])), (a1, .inl (g.2.1, cap, .inl f))] := hD
              refine lv_iinc (k := 2) (v := nI (k + 1)) (lv' := [(2, .int (nI (k + 1))), (0, .ref h0), (1, .ref h1)]) hx hb zdS_sort_51 hl rfl (si_inc _) (Nat.le_of_ble_eq_true rfl) rfl (fun ls hl => ?_)
              refine lv_goto (tgt := 31) hx hb zdS_sort_54 rfl ?_
              exact ih31 (k + 1) (upd f3 (si_rk t k) (nI k)) _ _ _ (by omega) (by omega) (si_plU (by omega) hPl) (lv_sub hl [1, 2, 0] rfl) (hP.sub [0, 1, 2, 3, 4] rfl) (hD.sub [0, 1, 2, 3, 4] (by decide) rfl) hS
        exact L31 (t.length + 1 - 0 + 1) 0 fp _ _ _ (by omega) (by omega) (fun x hx => absurd hx (Nat.not_lt_zero _)) (lv_sub hl [1, 2, 0] rfl) (hP.sub [0, 1, 2, 3, 4] rfl) (hD.sub [0, 1, 2, 3, 4] (by decide) rfl) hS
      · obtain ⟨j, rfl, rfl⟩ := si_dw_1 hdw h14
        refine lv_aload_n hx hb zdS_sort_17 rfl (lv_at hl 0 rfl) ?_
        refine lv_aload_n hx hb zdS_sort_18 rfl (lv_at hl 1 rfl) ?_
        refine lv_iload_n hx hb zdS_sort_19 rfl (lv_at hl 2 rfl) ?_
        refine (cS_insert l g h0 a2 a3 f2 fp h1 a1 cap f t j hcap htc hok hf (by omega) hR).callV (wr := []) (As := [.ref h1, .int (nI j)]) (rest := []) hF (si_cV 2 hts zcS_insert zlS_27 zimS_insert zseS_insert ziniS zhS_insert ⟨Nat.le_of_ble_eq_true rfl, Nat.le_of_ble_eq_true rfl⟩) hK hN hP hD hS hA [0, 1, 2, 3, 4] [] rfl rfl (by decide) (by decide) (va_recv (q := (zRS, zTS, 3)) hK hP (ci := 4) (q0 := 0) rfl rfl) rfl hl.1 rfl (Nat.le_of_ble_eq_true rfl) zdS_sort_20 ⟨Nat.le_of_ble_eq_true rfl, Nat.le_of_ble_eq_true rfl⟩ rfl rfl (fun f4 H locs hq hP hD hS => ?_)
        have hP : va_P g.1 vwCl [(h0, .inr (4, [.ref a2, .ref a3, .int (nI t.length)])), (a2, .inl (g.2.1, 61, .inl f4)), (a3, .inl (g.2.1, 61, .inl fp)), (h1, .inr (2, [.ref a1, .int (nI t.length)])), (a1, .inl (g.2.1, cap, .inl f))] H := hP
        have hD : va_D A [(h0, .inr (4, [.ref a2, .ref a3, .int (nI t.length)])), (a2, .inl (g.2.1, 61, .inl f4)), (a3, .inl (g.2.1, 61, .inl fp)), (h1, .inr (2, [.ref a1, .int (nI t.length)])), (a1, .inl (g.2.1, cap, .inl f))] := hD
        refine lv_iinc (k := 2) (v := nI j + Int32.ofInt (-1)) (lv' := [(2, .int (nI j + Int32.ofInt (-1))), (0, .ref h0), (1, .ref h1)]) hx hb zdS_sort_23 hl rfl (rfl) (Nat.le_of_ble_eq_true rfl) rfl (fun ls hl => ?_)
        refine lv_goto (tgt := 13) hx hb zdS_sort_26 rfl ?_
        exact ih13 j (nI j + Int32.ofInt (-1)) f4 _ _ _ (by omega) (si_dw_s j) (by omega) (hq) (lv_sub hl [1, 2, 0] rfl) (hP.sub [0, 1, 2, 3, 4] rfl) (hD.sub [0, 1, 2, 3, 4] (by decide) rfl) hS
  exact L13 ((t.length + 1) + 1) (t.length + 1) (nI t.length) fr _ _ _ (by omega) (si_dw_i _) (by omega) (fun x h1 h2 => absurd h2 (by omega)) (lv_sub hl [1, 2, 0] rfl) (hP.sub [0, 1, 2, 3, 4] rfl) (hD.sub [0, 1, 2, 3, 4] (by decide) rfl) hS

