/-! Contracts of the Befores. Written by wip/draft/p17.py -/
theorem si_up {f : Nat → Int32} {F : Nat → Int32} {i : Nat} {v : Int32} (h : ∀ x, x < i → f x = F x) (hv : v = F i) : ∀ x, x < i + 1 → upd f i v x = F x := by
  intro x hx
  by_cases e : x = i
  · subst e; rw [pk_us, hv]
  · rw [pk_un e]; exact h x (by omega)
theorem si_nf {b : Bool} (h : ¬ b = false) : b = true := by cases b <;> first | rfl | exact absurd rfl h
section SIPO
variable {nn i zc oc : Nat} {b : Nat → Bool} {f2 f3 fo : Nat → Int32}
theorem si_poZ (hz : zc = si_cn i (fun k => !b k)) (hZ : ∀ x, x < i → b x = false → f2 (si_cn x (fun k => !b k)) = fo x) : ∀ x, x < i + 1 → b x = false → upd f2 zc (fo i) (si_cn x (fun k => !b k)) = fo x := by
  intro x hx hbx
  by_cases e : x = i
  · subst e; rw [← hz, pk_us]
  · have := si_cn_ups (P := fun k => !b k) (show x < i by omega) (by simp [hbx])
    rw [pk_un (by omega)]; exact hZ x (by omega) hbx
theorem si_poO (hz : oc = si_cn i b) (hO : ∀ x, x < i → b x = true → f3 (si_cn x b) = fo x) : ∀ x, x < i + 1 → b x = true → upd f3 oc (fo i) (si_cn x b) = fo x := by
  intro x hx hbx
  by_cases e : x = i
  · subst e; rw [← hz, pk_us]
  · have := si_cn_ups (show x < i by omega) hbx
    rw [pk_un (by omega)]; exact hO x (by omega) hbx
theorem si_poS {v : Bool} {F : Nat → Int32} {G : Nat → Nat} (hb : b i = v) (hZ : ∀ x, x < i → b x = (!v) → F (G x) = fo x) : ∀ x, x < i + 1 → b x = (!v) → F (G x) = fo x := by
  intro x hx hbx
  by_cases e : x = i
  · subst e; rw [hb] at hbx; cases v <;> exact absurd hbx (by decide)
  · exact hZ x (by omega) hbx
theorem si_poC (hzc : zc = si_cn (nn + 1) (fun k => !b k)) (hi : i < oc) (hC : ∀ x, x < nn + 1 → b x = true → si_cn x b < i → f2 (zc + si_cn x b) = fo x) (hO : ∀ x, x < nn + 1 → b x = true → f3 (si_cn x b) = fo x) : ∀ x, x < nn + 1 → b x = true → si_cn x b < i + 1 → upd f2 (zc + i) (f3 i) (zc + si_cn x b) = fo x := by
  intro x hx hbx h
  by_cases e : si_cn x b = i
  · rw [← e, pk_us]; exact hO x hx hbx
  · rw [pk_un (by omega)]; exact hC x hx hbx (by omega)
theorem si_poK (hzc : zc = si_cn (nn + 1) (fun k => !b k)) (hZ : ∀ x, x < nn + 1 → b x = false → f2 (si_cn x (fun k => !b k)) = fo x) {v : Int32} : ∀ x, x < nn + 1 → b x = false → upd f2 (zc + i) v (si_cn x (fun k => !b k)) = fo x := by
  intro x hx hbx
  have := si_cn_ups (P := fun k => !b k) hx (by simp [hbx])
  rw [pk_un (by omega)]; exact hZ x hx hbx
theorem si_poE (hzc : zc = si_cn (nn + 1) (fun k => !b k)) (hoc : oc = si_cn (nn + 1) b) (hZ : ∀ x, x < nn + 1 → b x = false → f2 (si_cn x (fun k => !b k)) = fo x) (hC : ∀ x, x < nn + 1 → b x = true → si_cn x b < oc → f2 (zc + si_cn x b) = fo x) : ∀ x, x < nn + 1 → f2 (si_ps (nn + 1) b x) = fo x := by
  intro x hx
  cases hb : b x with
  | false => rw [si_ps_f hb]; exact hZ x hx hb
  | true => rw [si_ps_t hb, ← hzc]; exact hC x hx hb (by rw [hoc]; exact si_cn_ups hx hb)
end SIPO
theorem si_bitj {k j : Nat} (hk : k < 128) : nI (k / 2 ^ (6 - j)) &&& nI 1 = nI (si_bt j k).toNat := by
  have h1 : k / 2 ^ (6 - j) ≤ k := Nat.div_le_self _ _
  rw [si_btn, pk_andN (m := nI 1) (by omega) 1 (by decide)]
theorem si_l2b (b : Bool) : (if b = true then (1 : Int64) else 0).toInt32 = nI b.toNat := by cases b <;> decide
theorem si_dlO {nn j : Nat} {w : Int64} {cx : Nat → Nat} {fo f2 : Nat → Int32} (hn : nn + 1 ≤ 64) (hw : w = si_wd (nn + 1) (si_lb cx (nn + 1) j)) (hO : ∀ x, x < nn + 1 → fo (si_lp cx (nn + 1) j x) = nI x) (h : ∀ i, i < nn + 1 → f2 (si_ps (nn + 1) (si_bi w) i) = fo i) : ∀ x, x < nn + 1 → f2 (si_lp cx (nn + 1) (j + 1) x) = nI x := by
  intro x hx
  have h1 := (si_lp_bij cx (nn + 1) j).1 x hx
  rw [si_lp_s, si_ps_congr (b' := si_bi w) (fun i hi => ?_) h1, h _ h1, hO x hx]
  rw [hw, si_wd_bi hn]
  simp [hi]
theorem si_ivv {n : Nat} {f : Nat → Nat} {F : Nat → Int32} (h : si_bij n f) (hF : ∀ x, x < n → F (f x) = nI x) {i : Nat} (hi : i < n) : F i = nI (si_iv n f i) := by
  have h1 := si_iv_ok h hi
  have h2 := hF _ h1.1
  rw [h1.2] at h2
  exact h2
/-- the row that follows row r -/
def si_fl (cx : Nat → Nat) (n r : Nat) : Nat := si_iv n (si_lf cx n) r
theorem si_rcU {b : Nat → Nat → Bool} {n j i : Nat} {F : Nat → Int32} (hi : i < n) (h1 : ∀ x, x < n → si_rp b n j x < i → F x = nI (si_rc b n (j + 1) x)) : ∀ x, x < n → si_rp b n j x < i + 1 → upd F (si_iv n (si_rp b n j) i) (nI (2 * si_rc b n j (si_iv n (si_rp b n j) i) + (b j i).toNat)) x = nI (si_rc b n (j + 1) x) := by
  intro x hx hr
  have hv := si_iv_ok (si_rp_bij b n j) hi
  by_cases e : x = si_iv n (si_rp b n j) i
  · rw [← e, pk_us, si_rc_s]
    have : si_rp b n j x = i := by rw [e]; exact hv.2
    rw [this]
    cases b j i <;> rfl
  · rw [pk_un e]
    refine h1 x hx ?_
    have : si_rp b n j x ≠ i := fun z => e ((si_rp_bij b n j).2 _ _ hx hv.1 (z.trans hv.2.symm))
    omega
theorem si_rcK {b : Nat → Nat → Bool} {n j i : Nat} {F : Nat → Int32} {v : Int32} (hi : i < n) (h2 : ∀ x, x < n → i ≤ si_rp b n j x → F x = nI (si_rc b n j x)) : ∀ x, x < n → i + 1 ≤ si_rp b n j x → upd F (si_iv n (si_rp b n j) i) v x = nI (si_rc b n j x) := by
  intro x hx hr
  have hv := si_iv_ok (si_rp_bij b n j) hi
  rw [pk_un (fun z => by rw [z, hv.2] at hr; omega)]
  exact h2 x hx (by omega)
theorem si_flU {cx : Nat → Nat} {n k : Nat} {F : Nat → Int32} (hk : k < n) (h : ∀ x, x < k → F (si_lf cx n x) = nI x) : ∀ x, x < k + 1 → upd F (si_lf cx n k) (nI k) (si_lf cx n x) = nI x := by
  intro x hx
  by_cases e : x = k
  · subst e; rw [pk_us]
  · rw [pk_un (fun z => e ((si_lf_bij cx n).2 _ _ (by omega) hk z))]
    exact h x (by omega)
theorem si_lf_congr {cx dx : Nat → Nat} {n r : Nat} (hr : r < n) (h : ∀ x, x < n → cx x = dx x) : si_lf cx n r = si_lf dx n r := si_cn_congr (fun i hi => by unfold si_lo; rw [h i hi, h r hr])
/-- going on: from the row of place k to the row of k + 1, and what stands before it -/
theorem si_fl_rk {cx : Nat → Nat} {v : List Nat} (hv : si_ok v) (h : ∀ x, x < v.length + 1 → cx x = si_B v x) {k : Nat} (hk : k < v.length) : si_fl cx (v.length + 1) (si_rk v k) = si_rk v (k + 1) ∧ cx (si_rk v (k + 1)) = si_g v k := by
  have h1 := si_lf_rk hv (p := k + 1) (by omega) (by omega)
  have hb := si_rk_le (t := v) (p := k + 1) (by omega)
  rw [Nat.add_sub_cancel] at h1
  rw [← si_lf_congr hb h] at h1
  refine ⟨?_, ?_⟩
  · unfold si_fl
    rw [← h1, si_iv_f (si_lf_bij cx _) hb]
  · rw [h _ hb, si_B_rk (by omega)]
    unfold si_bf
    rw [if_neg (by omega), Nat.add_sub_cancel]
theorem si_fl_0 {cx : Nat → Nat} {v : List Nat} (hv : si_ok v) (h : ∀ x, x < v.length + 1 → cx x = si_B v x) : si_fl cx (v.length + 1) 0 = si_rk v 0 := by
  have h1 := si_lf_0 hv
  have hb := si_rk_le (t := v) (p := 0) (by omega)
  rw [← si_lf_congr hb h] at h1
  have h2 := si_iv_f (si_lf_bij cx (v.length + 1)) hb
  rw [h1] at h2
  exact h2
/-- what is spelled after k steps: a text of k characters, the beginning of every text with these BEFOREs -/
def si_sp (cx : Nat → Nat) (nn k row : Nat) (f : Nat → Int32) : Prop := ∃ t : List Nat, t.length = k ∧ si_ok t ∧ si_ln t f ∧ ∀ v, si_ok v → v.length = nn → (∀ x, x < nn + 1 → cx x = si_B v x) → row = si_rk v k ∧ ∀ i, i < k → si_g v i = si_g t i
theorem si_sp_0 {cx : Nat → Nat} {nn : Nat} {f : Nat → Int32} : si_sp cx nn 0 (si_fl cx (nn + 1) 0) f :=
  ⟨[], rfl, ⟨by simp, fun c h => by cases h⟩, fun i hi => absurd hi (Nat.not_lt_zero _), fun v hv hl h => ⟨by subst hl; exact si_fl_0 hv h, fun i hi => absurd hi (Nat.not_lt_zero _)⟩⟩
theorem si_g_app {t : List Nat} {a i : Nat} : si_g (t ++ [a]) i = if i = t.length then a else si_g t i := by
  by_cases e : i = t.length
  · subst e; rw [if_pos rfl]; simp [si_g]
  · rw [if_neg e]
    by_cases q : i < t.length
    · rw [si_g_in (by simp; omega), si_g_in q, List.getElem_append_left q]
    · rw [si_g_out (by simp; omega), si_g_out (by omega)]
theorem si_ch_n {a : Nat} (ha : a < 2 ^ 31) : si_ch (nI a) ↔ 32 ≤ a ∧ a ≤ 126 := by
  have h1 := nI_ltI (a := a) (b := 32) ha (by decide)
  have h2 := nI_ltI (a := 126) (b := a) (by decide) ha
  constructor
  · intro h
    refine ⟨?_, ?_⟩
    · apply Classical.byContradiction; intro z; exact h.1 (h1.mpr (by omega))
    · apply Classical.byContradiction; intro z; exact h.2 (h2.mpr (by omega))
  · exact fun h => ⟨fun z => by have := h1.mp z; omega, fun z => by have := h2.mp z; omega⟩
theorem si_ok_app {t : List Nat} {a : Nat} (h : si_ok t) (hl : t.length < 60) (ha : 32 ≤ a ∧ a ≤ 126) : si_ok (t ++ [a]) := by
  refine ⟨by simp; omega, fun c hc => ?_⟩
  rcases List.mem_append.mp hc with q | q
  · exact h.2 c q
  · rw [List.mem_singleton.mp q]; exact ha
theorem si_ln_app {t : List Nat} {f : Nat → Int32} {a : Nat} (h : si_ln t f) : si_ln (t ++ [a]) (upd f t.length (nI a)) := by
  intro i hi
  rw [si_g_app]
  by_cases e : i = t.length
  · subst e; rw [pk_us, if_pos rfl]
  · rw [pk_un e, if_neg e]
    simp at hi
    exact h i (by omega)
theorem si_sp_s {cx : Nat → Nat} {nn k row : Nat} {f : Nat → Int32} (hcx : ∀ x, x < nn + 1 → cx x < 128) (hk : k < nn) (hn : nn ≤ 60) (hr : row < nn + 1) (h : si_sp cx nn k row f) (hc : si_ch (nI (cx (si_fl cx (nn + 1) row)))) : si_sp cx nn (k + 1) (si_fl cx (nn + 1) row) (upd f k (nI (cx (si_fl cx (nn + 1) row)))) := by
  obtain ⟨t, hl, ho, hf, hall⟩ := h
  have hfr := (si_iv_ok (si_lf_bij cx (nn + 1)) hr).1
  have hc2 := (si_ch_n (by have := hcx _ hfr; unfold si_fl; omega)).mp hc
  refine ⟨t ++ [cx (si_fl cx (nn + 1) row)], by simp [hl], si_ok_app ho (by omega) hc2, by rw [← hl]; exact si_ln_app hf, fun v hv hvl hB => ?_⟩
  obtain ⟨e1, e2⟩ := hall v hv hvl hB
  subst hvl
  obtain ⟨g1, g2⟩ := si_fl_rk hv hB (k := k) hk
  rw [← e1] at g1
  refine ⟨g1, fun i hi => ?_⟩
  rw [si_g_app]
  by_cases e : i = t.length
  · rw [if_pos e, g1, g2, e, hl]
  · rw [if_neg e]; exact e2 i (by omega)
theorem si_sp_no {cx : Nat → Nat} {nn k row : Nat} {f : Nat → Int32} (hcx : ∀ x, x < nn + 1 → cx x < 128) (hk : k < nn) (hr : row < nn + 1) (h : si_sp cx nn k row f) (hc : ¬ si_ch (nI (cx (si_fl cx (nn + 1) row)))) : ∀ v, si_ok v → v.length = nn → (∀ x, x < nn + 1 → cx x = si_B v x) → False := by
  intro v hv hvl hB
  obtain ⟨t, hl, ho, hf, hall⟩ := h
  obtain ⟨e1, e2⟩ := hall v hv hvl hB
  subst hvl
  obtain ⟨g1, g2⟩ := si_fl_rk hv hB (k := k) hk
  rw [← e1] at g1
  rw [g1, g2] at hc
  exact hc ((si_ch_n (si_g_lt hv.2)).mpr (si_ok_at hv hk))
theorem si_sp_end {cx : Nat → Nat} {nn row : Nat} {f : Nat → Int32} (h : si_sp cx nn nn row f) : ∃ t, si_ok t ∧ t.length = nn ∧ si_ln t f ∧ ∀ v, si_ok v → v.length = nn → (∀ x, x < nn + 1 → cx x = si_B v x) → v = t := by
  obtain ⟨t, hl, ho, hf, hall⟩ := h
  refine ⟨t, ho, hl, hf, fun v hv hvl hB => ?_⟩
  obtain ⟨e1, e2⟩ := hall v hv hvl hB
  apply List.ext_getElem (by omega)
  intro i h1 h2
  have := e2 i (by omega)
  rwa [si_g_in h1, si_g_in h2] at this
set_option maxHeartbeats 4000000 in
set_option maxRecDepth 100000 in
/-- startOrder -/
theorem cB_startOrder (l : Launch) (g : si_G) (h0 b1 b2 b3 b4 nn : Nat) (fo : Nat → Int32) (hn : nn ≤ 60) : si_Mv (S := Nat → Int32) l g vwCl zyB_startOrder zwB_startOrder ({ frames := 0, cells := 0, slots := 0, locals := 0 } : Room) [.ref h0] [(h0, .inr (0, [.ref b1, .ref b2, .ref b3, .ref b4, .int (nI nn)])), (b2, .inl (g.2.1, 61, .inl fo))] (fun u => ∀ x, x < nn + 1 → u x = nI x) (fun u => [(h0, .inr (0, [.ref b1, .ref b2, .ref b3, .ref b4, .int (nI nn)])), (b2, .inl (g.2.1, 61, .inl u))]) := by
  refine si_Mv.of (cc := zkB_startOrder) (maxL := 2) (by decide) rfl (Nat.le_of_ble_eq_true rfl) ?_
  intro p e s m args below meth c A Q ls hF0 hin hK hN hP hD hA hS hl hret
  obtain ⟨hx, hb, hml, hown, hts0⟩ := hF0
  have hts : ∀ w ∈ si_tbl, w.before args s = true := fun w hw => hts0 w (List.mem_cons_of_mem _ hw)
  have hF : CallFix p m c zkB_startOrder 2 s args si_tbl zRB := ⟨hx, hb, hml, hown, hts⟩
  have hl : lv_has ls 2 [(0, .ref h0)] := hl
  refine lv_iconst (v := nI 0) hx hb zdB_startOrder_0 (by decide) ?_
  refine lv_istore_n (lv' := [(1, .int (nI 0)), (0, .ref h0)]) hx hb zdB_startOrder_1 rfl hl (Nat.le_of_ble_eq_true rfl) rfl (fun ls hl => ?_)
  have L2 : ∀ (N : Nat) (i : Nat) (f2 : Nat → Int32) (H : Heap) (locs : List Loc) (ls : Array Slot), nn + 1 - i < N → (i ≤ nn + 1) → (∀ x, x < i → f2 x = nI x) → lv_has ls 2 [(0, .ref h0), (1, .int (nI i))] → va_P g.1 vwCl [(h0, .inr (0, [.ref b1, .ref b2, .ref b3, .ref b4, .int (nI nn)])), (b2, .inl (g.2.1, 61, .inl f2))] H → va_D A [(h0, .inr (0, [.ref b1, .ref b2, .ref b3, .ref b4, .int (nI nn)])), (b2, .inl (g.2.1, 61, .inl f2))] → va_S A s.heap H locs → W p l e ({ frames := 0, cells := 0, slots := 0, locals := 0 } : Room) s m args below meth c H locs 0 0 Q (F0 m 2 ls []) := by
    intro N
    induction N with
    | zero => intro i f2 H locs ls hMs; exact absurd hMs (Nat.not_lt_zero _)
    | succ N ih2 =>
      intro i f2 H locs ls hMs hi hO hl hP hD hS
      refine lv_iload_n hx hb zdB_startOrder_2 rfl (lv_at hl 1 rfl) ?_
      refine lv_aload_n hx hb zdB_startOrder_3 rfl (lv_at hl 0 rfl) ?_
      refine va_get (D := g.1) (ci := 0) (v := .int (nI nn)) (C := zRB) (T := zTB) (N := 5) hx hb hts ziB hown hK hP 0 rfl rfl 4 (by decide) (hts _ zlB_24) (fun _ h => h) rfl zdB_startOrder_4 ?_
      refine si_icmp_gt (tgt := 23) hx hb zdB_startOrder_7 rfl (by omega) (by omega) (fun h7 => ?_) (fun h7 => ?_)
      · exact hret f2 _ _ _ _ (fun x hx => hO x (by omega)) (hP.sub [0, 1] rfl) (hD.sub [0, 1] (by decide) rfl) hS zdB_startOrder_23
      · refine lv_aload_n hx hb zdB_startOrder_10 rfl (lv_at hl 0 rfl) ?_
        refine va_get (D := g.1) (ci := 0) (v := .ref b2) (C := zRB) (T := zTB) (N := 5) hx hb hts ziB hown hK hP 0 rfl rfl 1 (by decide) (hts _ zlB_15) (fun _ h => h) rfl zdB_startOrder_11 ?_
        refine lv_iload_n hx hb zdB_startOrder_14 rfl (lv_at hl 1 rfl) ?_
        refine lv_iload_n hx hb zdB_startOrder_15 rfl (lv_at hl 1 rfl) ?_
        refine si_iast hx hb hK hP hD hS 1 0 rfl rfl (by decide) (by omega) zdB_startOrder_16 (fun H locs hP hD hS => ?_)
        have hP : va_P g.1 vwCl [(h0, .inr (0, [.ref b1, .ref b2, .ref b3, .ref b4, .int (nI nn)])), (b2, .inl (g.2.1, 61, .inl (upd f2 i (nI i))))] H := hP
        have hD : va_D A [(h0, .inr (0, [.ref b1, .ref b2, .ref b3, .ref b4, .int (nI nn)])), (b2, .inl (g.2.1, 61, .inl (upd f2 i (nI i))))] := hD
        refine lv_iinc (k := 1) (v := nI (i + 1)) (lv' := [(1, .int (nI (i + 1))), (0, .ref h0)]) hx hb zdB_startOrder_17 hl rfl (si_inc _) (Nat.le_of_ble_eq_true rfl) rfl (fun ls hl => ?_)
        refine lv_goto (tgt := 2) hx hb zdB_startOrder_20 rfl ?_
        exact ih2 (i + 1) (upd f2 i (nI i)) _ _ _ (by omega) (by omega) (si_up (F := fun x => nI x) hO rfl) (lv_sub hl [1, 0] rfl) (hP.sub [0, 1] rfl) (hD.sub [0, 1] (by decide) rfl) hS
  exact L2 (nn + 1 - 0 + 1) 0 fo _ _ _ (by omega) (by omega) (fun x hx => absurd hx (Nat.not_lt_zero _)) (lv_sub hl [1, 0] rfl) (hP.sub [0, 1] rfl) (hD.sub [0, 1] (by decide) rfl) hS

set_option maxHeartbeats 4000000 in
set_option maxRecDepth 100000 in
/-- partOrder -/
theorem cB_partOrder (l : Launch) (g : si_G) (h0 b1 b2 b3 b4 nn : Nat) (fo fn : Nat → Int32) (w : Int64) (hn : nn ≤ 60) : si_Mv (S := (Nat → Int32) × (Nat → Int32)) l g vwCl zyB_partOrder zwB_partOrder ({ frames := 0, cells := 0, slots := 0, locals := 0 } : Room) [.ref h0, .long w] [(h0, .inr (0, [.ref b1, .ref b2, .ref b3, .ref b4, .int (nI nn)])), (b2, .inl (g.2.1, 61, .inl fo)), (b3, .inl (g.2.1, 61, .inl fn))] (fun u => ∀ x, x < nn + 1 → u.1 (si_ps (nn + 1) (si_bi w) x) = fo x) (fun u => [(h0, .inr (0, [.ref b1, .ref b2, .ref b3, .ref b4, .int (nI nn)])), (b2, .inl (g.2.1, 61, .inl u.1)), (b3, .inl (g.2.1, 61, .inl u.2))]) := by
  refine si_Mv.of (cc := zkB_partOrder) (maxL := 6) (by decide) rfl (Nat.le_of_ble_eq_true rfl) ?_
  intro p e s m args below meth c A Q ls hF0 hin hK hN hP hD hA hS hl hret
  obtain ⟨hx, hb, hml, hown, hts0⟩ := hF0
  have hts : ∀ w ∈ si_tbl, w.before args s = true := fun w hw => hts0 w (List.mem_cons_of_mem _ hw)
  have hF : CallFix p m c zkB_partOrder 6 s args si_tbl zRB := ⟨hx, hb, hml, hown, hts⟩
  have hl : lv_has ls 6 [(0, .ref h0), (1, .long w)] := hl
  refine lv_iconst (v := nI 0) hx hb zdB_partOrder_0 (by decide) ?_
  refine lv_istore_n (lv' := [(3, .int (nI 0)), (0, .ref h0), (1, .long w)]) hx hb zdB_partOrder_1 rfl hl (Nat.le_of_ble_eq_true rfl) rfl (fun ls hl => ?_)
  refine lv_iconst (v := nI 0) hx hb zdB_partOrder_2 (by decide) ?_
  refine lv_istore (lv' := [(4, .int (nI 0)), (3, .int (nI 0)), (0, .ref h0), (1, .long w)]) hx hb zdB_partOrder_3 hl (Nat.le_of_ble_eq_true rfl) rfl (fun ls hl => ?_)
  refine lv_iconst (v := nI 0) hx hb zdB_partOrder_5 (by decide) ?_
  refine lv_istore (lv' := [(5, .int (nI 0)), (4, .int (nI 0)), (3, .int (nI 0)), (0, .ref h0), (1, .long w)]) hx hb zdB_partOrder_6 hl (Nat.le_of_ble_eq_true rfl) rfl (fun ls hl => ?_)
  have L8 : ∀ (N : Nat) (i : Nat) (zc : Nat) (oc : Nat) (f2 : Nat → Int32) (f3 : Nat → Int32) (H : Heap) (locs : List Loc) (ls : Array Slot), nn + 1 - i < N → (i ≤ nn + 1) → (zc = si_cn i (fun k => !si_bi w k)) → (oc = si_cn i (si_bi w)) → (∀ x, x < i → si_bi w x = false → f2 (si_cn x (fun k => !si_bi w k)) = fo x) → (∀ x, x < i → si_bi w x = true → f3 (si_cn x (si_bi w)) = fo x) → (∀ x, i ≤ x → f2 x = fo x) → lv_has ls 6 [(0, .ref h0), (1, .long w), (3, .int (nI zc)), (4, .int (nI oc)), (5, .int (nI i))] → va_P g.1 vwCl [(h0, .inr (0, [.ref b1, .ref b2, .ref b3, .ref b4, .int (nI nn)])), (b2, .inl (g.2.1, 61, .inl f2)), (b3, .inl (g.2.1, 61, .inl f3))] H → va_D A [(h0, .inr (0, [.ref b1, .ref b2, .ref b3, .ref b4, .int (nI nn)])), (b2, .inl (g.2.1, 61, .inl f2)), (b3, .inl (g.2.1, 61, .inl f3))] → va_S A s.heap H locs → W p l e ({ frames := 0, cells := 0, slots := 0, locals := 0 } : Room) s m args below meth c H locs 0 0 Q (F0 m 8 ls []) := by
    intro N
    induction N with
    | zero => intro i zc oc f2 f3 H locs ls hMs; exact absurd hMs (Nat.not_lt_zero _)
    | succ N ih8 =>
      intro i zc oc f2 f3 H locs ls hMs hi hz ho hZ hO hT hl hP hD hS
      refine lv_iload hx hb zdB_partOrder_8 (lv_at hl 4 rfl) ?_
      refine lv_aload_n hx hb zdB_partOrder_10 rfl (lv_at hl 0 rfl) ?_
      refine va_get (D := g.1) (ci := 0) (v := .int (nI nn)) (C := zRB) (T := zTB) (N := 5) hx hb hts ziB hown hK hP 0 rfl rfl 4 (by decide) (hts _ zlB_24) (fun _ h => h) rfl zdB_partOrder_11 ?_
      refine si_icmp_gt (tgt := 70) hx hb zdB_partOrder_14 rfl (by omega) (by omega) (fun h14 => ?_) (fun h14 => ?_)
      · have hie : i = nn + 1 := by omega
        have hz2 : zc = si_cn (nn + 1) (fun k => !si_bi w k) := by rw [hz, hie]
        have ho2 : oc = si_cn (nn + 1) (si_bi w) := by rw [ho, hie]
        have hsum := si_cn_not (nn + 1) (si_bi w)
        have hO2 : ∀ x, x < nn + 1 → si_bi w x = true → f3 (si_cn x (si_bi w)) = fo x := fun x hx => hO x (by omega)
        refine lv_iconst (v := nI 0) hx hb zdB_partOrder_70 (by decide) ?_
        refine lv_istore (lv' := [(5, .int (nI 0)), (0, .ref h0), (1, .long w), (3, .int (nI zc)), (4, .int (nI oc))]) hx hb zdB_partOrder_71 hl (Nat.le_of_ble_eq_true rfl) rfl (fun ls hl => ?_)
        have L73 : ∀ (N : Nat) (i : Nat) (f2 : Nat → Int32) (H : Heap) (locs : List Loc) (ls : Array Slot), oc - i < N → (i ≤ oc) → (∀ x, x < nn + 1 → si_bi w x = false → f2 (si_cn x (fun k => !si_bi w k)) = fo x) → (∀ x, x < nn + 1 → si_bi w x = true → si_cn x (si_bi w) < i → f2 (zc + si_cn x (si_bi w)) = fo x) → lv_has ls 6 [(0, .ref h0), (1, .long w), (3, .int (nI zc)), (4, .int (nI oc)), (5, .int (nI i))] → va_P g.1 vwCl [(h0, .inr (0, [.ref b1, .ref b2, .ref b3, .ref b4, .int (nI nn)])), (b2, .inl (g.2.1, 61, .inl f2)), (b3, .inl (g.2.1, 61, .inl f3))] H → va_D A [(h0, .inr (0, [.ref b1, .ref b2, .ref b3, .ref b4, .int (nI nn)])), (b2, .inl (g.2.1, 61, .inl f2)), (b3, .inl (g.2.1, 61, .inl f3))] → va_S A s.heap H locs → W p l e ({ frames := 0, cells := 0, slots := 0, locals := 0 } : Room) s m args below meth c H locs 0 0 Q (F0 m 73 ls []) := by
          intro N
          induction N with
          | zero => intro i f2 H locs ls hMs; exact absurd hMs (Nat.not_lt_zero _)
          | succ N ih73 =>
            intro i f2 H locs ls hMs hi2 hZ2 hC hl hP hD hS
            refine lv_iload hx hb zdB_partOrder_73 (lv_at hl 4 rfl) ?_
            refine lv_iload hx hb zdB_partOrder_75 (lv_at hl 3 rfl) ?_
            refine si_icmp_ge (tgt := 102) hx hb zdB_partOrder_77 rfl (by omega) (by omega) (fun h77 => ?_) (fun h77 => ?_)
            · have hie2 : i = oc := by omega
              exact hret (f2, f3) _ _ _ _ (si_poE hz2 ho2 hZ2 (fun x hx hb9 hl9 => hC x hx hb9 (by omega))) (hP.sub [0, 1, 2] rfl) (hD.sub [0, 1, 2] (by decide) rfl) hS zdB_partOrder_102
            · refine lv_aload_n hx hb zdB_partOrder_80 rfl (lv_at hl 0 rfl) ?_
              refine va_get (D := g.1) (ci := 0) (v := .ref b2) (C := zRB) (T := zTB) (N := 5) hx hb hts ziB hown hK hP 0 rfl rfl 1 (by decide) (hts _ zlB_15) (fun _ h => h) rfl zdB_partOrder_81 ?_
              refine lv_iload_n hx hb zdB_partOrder_84 rfl (lv_at hl 2 rfl) ?_
              refine lv_iload hx hb zdB_partOrder_85 (lv_at hl 4 rfl) ?_
              refine si_iadd (v := nI (zc + i)) hx hb zdB_partOrder_87 (nI_add _ _) ?_
              refine lv_aload_n hx hb zdB_partOrder_88 rfl (lv_at hl 0 rfl) ?_
              refine va_get (D := g.1) (ci := 0) (v := .ref b3) (C := zRB) (T := zTB) (N := 5) hx hb hts ziB hown hK hP 0 rfl rfl 2 (by decide) (hts _ zlB_18) (fun _ h => h) rfl zdB_partOrder_89 ?_
              refine lv_iload hx hb zdB_partOrder_92 (lv_at hl 4 rfl) ?_
              refine si_iald (v := f3 i) hx hb hK hP 2 0 rfl rfl (by decide) (by omega) (rfl) zdB_partOrder_94 ?_
              refine si_iast hx hb hK hP hD hS 1 0 rfl rfl (by decide) (by omega) zdB_partOrder_95 (fun H locs hP hD hS => ?_)
              have hP : va_P g.1 vwCl [(h0, .inr (0, [.ref b1, .ref b2, .ref b3, .ref b4, .int (nI nn)])), (b2, .inl (g.2.1, 61, .inl (upd f2 (zc + i) (f3 i)))), (b3, .inl (g.2.1, 61, .inl f3))] H := hP
              have hD : va_D A [(h0, .inr (0, [.ref b1, .ref b2, .ref b3, .ref b4, .int (nI nn)])), (b2, .inl (g.2.1, 61, .inl (upd f2 (zc + i) (f3 i)))), (b3, .inl (g.2.1, 61, .inl f3))] := hD
              refine lv_iinc (k := 4) (v := nI (i + 1)) (lv' := [(5, .int (nI (i + 1))), (0, .ref h0), (1, .long w), (3, .int (nI zc)), (4, .int (nI oc))]) hx hb zdB_partOrder_96 hl rfl (si_inc _) (Nat.le_of_ble_eq_true rfl) rfl (fun ls hl => ?_)
              refine lv_goto (tgt := 73) hx hb zdB_partOrder_99 rfl ?_
              exact ih73 (i + 1) (upd f2 (zc + i) (f3 i)) _ _ _ (by omega) (by omega) (si_poK hz2 hZ2) (si_poC hz2 h77 hC hO2) (lv_sub hl [1, 2, 3, 4, 0] rfl) (hP.sub [0, 1, 2] rfl) (hD.sub [0, 1, 2] (by decide) rfl) hS
        exact L73 (oc - 0 + 1) 0 f2 _ _ _ (by omega) (by omega) (fun x hx => hZ x (by omega)) (fun x _ _ h => absurd h (Nat.not_lt_zero _)) (lv_sub hl [1, 2, 3, 4, 0] rfl) (hP.sub [0, 1, 2] rfl) (hD.sub [0, 1, 2] (by decide) rfl) hS
      · have hzl : zc ≤ i := by rw [hz]; exact si_cn_le _ _
        have hol : oc ≤ i := by rw [ho]; exact si_cn_le _ _
        refine lv_lload_n hx hb zdB_partOrder_17 rfl (lv_at hl 1 rfl) ?_
        refine lv_iload hx hb zdB_partOrder_18 (lv_at hl 4 rfl) ?_
        refine lv_lushr (v := (w.toUInt64 >>> ((nI i).toInt64.toUInt64 &&& Int64.toUInt64 63)).toInt64) hx hb zdB_partOrder_20 (rfl) ?_
        refine lv_lconst (v := 1) hx hb zdB_partOrder_21 (by decide) ?_
        refine si_land (v := if si_bi w i = true then 1 else 0) hx hb zdB_partOrder_22 (si_ush w (by omega)) ?_
        refine lv_lconst (v := 0) hx hb zdB_partOrder_23 (by decide) ?_
        refine W.lcmp hx hb zdB_partOrder_24 ?_
        refine lv_if_ne (tgt := 47) hx hb zdB_partOrder_25 rfl (fun h25 => ?_) (fun h25 => ?_)
        · have hbt : si_bi w i = true := si_nf (fun z => h25 ((si_bz _).mpr z))
          refine lv_aload_n hx hb zdB_partOrder_47 rfl (lv_at hl 0 rfl) ?_
          refine va_get (D := g.1) (ci := 0) (v := .ref b3) (C := zRB) (T := zTB) (N := 5) hx hb hts ziB hown hK hP 0 rfl rfl 2 (by decide) (hts _ zlB_18) (fun _ h => h) rfl zdB_partOrder_48 ?_
          refine lv_iload hx hb zdB_partOrder_51 (lv_at hl 3 rfl) ?_
          refine lv_aload_n hx hb zdB_partOrder_53 rfl (lv_at hl 0 rfl) ?_
          refine va_get (D := g.1) (ci := 0) (v := .ref b2) (C := zRB) (T := zTB) (N := 5) hx hb hts ziB hown hK hP 0 rfl rfl 1 (by decide) (hts _ zlB_15) (fun _ h => h) rfl zdB_partOrder_54 ?_
          refine lv_iload hx hb zdB_partOrder_57 (lv_at hl 4 rfl) ?_
          refine si_iald (v := fo i) hx hb hK hP 1 0 rfl rfl (by decide) (by omega) (hT i (Nat.le_refl _)) zdB_partOrder_59 ?_
          refine si_iast hx hb hK hP hD hS 2 0 rfl rfl (by decide) (by omega) zdB_partOrder_60 (fun H locs hP hD hS => ?_)
          have hP : va_P g.1 vwCl [(h0, .inr (0, [.ref b1, .ref b2, .ref b3, .ref b4, .int (nI nn)])), (b2, .inl (g.2.1, 61, .inl f2)), (b3, .inl (g.2.1, 61, .inl (upd f3 oc (fo i))))] H := hP
          have hD : va_D A [(h0, .inr (0, [.ref b1, .ref b2, .ref b3, .ref b4, .int (nI nn)])), (b2, .inl (g.2.1, 61, .inl f2)), (b3, .inl (g.2.1, 61, .inl (upd f3 oc (fo i))))] := hD
          refine lv_iinc (k := 3) (v := nI (oc + 1)) (lv' := [(4, .int (nI (oc + 1))), (0, .ref h0), (1, .long w), (3, .int (nI zc)), (5, .int (nI i))]) hx hb zdB_partOrder_61 hl rfl (si_inc _) (Nat.le_of_ble_eq_true rfl) rfl (fun ls hl => ?_)
          refine lv_iinc (k := 4) (v := nI (i + 1)) (lv' := [(5, .int (nI (i + 1))), (4, .int (nI (oc + 1))), (0, .ref h0), (1, .long w), (3, .int (nI zc))]) hx hb zdB_partOrder_64 hl rfl (si_inc _) (Nat.le_of_ble_eq_true rfl) rfl (fun ls hl => ?_)
          refine lv_goto (tgt := 8) hx hb zdB_partOrder_67 rfl ?_
          exact ih8 (i + 1) zc (oc + 1) f2 (upd f3 oc (fo i)) _ _ _ (by omega) (by omega) (by first | (rw [si_cn_t (P := (fun k => !si_bi w k)) (by simp [hbf]), hz]; done) | (rw [si_cn_f (P := (fun k => !si_bi w k)) (by simp [hbt]), hz]; done)) (by first | (rw [si_cn_t hbt, ho]; done) | (rw [si_cn_f hbf, ho]; done)) (by first | exact si_poZ hz hZ | exact si_poS (v := true) hbt hZ) (by first | exact si_poO ho hO | exact si_poS (v := false) hbf hO) (fun x hx => by first | exact hT x (by omega) | (rw [pk_un (by omega)]; exact hT x (by omega))) (lv_sub hl [2, 3, 4, 1, 0] rfl) (hP.sub [0, 1, 2] rfl) (hD.sub [0, 1, 2] (by decide) rfl) hS
        · have hbf : si_bi w i = false := (si_bz _).mp h25
          refine lv_aload_n hx hb zdB_partOrder_28 rfl (lv_at hl 0 rfl) ?_
          refine va_get (D := g.1) (ci := 0) (v := .ref b2) (C := zRB) (T := zTB) (N := 5) hx hb hts ziB hown hK hP 0 rfl rfl 1 (by decide) (hts _ zlB_15) (fun _ h => h) rfl zdB_partOrder_29 ?_
          refine lv_iload_n hx hb zdB_partOrder_32 rfl (lv_at hl 2 rfl) ?_
          refine lv_aload_n hx hb zdB_partOrder_33 rfl (lv_at hl 0 rfl) ?_
          refine va_get (D := g.1) (ci := 0) (v := .ref b2) (C := zRB) (T := zTB) (N := 5) hx hb hts ziB hown hK hP 0 rfl rfl 1 (by decide) (hts _ zlB_15) (fun _ h => h) rfl zdB_partOrder_34 ?_
          refine lv_iload hx hb zdB_partOrder_37 (lv_at hl 4 rfl) ?_
          refine si_iald (v := fo i) hx hb hK hP 1 0 rfl rfl (by decide) (by omega) (hT i (Nat.le_refl _)) zdB_partOrder_39 ?_
          refine si_iast hx hb hK hP hD hS 1 0 rfl rfl (by decide) (by omega) zdB_partOrder_40 (fun H locs hP hD hS => ?_)
          have hP : va_P g.1 vwCl [(h0, .inr (0, [.ref b1, .ref b2, .ref b3, .ref b4, .int (nI nn)])), (b2, .inl (g.2.1, 61, .inl (upd f2 zc (fo i)))), (b3, .inl (g.2.1, 61, .inl f3))] H := hP
          have hD : va_D A [(h0, .inr (0, [.ref b1, .ref b2, .ref b3, .ref b4, .int (nI nn)])), (b2, .inl (g.2.1, 61, .inl (upd f2 zc (fo i)))), (b3, .inl (g.2.1, 61, .inl f3))] := hD
          refine lv_iinc (k := 2) (v := nI (zc + 1)) (lv' := [(3, .int (nI (zc + 1))), (0, .ref h0), (1, .long w), (4, .int (nI oc)), (5, .int (nI i))]) hx hb zdB_partOrder_41 hl rfl (si_inc _) (Nat.le_of_ble_eq_true rfl) rfl (fun ls hl => ?_)
          refine lv_goto (tgt := 64) hx hb zdB_partOrder_44 rfl ?_
          refine lv_iinc (k := 4) (v := nI (i + 1)) (lv' := [(5, .int (nI (i + 1))), (3, .int (nI (zc + 1))), (0, .ref h0), (1, .long w), (4, .int (nI oc))]) hx hb zdB_partOrder_64 hl rfl (si_inc _) (Nat.le_of_ble_eq_true rfl) rfl (fun ls hl => ?_)
          refine lv_goto (tgt := 8) hx hb zdB_partOrder_67 rfl ?_
          exact ih8 (i + 1) (zc + 1) oc (upd f2 zc (fo i)) f3 _ _ _ (by omega) (by omega) (by first | (rw [si_cn_t (P := (fun k => !si_bi w k)) (by simp [hbf]), hz]; done) | (rw [si_cn_f (P := (fun k => !si_bi w k)) (by simp [hbt]), hz]; done)) (by first | (rw [si_cn_t hbt, ho]; done) | (rw [si_cn_f hbf, ho]; done)) (by first | exact si_poZ hz hZ | exact si_poS (v := true) hbt hZ) (by first | exact si_poO ho hO | exact si_poS (v := false) hbf hO) (fun x hx => by first | exact hT x (by omega) | (rw [pk_un (by omega)]; exact hT x (by omega))) (lv_sub hl [2, 3, 1, 4, 0] rfl) (hP.sub [0, 1, 2] rfl) (hD.sub [0, 1, 2] (by decide) rfl) hS
  exact L8 (nn + 1 - 0 + 1) 0 0 0 fo fn _ _ _ (by omega) (by omega) (rfl) (rfl) (fun x hx => absurd hx (Nat.not_lt_zero _)) (fun x hx => absurd hx (Nat.not_lt_zero _)) (fun x _ => rfl) (lv_sub hl [3, 4, 2, 1, 0] rfl) (hP.sub [0, 1, 2] rfl) (hD.sub [0, 1, 2] (by decide) rfl) hS

set_option maxHeartbeats 4000000 in
set_option maxRecDepth 100000 in
/-- takeFrom -/
theorem cB_takeFrom (l : Launch) (g : si_G) (h0 b1 b2 b3 b4 h2 a2 a3 : Nat) (last : Int32) (fc fp : Nat → Int32) (h1 a1 cap : Nat) (f : Nat → Int32) (t : List Nat) (hcap : cap < 2 ^ 20) (htc : t.length ≤ cap) (hok : si_ok t) (hf : si_ln t f) (hpl : ∀ x, x < t.length + 1 → fp x = nI (si_pl t x)) : si_Mv (S := Nat → Int32) l g vwCl zyB_takeFrom zwB_takeFrom ({ frames := 1, cells := 0, slots := 0, locals := 21 } : Room) [.ref h0, .ref h1, .ref h2] [(h0, .inr (0, [.ref b1, .ref b2, .ref b3, .ref b4, .int last])), (b1, .inl (g.2.1, 61, .inl fc)), (h1, .inr (2, [.ref a1, .int (nI t.length)])), (a1, .inl (g.2.1, cap, .inl f)), (h2, .inr (4, [.ref a2, .ref a3, .int (nI t.length)])), (a3, .inl (g.2.1, 61, .inl fp))] (fun u => ∀ x, x < t.length + 1 → u x = nI (si_B t x)) (fun u => [(h0, .inr (0, [.ref b1, .ref b2, .ref b3, .ref b4, .int (nI t.length)])), (b1, .inl (g.2.1, 61, .inl u)), (h1, .inr (2, [.ref a1, .int (nI t.length)])), (a1, .inl (g.2.1, cap, .inl f)), (h2, .inr (4, [.ref a2, .ref a3, .int (nI t.length)])), (a3, .inl (g.2.1, 61, .inl fp))]) := by
  refine si_Mv.of (cc := zkB_takeFrom) (maxL := 4) (by decide) rfl (Nat.le_of_ble_eq_true rfl) ?_
  intro p e s m args below meth c A Q ls hF0 hin hK hN hP hD hA hS hl hret
  obtain ⟨hx, hb, hml, hown, hts0⟩ := hF0
  have hts : ∀ w ∈ si_tbl, w.before args s = true := fun w hw => hts0 w (List.mem_cons_of_mem _ hw)
  have hF : CallFix p m c zkB_takeFrom 4 s args si_tbl zRB := ⟨hx, hb, hml, hown, hts⟩
  have hl : lv_has ls 4 [(0, .ref h0), (1, .ref h1), (2, .ref h2)] := hl
  have hn := hok.1
  refine lv_aload_n hx hb zdB_takeFrom_0 rfl (lv_at hl 0 rfl) ?_
  refine lv_aload_n hx hb zdB_takeFrom_1 rfl (lv_at hl 2 rfl) ?_
  refine va_getN (D := g.1) (ci := 4) (v := .int (nI t.length)) (C := zRS) (T := zTS) (N := 3) hx hb hts ziS hown hK hP 4 rfl rfl 2 (by decide) (va_Nw.use rfl (hN _ zlB_28)) (fun _ h => h) rfl zdB_takeFrom_2 ?_
  refine va_put (D := g.1) (ci := 0) (v := .int (nI t.length)) (ty := .int) (C := zRB) (T := zTB) (N := 5) hx hb hts ziB ztB ztoB znB hown hK hP hD hS 0 rfl rfl 4 (by decide) (hts _ zlB_24) (fun _ h => h) rfl (by decide +kernel) rfl rfl (Nat.le_of_ble_eq_true rfl) zdB_takeFrom_5 (fun H locs hP hD hS => ?_)
  have hP : va_P g.1 vwCl [(h0, .inr (0, [.ref b1, .ref b2, .ref b3, .ref b4, .int (nI t.length)])), (b1, .inl (g.2.1, 61, .inl fc)), (h1, .inr (2, [.ref a1, .int (nI t.length)])), (a1, .inl (g.2.1, cap, .inl f)), (h2, .inr (4, [.ref a2, .ref a3, .int (nI t.length)])), (a3, .inl (g.2.1, 61, .inl fp))] H := hP
  have hD : va_D A [(h0, .inr (0, [.ref b1, .ref b2, .ref b3, .ref b4, .int (nI t.length)])), (b1, .inl (g.2.1, 61, .inl fc)), (h1, .inr (2, [.ref a1, .int (nI t.length)])), (a1, .inl (g.2.1, cap, .inl f)), (h2, .inr (4, [.ref a2, .ref a3, .int (nI t.length)])), (a3, .inl (g.2.1, 61, .inl fp))] := hD
  refine lv_iconst (v := nI 0) hx hb zdB_takeFrom_8 (by decide) ?_
  refine lv_istore_n (lv' := [(3, .int (nI 0)), (0, .ref h0), (1, .ref h1), (2, .ref h2)]) hx hb zdB_takeFrom_9 rfl hl (Nat.le_of_ble_eq_true rfl) rfl (fun ls hl => ?_)
  have L10 : ∀ (N : Nat) (k : Nat) (f2 : Nat → Int32) (H : Heap) (locs : List Loc) (ls : Array Slot), t.length + 1 - k < N → (k ≤ t.length + 1) → (∀ x, x < k → f2 x = nI (si_B t x)) → lv_has ls 4 [(0, .ref h0), (1, .ref h1), (2, .ref h2), (3, .int (nI k))] → va_P g.1 vwCl [(h0, .inr (0, [.ref b1, .ref b2, .ref b3, .ref b4, .int (nI t.length)])), (b1, .inl (g.2.1, 61, .inl f2)), (h1, .inr (2, [.ref a1, .int (nI t.length)])), (a1, .inl (g.2.1, cap, .inl f)), (h2, .inr (4, [.ref a2, .ref a3, .int (nI t.length)])), (a3, .inl (g.2.1, 61, .inl fp))] H → va_D A [(h0, .inr (0, [.ref b1, .ref b2, .ref b3, .ref b4, .int (nI t.length)])), (b1, .inl (g.2.1, 61, .inl f2)), (h1, .inr (2, [.ref a1, .int (nI t.length)])), (a1, .inl (g.2.1, cap, .inl f)), (h2, .inr (4, [.ref a2, .ref a3, .int (nI t.length)])), (a3, .inl (g.2.1, 61, .inl fp))] → va_S A s.heap H locs → W p l e ({ frames := 1, cells := 0, slots := 0, locals := 21 } : Room) s m args below meth c H locs 0 0 Q (F0 m 10 ls []) := by
    intro N
    induction N with
    | zero => intro k f2 H locs ls hMs; exact absurd hMs (Nat.not_lt_zero _)
    | succ N ih10 =>
      intro k f2 H locs ls hMs hk hC hl hP hD hS
      refine lv_iload_n hx hb zdB_takeFrom_10 rfl (lv_at hl 3 rfl) ?_
      refine lv_aload_n hx hb zdB_takeFrom_11 rfl (lv_at hl 0 rfl) ?_
      refine va_get (D := g.1) (ci := 0) (v := .int (nI t.length)) (C := zRB) (T := zTB) (N := 5) hx hb hts ziB hown hK hP 0 rfl rfl 4 (by decide) (hts _ zlB_24) (fun _ h => h) rfl zdB_takeFrom_12 ?_
      refine si_icmp_gt (tgt := 42) hx hb zdB_takeFrom_15 rfl (by omega) (by omega) (fun h15 => ?_) (fun h15 => ?_)
      · exact hret f2 _ _ _ _ (fun x hx => hC x (by omega)) (hP.sub [0, 1, 2, 3, 4, 5] rfl) (hD.sub [0, 1, 2, 3, 4, 5] (by decide) rfl) hS zdB_takeFrom_42
      · refine lv_aload_n hx hb zdB_takeFrom_18 rfl (lv_at hl 0 rfl) ?_
        refine va_get (D := g.1) (ci := 0) (v := .ref b1) (C := zRB) (T := zTB) (N := 5) hx hb hts ziB hown hK hP 0 rfl rfl 0 (by decide) (hts _ zlB_9) (fun _ h => h) rfl zdB_takeFrom_19 ?_
        refine lv_iload_n hx hb zdB_takeFrom_22 rfl (lv_at hl 3 rfl) ?_
        refine lv_aload_n hx hb zdB_takeFrom_23 rfl (lv_at hl 1 rfl) ?_
        refine lv_aload_n hx hb zdB_takeFrom_24 rfl (lv_at hl 2 rfl) ?_
        refine va_getN (D := g.1) (ci := 4) (v := .ref a3) (C := zRS) (T := zTS) (N := 3) hx hb hts ziS hown hK hP 4 rfl rfl 1 (by decide) (va_Nw.use rfl (hN _ zlB_31)) (fun _ h => h) rfl zdB_takeFrom_25 ?_
        refine lv_iload_n hx hb zdB_takeFrom_28 rfl (lv_at hl 3 rfl) ?_
        refine si_iald (v := nI (si_pl t k)) hx hb hK hP 5 0 rfl rfl (by decide) (by omega) (hpl k (by omega)) zdB_takeFrom_29 ?_
        refine lv_iconst (v := nI 1) hx hb zdB_takeFrom_30 (by decide) ?_
        refine si_isub (v := nI (si_pl t k) - nI 1) hx hb zdB_takeFrom_31 (rfl) ?_
        refine (cL_codeAt l g h1 a1 cap t.length f (nI (si_pl t k) - nI 1) (nI (si_B t k)) (by omega) (by omega) (si_ca_b hf (si_pl_ok (by omega)).1 (by omega))).callV (wr := [(h0, .inr (0, [.ref b1, .ref b2, .ref b3, .ref b4, .int (nI t.length)])), (b1, .inl (g.2.1, 61, .inl f2)), (h2, .inr (4, [.ref a2, .ref a3, .int (nI t.length)])), (a3, .inl (g.2.1, 61, .inl fp))]) (As := [.int (nI (si_pl t k) - nI 1)]) (rest := [.int (nI k), .ref b1]) hF (si_cV 1 hts zcL_codeAt zlB_34 zimL_codeAt zseL_codeAt ziniL zhL_codeAt ⟨Nat.le_of_ble_eq_true rfl, Nat.le_of_ble_eq_true rfl⟩) hK hN hP hD hS hA [2, 3] [0, 1, 4, 5] rfl rfl (by decide) (by decide) (va_recv (q := (zRL, zTL, 2)) hK hP (ci := 2) (q0 := 2) rfl rfl) rfl hl.1 rfl (Nat.le_of_ble_eq_true rfl) zdB_takeFrom_32 ⟨Nat.le_of_ble_eq_true rfl, Nat.le_of_ble_eq_true rfl⟩ rfl rfl (fun r_ _u H locs hq hP hD hS => ?_)
        subst hq
        have hP : va_P g.1 vwCl [(h0, .inr (0, [.ref b1, .ref b2, .ref b3, .ref b4, .int (nI t.length)])), (b1, .inl (g.2.1, 61, .inl f2)), (h2, .inr (4, [.ref a2, .ref a3, .int (nI t.length)])), (a3, .inl (g.2.1, 61, .inl fp)), (h1, .inr (2, [.ref a1, .int (nI t.length)])), (a1, .inl (g.2.1, cap, .inl f))] H := hP
        have hD : va_D A [(h0, .inr (0, [.ref b1, .ref b2, .ref b3, .ref b4, .int (nI t.length)])), (b1, .inl (g.2.1, 61, .inl f2)), (h2, .inr (4, [.ref a2, .ref a3, .int (nI t.length)])), (a3, .inl (g.2.1, 61, .inl fp)), (h1, .inr (2, [.ref a1, .int (nI t.length)])), (a1, .inl (g.2.1, cap, .inl f))] := hD
        refine si_iast hx hb hK hP hD hS 1 0 rfl rfl (by decide) (by omega) zdB_takeFrom_35 (fun H locs hP hD hS => ?_)
        have hP : va_P g.1 vwCl [(h0, .inr (0, [.ref b1, .ref b2, .ref b3, .ref b4, .int (nI t.length)])), (b1, .inl (g.2.1, 61, .inl (upd f2 k (nI (si_B t k))))), (h2, .inr (4, [.ref a2, .ref a3, .int (nI t.length)])), (a3, .inl (g.2.1, 61, .inl fp)), (h1, .inr (2, [.ref a1, .int (nI t.length)])), (a1, .inl (g.2.1, cap, .inl f))] H := hP
        have hD : va_D A [(h0, .inr (0, [.ref b1, .ref b2, .ref b3, .ref b4, .int (nI t.length)])), (b1, .inl (g.2.1, 61, .inl (upd f2 k (nI (si_B t k))))), (h2, .inr (4, [.ref a2, .ref a3, .int (nI t.length)])), (a3, .inl (g.2.1, 61, .inl fp)), (h1, .inr (2, [.ref a1, .int (nI t.length)])), (a1, .inl (g.2.1, cap, .inl f))] := hD
        refine lv_iinc (k := 3) (v := nI (k + 1)) (lv' := [(3, .int (nI (k + 1))), (0, .ref h0), (1, .ref h1), (2, .ref h2)]) hx hb zdB_takeFrom_36 hl rfl (si_inc _) (Nat.le_of_ble_eq_true rfl) rfl (fun ls hl => ?_)
        refine lv_goto (tgt := 10) hx hb zdB_takeFrom_39 rfl ?_
        exact ih10 (k + 1) (upd f2 k (nI (si_B t k))) _ _ _ (by omega) (by omega) (si_up (F := fun x => nI (si_B t x)) hC rfl) (lv_sub hl [1, 2, 3, 0] rfl) (hP.sub [0, 1, 4, 5, 2, 3] rfl) (hD.sub [0, 1, 4, 5, 2, 3] (by decide) rfl) hS
  exact L10 (t.length + 1 - 0 + 1) 0 fc _ _ _ (by omega) (by omega) (fun x hx => absurd hx (Nat.not_lt_zero _)) (lv_sub hl [1, 2, 3, 0] rfl) (hP.sub [0, 1, 2, 3, 4, 5] rfl) (hD.sub [0, 1, 2, 3, 4, 5] (by decide) rfl) hS

set_option maxHeartbeats 4000000 in
set_option maxRecDepth 100000 in
/-- rowBefore -/
theorem cB_rowBefore (l : Launch) (g : si_G) (h0 b1 b2 b3 b4 nn : Nat) (fc : Nat → Int32) (cx : Nat → Nat) (kr : Nat) (hn : nn ≤ 60) (hcx : ∀ x, x < nn + 1 → fc x = nI (cx x)) (hc7 : ∀ x, x < nn + 1 → cx x < 128) (hkr : kr < nn + 1) : si_Mi (S := Unit) l g vwCl zyB_rowBefore zwB_rowBefore ({ frames := 0, cells := 0, slots := 0, locals := 0 } : Room) [.ref h0, .int (nI kr)] [(h0, .inr (0, [.ref b1, .ref b2, .ref b3, .ref b4, .int (nI nn)])), (b1, .inl (g.2.1, 61, .inl fc))] (fun r u => r = nI (si_lf cx (nn + 1) kr)) (fun u => [(h0, .inr (0, [.ref b1, .ref b2, .ref b3, .ref b4, .int (nI nn)])), (b1, .inl (g.2.1, 61, .inl fc))]) := by
  refine si_Mi.of (cc := zkB_rowBefore) (maxL := 4) (by decide) rfl (Nat.le_of_ble_eq_true rfl) ?_
  intro p e s m args below meth c A Q ls hF0 hin hK hN hP hD hA hS hl hret
  obtain ⟨hx, hb, hml, hown, hts0⟩ := hF0
  have hts : ∀ w ∈ si_tbl, w.before args s = true := fun w hw => hts0 w (List.mem_cons_of_mem _ hw)
  have hF : CallFix p m c zkB_rowBefore 4 s args si_tbl zRB := ⟨hx, hb, hml, hown, hts⟩
  have hl : lv_has ls 4 [(0, .ref h0), (1, .int (nI kr))] := hl
  have hckr := hc7 kr hkr
  refine lv_iconst (v := nI 0) hx hb zdB_rowBefore_0 (by decide) ?_
  refine lv_istore_n (lv' := [(2, .int (nI 0)), (0, .ref h0), (1, .int (nI kr))]) hx hb zdB_rowBefore_1 rfl hl (Nat.le_of_ble_eq_true rfl) rfl (fun ls hl => ?_)
  refine lv_iconst (v := nI 0) hx hb zdB_rowBefore_2 (by decide) ?_
  refine lv_istore_n (lv' := [(3, .int (nI 0)), (2, .int (nI 0)), (0, .ref h0), (1, .int (nI kr))]) hx hb zdB_rowBefore_3 rfl hl (Nat.le_of_ble_eq_true rfl) rfl (fun ls hl => ?_)
  have L4 : ∀ (N : Nat) (k : Nat) (row : Nat) (H : Heap) (locs : List Loc) (ls : Array Slot), nn + 1 - k < N → (k ≤ nn + 1) → (row = si_cn k (fun x => si_lo cx x kr)) → lv_has ls 4 [(0, .ref h0), (1, .int (nI kr)), (2, .int (nI row)), (3, .int (nI k))] → va_P g.1 vwCl [(h0, .inr (0, [.ref b1, .ref b2, .ref b3, .ref b4, .int (nI nn)])), (b1, .inl (g.2.1, 61, .inl fc))] H → va_D A [(h0, .inr (0, [.ref b1, .ref b2, .ref b3, .ref b4, .int (nI nn)])), (b1, .inl (g.2.1, 61, .inl fc))] → va_S A s.heap H locs → W p l e ({ frames := 0, cells := 0, slots := 0, locals := 0 } : Room) s m args below meth c H locs 0 0 Q (F0 m 4 ls []) := by
    intro N
    induction N with
    | zero => intro k row H locs ls hMs; exact absurd hMs (Nat.not_lt_zero _)
    | succ N ih4 =>
      intro k row H locs ls hMs hk hrw hl hP hD hS
      refine lv_iload_n hx hb zdB_rowBefore_4 rfl (lv_at hl 3 rfl) ?_
      refine lv_aload_n hx hb zdB_rowBefore_5 rfl (lv_at hl 0 rfl) ?_
      refine va_get (D := g.1) (ci := 0) (v := .int (nI nn)) (C := zRB) (T := zTB) (N := 5) hx hb hts ziB hown hK hP 0 rfl rfl 4 (by decide) (hts _ zlB_24) (fun _ h => h) rfl zdB_rowBefore_6 ?_
      refine si_icmp_gt (tgt := 56) hx hb zdB_rowBefore_9 rfl (by omega) (by omega) (fun h9 => ?_) (fun h9 => ?_)
      · refine lv_iload_n hx hb zdB_rowBefore_56 rfl (lv_at hl 2 rfl) ?_
        exact hret (nI row) () _ _ _ _ (rfl) (by rw [hrw, show k = nn + 1 by omega]; rfl) (hP.sub [0, 1] rfl) (hD.sub [0, 1] (by decide) rfl) hS zdB_rowBefore_57
      · have hck := hc7 k (by omega)
        have hrl : row ≤ k := by rw [hrw]; exact si_cn_le _ _
        refine lv_aload_n hx hb zdB_rowBefore_12 rfl (lv_at hl 0 rfl) ?_
        refine va_get (D := g.1) (ci := 0) (v := .ref b1) (C := zRB) (T := zTB) (N := 5) hx hb hts ziB hown hK hP 0 rfl rfl 0 (by decide) (hts _ zlB_9) (fun _ h => h) rfl zdB_rowBefore_13 ?_
        refine lv_iload_n hx hb zdB_rowBefore_16 rfl (lv_at hl 3 rfl) ?_
        refine si_iald (v := nI (cx k)) hx hb hK hP 1 0 rfl rfl (by decide) (by omega) (hcx k (by omega)) zdB_rowBefore_17 ?_
        refine lv_aload_n hx hb zdB_rowBefore_18 rfl (lv_at hl 0 rfl) ?_
        refine va_get (D := g.1) (ci := 0) (v := .ref b1) (C := zRB) (T := zTB) (N := 5) hx hb hts ziB hown hK hP 0 rfl rfl 0 (by decide) (hts _ zlB_9) (fun _ h => h) rfl zdB_rowBefore_19 ?_
        refine lv_iload_n hx hb zdB_rowBefore_22 rfl (lv_at hl 1 rfl) ?_
        refine si_iald (v := nI (cx kr)) hx hb hK hP 1 0 rfl rfl (by decide) (by omega) (hcx kr hkr) zdB_rowBefore_23 ?_
        refine si_icmp_lt (tgt := 47) hx hb zdB_rowBefore_24 rfl (by omega) (by omega) (fun h24 => ?_) (fun h24 => ?_)
        · have hs : si_lo cx k kr = true := by simp [si_lo, h24]
          refine lv_iinc (k := 2) (v := nI (row + 1)) (lv' := [(2, .int (nI (row + 1))), (0, .ref h0), (1, .int (nI kr)), (3, .int (nI k))]) hx hb zdB_rowBefore_47 hl rfl (si_inc _) (Nat.le_of_ble_eq_true rfl) rfl (fun ls hl => ?_)
          refine lv_iinc (k := 3) (v := nI (k + 1)) (lv' := [(3, .int (nI (k + 1))), (2, .int (nI (row + 1))), (0, .ref h0), (1, .int (nI kr))]) hx hb zdB_rowBefore_50 hl rfl (si_inc _) (Nat.le_of_ble_eq_true rfl) rfl (fun ls hl => ?_)
          refine lv_goto (tgt := 4) hx hb zdB_rowBefore_53 rfl ?_
          exact ih4 (k + 1) (row + 1) _ _ _ (by omega) (by omega) (by first | (rw [si_cn_t (P := fun x => si_lo cx x kr) hs, hrw]; done) | (rw [si_cn_f (P := fun x => si_lo cx x kr) hs2, hrw]; done)) (lv_sub hl [2, 3, 1, 0] rfl) (hP.sub [0, 1] rfl) (hD.sub [0, 1] (by decide) rfl) hS
        · refine lv_aload_n hx hb zdB_rowBefore_27 rfl (lv_at hl 0 rfl) ?_
          refine va_get (D := g.1) (ci := 0) (v := .ref b1) (C := zRB) (T := zTB) (N := 5) hx hb hts ziB hown hK hP 0 rfl rfl 0 (by decide) (hts _ zlB_9) (fun _ h => h) rfl zdB_rowBefore_28 ?_
          refine lv_iload_n hx hb zdB_rowBefore_31 rfl (lv_at hl 3 rfl) ?_
          refine si_iald (v := nI (cx k)) hx hb hK hP 1 0 rfl rfl (by decide) (by omega) (hcx k (by omega)) zdB_rowBefore_32 ?_
          refine lv_aload_n hx hb zdB_rowBefore_33 rfl (lv_at hl 0 rfl) ?_
          refine va_get (D := g.1) (ci := 0) (v := .ref b1) (C := zRB) (T := zTB) (N := 5) hx hb hts ziB hown hK hP 0 rfl rfl 0 (by decide) (hts _ zlB_9) (fun _ h => h) rfl zdB_rowBefore_34 ?_
          refine lv_iload_n hx hb zdB_rowBefore_37 rfl (lv_at hl 1 rfl) ?_
          refine si_iald (v := nI (cx kr)) hx hb hK hP 1 0 rfl rfl (by decide) (by omega) (hcx kr hkr) zdB_rowBefore_38 ?_
          refine si_icmp_ne (tgt := 50) hx hb zdB_rowBefore_39 rfl (by omega) (by omega) (fun h39 => ?_) (fun h39 => ?_)
          · have hs2 : si_lo cx k kr = false := by
              have h9 : ¬ cx k < cx kr := by omega
              simp [si_lo, h9, h39]
            refine lv_iinc (k := 3) (v := nI (k + 1)) (lv' := [(3, .int (nI (k + 1))), (0, .ref h0), (1, .int (nI kr)), (2, .int (nI row))]) hx hb zdB_rowBefore_50 hl rfl (si_inc _) (Nat.le_of_ble_eq_true rfl) rfl (fun ls hl => ?_)
            refine lv_goto (tgt := 4) hx hb zdB_rowBefore_53 rfl ?_
            exact ih4 (k + 1) row _ _ _ (by omega) (by omega) (by first | (rw [si_cn_t (P := fun x => si_lo cx x kr) hs, hrw]; done) | (rw [si_cn_f (P := fun x => si_lo cx x kr) hs2, hrw]; done)) (lv_sub hl [1, 2, 3, 0] rfl) (hP.sub [0, 1] rfl) (hD.sub [0, 1] (by decide) rfl) hS
          · refine lv_iload_n hx hb zdB_rowBefore_42 rfl (lv_at hl 3 rfl) ?_
            refine lv_iload_n hx hb zdB_rowBefore_43 rfl (lv_at hl 1 rfl) ?_
            refine si_icmp_ge (tgt := 50) hx hb zdB_rowBefore_44 rfl (by omega) (by omega) (fun h44 => ?_) (fun h44 => ?_)
            · have hs2 : si_lo cx k kr = false := by
                have h9 : ¬ cx k < cx kr := by omega
                have h8 : ¬ k < kr := by omega
                simp [si_lo, h8, h9]
              refine lv_iinc (k := 3) (v := nI (k + 1)) (lv' := [(3, .int (nI (k + 1))), (0, .ref h0), (1, .int (nI kr)), (2, .int (nI row))]) hx hb zdB_rowBefore_50 hl rfl (si_inc _) (Nat.le_of_ble_eq_true rfl) rfl (fun ls hl => ?_)
              refine lv_goto (tgt := 4) hx hb zdB_rowBefore_53 rfl ?_
              exact ih4 (k + 1) row _ _ _ (by omega) (by omega) (by first | (rw [si_cn_t (P := fun x => si_lo cx x kr) hs, hrw]; done) | (rw [si_cn_f (P := fun x => si_lo cx x kr) hs2, hrw]; done)) (lv_sub hl [1, 2, 3, 0] rfl) (hP.sub [0, 1] rfl) (hD.sub [0, 1] (by decide) rfl) hS
            · have hs : si_lo cx k kr = true := by simp [si_lo, h39, h44]
              refine lv_iinc (k := 2) (v := nI (row + 1)) (lv' := [(2, .int (nI (row + 1))), (0, .ref h0), (1, .int (nI kr)), (3, .int (nI k))]) hx hb zdB_rowBefore_47 hl rfl (si_inc _) (Nat.le_of_ble_eq_true rfl) rfl (fun ls hl => ?_)
              refine lv_iinc (k := 3) (v := nI (k + 1)) (lv' := [(3, .int (nI (k + 1))), (2, .int (nI (row + 1))), (0, .ref h0), (1, .int (nI kr))]) hx hb zdB_rowBefore_50 hl rfl (si_inc _) (Nat.le_of_ble_eq_true rfl) rfl (fun ls hl => ?_)
              refine lv_goto (tgt := 4) hx hb zdB_rowBefore_53 rfl ?_
              exact ih4 (k + 1) (row + 1) _ _ _ (by omega) (by omega) (by first | (rw [si_cn_t (P := fun x => si_lo cx x kr) hs, hrw]; done) | (rw [si_cn_f (P := fun x => si_lo cx x kr) hs2, hrw]; done)) (lv_sub hl [2, 3, 1, 0] rfl) (hP.sub [0, 1] rfl) (hD.sub [0, 1] (by decide) rfl) hS
  exact L4 (nn + 1 - 0 + 1) 0 0 _ _ _ (by omega) (by omega) (rfl) (lv_sub hl [2, 3, 1, 0] rfl) (hP.sub [0, 1] rfl) (hD.sub [0, 1] (by decide) rfl) hS

