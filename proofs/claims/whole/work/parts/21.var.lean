/-! SelfIndexImage: drawing, reading, loading; words; the variety. Written by wip/draft/p21.py -/
theorem si_bc1 {n : Nat} (hn : n < 2 ^ 64) : lN n - (lN (n / 2) &&& 6148914691236517205) = lN (si_s1 8 n) := by
  have hm : si_m 85 8 = 6148914691236517205 := by decide +kernel
  have h1 : lN (n / 2) &&& 6148914691236517205 = lN (n / 2 &&& 6148914691236517205) := wb_and (by omega) (by decide)
  have h2 : (n / 2 &&& 6148914691236517205) ≤ n := Nat.le_trans Nat.and_le_left (Nat.div_le_self _ _)
  unfold si_s1
  rw [hm, h1, lN_sub h2]
theorem si_s1_lt {n : Nat} (hn : n < 2 ^ 64) : si_s1 8 n < 2 ^ 64 := by unfold si_s1; omega
theorem si_bc2 {n : Nat} (hn : si_s1 8 n < 2 ^ 64) : (lN (si_s1 8 n) &&& 3689348814741910323) + (lN (si_s1 8 n / 4) &&& 3689348814741910323) = lN (si_s2 8 n) := by
  have hm : si_m 51 8 = 3689348814741910323 := by decide +kernel
  have h1 : lN (si_s1 8 n) &&& 3689348814741910323 = lN (si_s1 8 n &&& 3689348814741910323) := wb_and (by omega) (by decide)
  have h2 : lN (si_s1 8 n / 4) &&& 3689348814741910323 = lN (si_s1 8 n / 4 &&& 3689348814741910323) := wb_and (by omega) (by decide)
  unfold si_s2
  rw [hm, h1, h2, lN_add]
theorem si_s2_lt (n : Nat) : si_s2 8 n ≤ 7378697629483820646 := by
  have hm : si_m 51 8 = 3689348814741910323 := by decide +kernel
  unfold si_s2
  rw [hm]
  have h1 : (si_s1 8 n &&& 3689348814741910323) ≤ 3689348814741910323 := Nat.and_le_right
  have h2 : (si_s1 8 n / 4 &&& 3689348814741910323) ≤ 3689348814741910323 := Nat.and_le_right
  omega
theorem si_bc3 (n : Nat) : (lN (si_s2 8 n) + lN (si_s2 8 n / 16)) &&& 1085102592571150095 = lN (si_s3 8 n) := by
  have hm : si_m 15 8 = 1085102592571150095 := by decide +kernel
  have h0 := si_s2_lt n
  have h1 : lN (si_s2 8 n + si_s2 8 n / 16) &&& 1085102592571150095 = lN ((si_s2 8 n + si_s2 8 n / 16) &&& 1085102592571150095) := wb_and (by omega) (by decide)
  unfold si_s3
  rw [hm, lN_add, h1]
theorem si_s3_lt (n : Nat) : si_s3 8 n ≤ 1085102592571150095 := by
  have hm : si_m 15 8 = 1085102592571150095 := by decide +kernel
  unfold si_s3
  rw [hm]
  exact Nat.and_le_right
theorem si_bc7 (n : Nat) : nI n &&& nI 127 = nI (n % 128) := by
  rw [pk_and (nI n) (m := nI 127) 7 (by decide)]
  have h : (nI n).toBitVec.toNat = n % 2 ^ 32 := by
    show (BitVec.ofNat 32 n).toNat = _
    rw [BitVec.toNat_ofNat]
  rw [h]
  congr 1
  omega
theorem si_bi_tb (n i : Nat) (hi : i < 64) : si_bi (lN n) i = si_tb n i := by
  unfold si_bi si_tb
  rw [wb_tb, BitVec.getLsbD_ofNat]
  simp [hi]
/-- of the first k places: the character x stands before one where the pattern stands -/
def si_fK (t a : List Nat) (k x : Nat) : Bool := (List.range k).any (fun p => si_g t p == x && si_oc t a (p + 1))
theorem si_fK_s (t a : List Nat) (k x : Nat) : si_fK t a (k + 1) x = (si_fK t a k x || (si_g t k == x && si_oc t a (k + 1))) := by
  unfold si_fK
  rw [List.range_succ, List.any_append]
  simp
theorem si_vaE {t a : List Nat} (hok : si_ok t) : si_cn 64 (si_fK t a t.length) + si_cn 64 (fun x => si_fK t a t.length (64 + x)) = si_va t a := by
  have h0 : ∀ x, si_fK t a t.length x = true → 32 ≤ x ∧ x ≤ 126 := by
    intro x hx
    unfold si_fK at hx
    obtain ⟨q, hq, h1⟩ := List.any_eq_true.mp hx
    rw [List.mem_range] at hq
    rw [Bool.and_eq_true, beq_iff_eq] at h1
    have := si_ok_at hok hq
    omega
  have e1 := si_cn_app 64 64 (si_fK t a t.length)
  rw [← e1]
  show si_cn 128 (si_fK t a t.length) = _
  have e2 : si_fK t a t.length 127 = false := si_nt (fun z => by have := h0 _ z; omega)
  rw [show (128 : Nat) = 127 + 1 by rfl, si_cn_f e2]
  unfold si_va
  refine si_cn_congr (fun x hx => ?_)
  show si_fK t a t.length x = (decide (32 ≤ x) && si_fK t a t.length x)
  cases hf : si_fK t a t.length x with
  | false => rw [Bool.and_false]
  | true => have := h0 x hf
            simp [this.1]
def si_wq (q : Int32) (f : Nat → Int64) : Int64 := if si_isW q = true then f q.toNatClampNeg else 0
theorem si_wq_t {j : Nat} {f : Nat → Int64} (h : si_isW (nI j) = true) (hj : j < 23) : si_wq (nI j) f = f j := by
  unfold si_wq; rw [if_pos h, nI_clamp (by omega)]
theorem si_wq_f {q : Int32} {f : Nat → Int64} (h : si_isW q = false) : si_wq q f = 0 := if_neg (by rw [h]; decide)
/-- the bit of a word -/
def si_isB (b : Int32) : Bool := decide (¬ b < 0 ∧ b < nI 64)
/-- the only text and rate that the words can be the image of, or that there is none -/
def si_hd (f : Nat → Int64) (hd : Nat) : Prop := f 0 = lN hd ∧ hd < 2 ^ 64
theorem si_is_hd {f : Nat → Int64} {hd : Nat} (h : si_hd f hd) {v : List Nat} {k : Nat} (hv : si_is f v k) : hd = v.length + 256 * k := by
  have h1 := si_is_head hv
  rw [h.1] at h1
  have h2 : (lN hd).toBitVec.toNat = (lN (v.length + 256 * k)).toBitVec.toNat := congrArg (fun z => z.toBitVec.toNat) h1
  have l1 := hv.1.1
  have l2 := hv.2.2.1
  rw [wb_tn h.2, wb_tn (by omega)] at h2
  exact h2
theorem si_is_rate {f : Nat → Int64} {hd : Nat} (h : si_hd f hd) {v : List Nat} {k : Nat} (hv : si_is f v k) : lN hd / 256 = lN k ∧ hd % 256 = v.length := by
  have h1 := si_is_hd h hv
  have l1 := hv.1.1
  have l2 := hv.2.2.1
  refine ⟨?_, by omega⟩
  have h2 : lN hd / lN 256 = lN (hd / 256) := pk_lDiv (by omega) (by decide) (by decide)
  have h3 : hd / 256 = k := by omega
  rw [h3] at h2
  exact h2
theorem si_hd_of (f : Nat → Int64) : ∃ hd, si_hd f hd := by
  obtain ⟨k, h1, h2⟩ := wb_of (f 0)
  exact ⟨k, h2, h1⟩
set_option maxHeartbeats 4000000 in
set_option maxRecDepth 100000 in
/-- bitCount -/
theorem cJ_bitCount (l : Launch) (g : si_G) (n0 : Nat) (hn : n0 < 2 ^ 64) : si_Mi (S := Unit) l g vwCl zyJ_bitCount zwJ_bitCount ({ frames := 0, cells := 0, slots := 0, locals := 0 } : Room) [.long (lN n0)] [] (fun r u => r = nI (si_cn 64 (si_tb n0))) (fun u => []) := by
  refine si_Mi.of (cc := zkJ_bitCount) (maxL := 2) (by decide) rfl (Nat.le_of_ble_eq_true rfl) ?_
  intro p e s m args below meth c A Q ls hF0 hin hK hN hP hD hA hS hl hret
  obtain ⟨hx, hb, hml, hown, hts0⟩ := hF0
  have hts : ∀ w ∈ si_tbl, w.before args s = true := fun w hw => hts0 w (List.mem_cons_of_mem _ hw)
  have hF : CallFix p m c zkJ_bitCount 2 s args si_tbl zRJ := ⟨hx, hb, hml, hown, hts⟩
  have hl : lv_has ls 2 [(0, .long (lN n0))] := hl
  have hs1 := si_s1_lt hn
  have hs2 := si_s2_lt n0
  have hs3 := si_s3_lt n0
  obtain ⟨s4, hs4⟩ : ∃ z, z = si_s3 8 n0 + si_s3 8 n0 / 256 := ⟨_, rfl⟩
  obtain ⟨s5, hs5⟩ : ∃ z, z = s4 + s4 / 65536 := ⟨_, rfl⟩
  obtain ⟨s6, hs6⟩ : ∃ z, z = s5 + s5 / 4294967296 := ⟨_, rfl⟩
  refine lv_lload_n hx hb zdJ_bitCount_0 rfl (lv_at hl 0 rfl) ?_
  refine lv_lload_n hx hb zdJ_bitCount_1 rfl (lv_at hl 0 rfl) ?_
  refine lv_iconst (v := nI 1) hx hb zdJ_bitCount_2 (by decide) ?_
  refine lv_lushr (v := lN (n0 / 2)) hx hb zdJ_bitCount_3 (wb_shr (k := 1) hn (by decide)) ?_
  refine lv_ldc2 (v := 6148914691236517205) hx hb hown (hts (.constantLong zRJ 314 6148914691236517205) (by decide +kernel)) zdJ_bitCount_4 ?_
  refine si_land (v := (lN (n0 / 2)) &&& 6148914691236517205) hx hb zdJ_bitCount_7 (rfl) ?_
  refine si_lsub (v := lN (si_s1 8 n0)) hx hb zdJ_bitCount_8 (si_bc1 hn) ?_
  refine lv_lstore_n (lv' := [(0, .long (lN (si_s1 8 n0)))]) hx hb zdJ_bitCount_9 rfl hl (Nat.le_of_ble_eq_true rfl) rfl (fun ls hl => ?_)
  refine lv_lload_n hx hb zdJ_bitCount_10 rfl (lv_at hl 0 rfl) ?_
  refine lv_ldc2 (v := 3689348814741910323) hx hb hown (hts (.constantLong zRJ 316 3689348814741910323) (by decide +kernel)) zdJ_bitCount_11 ?_
  refine si_land (v := (lN (si_s1 8 n0)) &&& 3689348814741910323) hx hb zdJ_bitCount_14 (rfl) ?_
  refine lv_lload_n hx hb zdJ_bitCount_15 rfl (lv_at hl 0 rfl) ?_
  refine lv_iconst (v := nI 2) hx hb zdJ_bitCount_16 (by decide) ?_
  refine lv_lushr (v := lN (si_s1 8 n0 / 4)) hx hb zdJ_bitCount_17 (wb_shr (k := 2) hs1 (by decide)) ?_
  refine lv_ldc2 (v := 3689348814741910323) hx hb hown (hts (.constantLong zRJ 316 3689348814741910323) (by decide +kernel)) zdJ_bitCount_18 ?_
  refine si_land (v := (lN (si_s1 8 n0 / 4)) &&& 3689348814741910323) hx hb zdJ_bitCount_21 (rfl) ?_
  refine si_ladd (v := lN (si_s2 8 n0)) hx hb zdJ_bitCount_22 (si_bc2 hs1) ?_
  refine lv_lstore_n (lv' := [(0, .long (lN (si_s2 8 n0)))]) hx hb zdJ_bitCount_23 rfl hl (Nat.le_of_ble_eq_true rfl) rfl (fun ls hl => ?_)
  refine lv_lload_n hx hb zdJ_bitCount_24 rfl (lv_at hl 0 rfl) ?_
  refine lv_lload_n hx hb zdJ_bitCount_25 rfl (lv_at hl 0 rfl) ?_
  refine lv_iconst (v := nI 4) hx hb zdJ_bitCount_26 (by decide) ?_
  refine lv_lushr (v := lN (si_s2 8 n0 / 16)) hx hb zdJ_bitCount_27 (wb_shr (k := 4) (by omega) (by decide)) ?_
  refine si_ladd (v := (lN (si_s2 8 n0)) + (lN (si_s2 8 n0 / 16))) hx hb zdJ_bitCount_28 (rfl) ?_
  refine lv_ldc2 (v := 1085102592571150095) hx hb hown (hts (.constantLong zRJ 318 1085102592571150095) (by decide +kernel)) zdJ_bitCount_29 ?_
  refine si_land (v := lN (si_s3 8 n0)) hx hb zdJ_bitCount_32 (si_bc3 n0) ?_
  refine lv_lstore_n (lv' := [(0, .long (lN (si_s3 8 n0)))]) hx hb zdJ_bitCount_33 rfl hl (Nat.le_of_ble_eq_true rfl) rfl (fun ls hl => ?_)
  refine lv_lload_n hx hb zdJ_bitCount_34 rfl (lv_at hl 0 rfl) ?_
  refine lv_lload_n hx hb zdJ_bitCount_35 rfl (lv_at hl 0 rfl) ?_
  refine lv_bipush (v := nI 8) hx hb zdJ_bitCount_36 (by decide) ?_
  refine lv_lushr (v := lN (si_s3 8 n0 / 256)) hx hb zdJ_bitCount_38 (wb_shr (k := 8) (by omega) (by decide)) ?_
  refine si_ladd (v := lN s4) hx hb zdJ_bitCount_39 (by rw [hs4]; exact lN_add _ _) ?_
  refine lv_lstore_n (lv' := [(0, .long (lN s4))]) hx hb zdJ_bitCount_40 rfl hl (Nat.le_of_ble_eq_true rfl) rfl (fun ls hl => ?_)
  refine lv_lload_n hx hb zdJ_bitCount_41 rfl (lv_at hl 0 rfl) ?_
  refine lv_lload_n hx hb zdJ_bitCount_42 rfl (lv_at hl 0 rfl) ?_
  refine lv_bipush (v := nI 16) hx hb zdJ_bitCount_43 (by decide) ?_
  refine lv_lushr (v := lN (s4 / 65536)) hx hb zdJ_bitCount_45 (wb_shr (k := 16) (by omega) (by decide)) ?_
  refine si_ladd (v := lN s5) hx hb zdJ_bitCount_46 (by rw [hs5]; exact lN_add _ _) ?_
  refine lv_lstore_n (lv' := [(0, .long (lN s5))]) hx hb zdJ_bitCount_47 rfl hl (Nat.le_of_ble_eq_true rfl) rfl (fun ls hl => ?_)
  refine lv_lload_n hx hb zdJ_bitCount_48 rfl (lv_at hl 0 rfl) ?_
  refine lv_lload_n hx hb zdJ_bitCount_49 rfl (lv_at hl 0 rfl) ?_
  refine lv_bipush (v := nI 32) hx hb zdJ_bitCount_50 (by decide) ?_
  refine lv_lushr (v := lN (s5 / 4294967296)) hx hb zdJ_bitCount_52 (wb_shr (k := 32) (by omega) (by decide)) ?_
  refine si_ladd (v := lN s6) hx hb zdJ_bitCount_53 (by rw [hs6]; exact lN_add _ _) ?_
  refine lv_lstore_n (lv' := [(0, .long (lN s6))]) hx hb zdJ_bitCount_54 rfl hl (Nat.le_of_ble_eq_true rfl) rfl (fun ls hl => ?_)
  refine lv_lload_n hx hb zdJ_bitCount_55 rfl (lv_at hl 0 rfl) ?_
  refine lv_l2i (v := nI s6) hx hb zdJ_bitCount_56 (lN_i _) ?_
  refine lv_bipush (v := nI 127) hx hb zdJ_bitCount_57 (by decide) ?_
  refine si_iand (v := nI (si_cn 64 (si_tb n0))) hx hb zdJ_bitCount_59 (by rw [si_bc7, si_pop hn hs4 hs5 hs6]) ?_
  exact hret (nI (si_cn 64 (si_tb n0))) () _ _ _ _ (rfl) (rfl) (hP.sub [] rfl) (hD.sub [] (by decide) rfl) hS zdJ_bitCount_60

set_option maxHeartbeats 4000000 in
set_option maxRecDepth 100000 in
theorem cX_variety_0 (l : Launch) (g : si_G) (x0 xw xp xd xe xb xl xt : Nat) (lt lz : Nat)  : si_Mi (S := Unit) l g vwCl zyX_variety zwX_variety ({ frames := 3, cells := 0, slots := 0, locals := 65 } : Room) [.ref x0] [(x0, .inr (5, [.ref xw, .ref xp, .ref xd, .ref xe, .ref xb, .ref xl, .ref xt])), (xl, .inr (3, [.ref lt, .ref lz, .int (-1)]))] (fun r u => r = -1) (fun u => [(x0, .inr (5, [.ref xw, .ref xp, .ref xd, .ref xe, .ref xb, .ref xl, .ref xt])), (xl, .inr (3, [.ref lt, .ref lz, .int (-1)]))]) := by
  refine si_Mi.of (cc := zkX_variety) (maxL := 7) (by decide) rfl (Nat.le_of_ble_eq_true rfl) ?_
  intro p e s m args below meth c A Q ls hF0 hin hK hN hP hD hA hS hl hret
  obtain ⟨hx, hb, hml, hown, hts0⟩ := hF0
  have hts : ∀ w ∈ si_tbl, w.before args s = true := fun w hw => hts0 w (List.mem_cons_of_mem _ hw)
  have hF : CallFix p m c zkX_variety 7 s args si_tbl zRX := ⟨hx, hb, hml, hown, hts⟩
  have hl : lv_has ls 7 [(0, .ref x0)] := hl
  refine lv_aload_n hx hb zdX_variety_0 rfl (lv_at hl 0 rfl) ?_
  refine (cX_hasLoaded_0 l g x0 xw xp xd xe xb xl xt lt lz).callV (wr := []) (As := []) (rest := []) hF (si_cV 0 hts zcX_hasLoaded zlX_85 zimX_hasLoaded zseX_hasLoaded ziniX zhX_hasLoaded ⟨Nat.le_of_ble_eq_true rfl, Nat.le_of_ble_eq_true rfl⟩) hK hN hP hD hS hA [0, 1] [] rfl rfl (by decide) (by decide) (va_recv (q := (zRX, zTX, 7)) hK hP (ci := 5) (q0 := 0) rfl rfl) rfl hl.1 rfl (Nat.le_of_ble_eq_true rfl) zdX_variety_1 ⟨Nat.le_of_ble_eq_true rfl, Nat.le_of_ble_eq_true rfl⟩ rfl rfl (fun r_ _u H locs hq hP hD hS => ?_)
  subst hq
  have hP : va_P g.1 vwCl [(x0, .inr (5, [.ref xw, .ref xp, .ref xd, .ref xe, .ref xb, .ref xl, .ref xt])), (xl, .inr (3, [.ref lt, .ref lz, .int (-1)]))] H := hP
  have hD : va_D A [(x0, .inr (5, [.ref xw, .ref xp, .ref xd, .ref xe, .ref xb, .ref xl, .ref xt])), (xl, .inr (3, [.ref lt, .ref lz, .int (-1)]))] := hD
  refine si_if_ne (tgt := 9) hx hb zdX_variety_4 rfl (by decide) (fun h4 => ?_) (fun h4 => ?_)
  · exact absurd rfl h4
  · refine lv_iconst (v := -1) hx hb zdX_variety_7 (by decide) ?_
    exact hret (-1) () _ _ _ _ (rfl) (rfl) (hP.sub [0, 1] rfl) (hD.sub [0, 1] (by decide) rfl) hS zdX_variety_8

theorem si_vA {t b : List Nat} {k : Nat} {lo : Int64} (hk : 1 ≤ k) (h : ∀ x, x < 64 → si_bi lo x = si_fK t b (k - 1) x) (hoc : si_oc t b k = false) : ∀ x, x < 64 → si_bi lo x = si_fK t b (k + 1 - 1) x := by
  intro x hx
  rw [show k + 1 - 1 = (k - 1) + 1 by omega, si_fK_s, show k - 1 + 1 = k by omega, hoc, Bool.and_false, Bool.or_false]
  exact h x hx
theorem si_vB {t b : List Nat} {k : Nat} {lo : Int64} (hk : 1 ≤ k) (h : ∀ x, x < 64 → si_bi lo x = si_fK t b (k - 1) x) (hoc : si_oc t b k = true) (hlt : si_g t (k - 1) < 64) : ∀ x, x < 64 → si_bi (lo ||| ((1 : Int64) <<< ((nI (si_g t (k - 1))).toInt64 &&& 63))) x = si_fK t b (k + 1 - 1) x := by
  intro x hx
  rw [si_or1 _ hlt, h x hx, show k + 1 - 1 = (k - 1) + 1 by omega, si_fK_s, show k - 1 + 1 = k by omega, hoc, Bool.and_true]
  congr 1
theorem si_vC {t b : List Nat} {k : Nat} {lo : Int64} (hk : 1 ≤ k) (h : ∀ x, x < 64 → si_bi lo x = si_fK t b (k - 1) x) (hge : 64 ≤ si_g t (k - 1)) : ∀ x, x < 64 → si_bi lo x = si_fK t b (k + 1 - 1) x := by
  intro x hx
  have : (si_g t (k - 1) == x) = false := by simp; omega
  rw [show k + 1 - 1 = (k - 1) + 1 by omega, si_fK_s, this, Bool.false_and, Bool.or_false]
  exact h x hx
theorem si_vD {t b : List Nat} {k : Nat} {hi : Int64} (hk : 1 ≤ k) (h : ∀ x, x < 64 → si_bi hi x = si_fK t b (k - 1) (64 + x)) (hoc : si_oc t b k = false) : ∀ x, x < 64 → si_bi hi x = si_fK t b (k + 1 - 1) (64 + x) := by
  intro x hx
  rw [show k + 1 - 1 = (k - 1) + 1 by omega, si_fK_s, show k - 1 + 1 = k by omega, hoc, Bool.and_false, Bool.or_false]
  exact h x hx
theorem si_vE {t b : List Nat} {k : Nat} {hi : Int64} (hk : 1 ≤ k) (h : ∀ x, x < 64 → si_bi hi x = si_fK t b (k - 1) (64 + x)) (hlt : si_g t (k - 1) < 64) : ∀ x, x < 64 → si_bi hi x = si_fK t b (k + 1 - 1) (64 + x) := by
  intro x hx
  have : (si_g t (k - 1) == 64 + x) = false := by simp; omega
  rw [show k + 1 - 1 = (k - 1) + 1 by omega, si_fK_s, this, Bool.false_and, Bool.or_false]
  exact h x hx
theorem si_vF {t b : List Nat} {k : Nat} {hi : Int64} (hk : 1 ≤ k) (h : ∀ x, x < 64 → si_bi hi x = si_fK t b (k - 1) (64 + x)) (hoc : si_oc t b k = true) (hge : 64 ≤ si_g t (k - 1)) (hle : si_g t (k - 1) ≤ 126) : ∀ x, x < 64 → si_bi (hi ||| ((1 : Int64) <<< ((nI (si_g t (k - 1) - 64)).toInt64 &&& 63))) x = si_fK t b (k + 1 - 1) (64 + x) := by
  intro x hx
  rw [si_or1 _ (by omega), h x hx, show k + 1 - 1 = (k - 1) + 1 by omega, si_fK_s, show k - 1 + 1 = k by omega, hoc, Bool.and_true]
  congr 1
  by_cases e : si_g t (k - 1) = 64 + x
  · have : si_g t (k - 1) - 64 = x := by omega
    simp [e]
  · have h1 : ¬ si_g t (k - 1) - 64 = x := by omega
    simp [e, h1]
set_option maxHeartbeats 4000000 in
set_option maxRecDepth 100000 in
theorem cX_variety_1 (l : Launch) (g : si_G) (x0 xw xp xd xe xb xl xt : Nat) (lt lz : Nat) (lta xpa sr : Nat) (f f1 : Nat → Int32) (t b : List Nat) (hs1 : 1 ≤ sr) (hs2 : sr ≤ 16) (hok : si_ok t) (hf : si_ln t f) (hb1 : b.length ≤ 20) (hf1 : si_ln b f1) (hval : ∀ z ∈ b, 32 ≤ z ∧ z ≤ 126) : si_Mi (S := Unit) l g vwCl zyX_variety zwX_variety ({ frames := 3, cells := 0, slots := 0, locals := 65 } : Room) [.ref x0] [(x0, .inr (5, [.ref xw, .ref xp, .ref xd, .ref xe, .ref xb, .ref xl, .ref xt])), (xl, .inr (3, [.ref lt, .ref lz, .int (nI sr)])), (lt, .inr (2, [.ref lta, .int (nI t.length)])), (lta, .inl (g.2.1, 60, .inl f)), (xp, .inr (2, [.ref xpa, .int (nI b.length)])), (xpa, .inl (g.2.1, 20, .inl f1))] (fun r u => r = nI (si_va t b)) (fun u => [(x0, .inr (5, [.ref xw, .ref xp, .ref xd, .ref xe, .ref xb, .ref xl, .ref xt])), (xl, .inr (3, [.ref lt, .ref lz, .int (nI sr)])), (lt, .inr (2, [.ref lta, .int (nI t.length)])), (lta, .inl (g.2.1, 60, .inl f)), (xp, .inr (2, [.ref xpa, .int (nI b.length)])), (xpa, .inl (g.2.1, 20, .inl f1))]) := by
  refine si_Mi.of (cc := zkX_variety) (maxL := 7) (by decide) rfl (Nat.le_of_ble_eq_true rfl) ?_
  intro p e s m args below meth c A Q ls hF0 hin hK hN hP hD hA hS hl hret
  obtain ⟨hx, hb, hml, hown, hts0⟩ := hF0
  have hts : ∀ w ∈ si_tbl, w.before args s = true := fun w hw => hts0 w (List.mem_cons_of_mem _ hw)
  have hF : CallFix p m c zkX_variety 7 s args si_tbl zRX := ⟨hx, hb, hml, hown, hts⟩
  have hl : lv_has ls 7 [(0, .ref x0)] := hl
  have hn := hok.1
  refine lv_aload_n hx hb zdX_variety_0 rfl (lv_at hl 0 rfl) ?_
  refine (cX_hasLoaded_1 l g x0 xw xp xd xe xb xl xt lt lz sr (by omega)).callV (wr := [(lt, .inr (2, [.ref lta, .int (nI t.length)])), (lta, .inl (g.2.1, 60, .inl f)), (xp, .inr (2, [.ref xpa, .int (nI b.length)])), (xpa, .inl (g.2.1, 20, .inl f1))]) (As := []) (rest := []) hF (si_cV 0 hts zcX_hasLoaded zlX_85 zimX_hasLoaded zseX_hasLoaded ziniX zhX_hasLoaded ⟨Nat.le_of_ble_eq_true rfl, Nat.le_of_ble_eq_true rfl⟩) hK hN hP hD hS hA [0, 1] [2, 3, 4, 5] rfl rfl (by decide) (by decide) (va_recv (q := (zRX, zTX, 7)) hK hP (ci := 5) (q0 := 0) rfl rfl) rfl hl.1 rfl (Nat.le_of_ble_eq_true rfl) zdX_variety_1 ⟨Nat.le_of_ble_eq_true rfl, Nat.le_of_ble_eq_true rfl⟩ rfl rfl (fun r_ _u H locs hq hP hD hS => ?_)
  subst hq
  have hP : va_P g.1 vwCl [(lt, .inr (2, [.ref lta, .int (nI t.length)])), (lta, .inl (g.2.1, 60, .inl f)), (xp, .inr (2, [.ref xpa, .int (nI b.length)])), (xpa, .inl (g.2.1, 20, .inl f1)), (x0, .inr (5, [.ref xw, .ref xp, .ref xd, .ref xe, .ref xb, .ref xl, .ref xt])), (xl, .inr (3, [.ref lt, .ref lz, .int (nI sr)]))] H := hP
  have hD : va_D A [(lt, .inr (2, [.ref lta, .int (nI t.length)])), (lta, .inl (g.2.1, 60, .inl f)), (xp, .inr (2, [.ref xpa, .int (nI b.length)])), (xpa, .inl (g.2.1, 20, .inl f1)), (x0, .inr (5, [.ref xw, .ref xp, .ref xd, .ref xe, .ref xb, .ref xl, .ref xt])), (xl, .inr (3, [.ref lt, .ref lz, .int (nI sr)]))] := hD
  refine si_if_ne (tgt := 9) hx hb zdX_variety_4 rfl (by decide) (fun h4 => ?_) (fun h4 => ?_)
  · refine lv_lconst (v := 0) hx hb zdX_variety_9 (by decide) ?_
    refine lv_lstore_n (lv' := [(1, .long (0 : Int64)), (0, .ref x0)]) hx hb zdX_variety_10 rfl hl (Nat.le_of_ble_eq_true rfl) rfl (fun ls hl => ?_)
    refine lv_lconst (v := 0) hx hb zdX_variety_11 (by decide) ?_
    refine lv_lstore_n (lv' := [(3, .long (0 : Int64)), (1, .long (0 : Int64)), (0, .ref x0)]) hx hb zdX_variety_12 rfl hl (Nat.le_of_ble_eq_true rfl) rfl (fun ls hl => ?_)
    refine lv_iconst (v := nI 1) hx hb zdX_variety_13 (by decide) ?_
    refine lv_istore (lv' := [(5, .int (nI 1)), (3, .long (0 : Int64)), (1, .long (0 : Int64)), (0, .ref x0)]) hx hb zdX_variety_14 hl (Nat.le_of_ble_eq_true rfl) rfl (fun ls hl => ?_)
    have L16 : ∀ (N : Nat) (k : Nat) (lo : Int64) (hi : Int64) (H : Heap) (locs : List Loc) (ls : Array Slot), t.length + 1 - k < N → (1 ≤ k) → (k ≤ t.length + 1) → (∀ x, x < 64 → si_bi lo x = si_fK t b (k - 1) x) → (∀ x, x < 64 → si_bi hi x = si_fK t b (k - 1) (64 + x)) → lv_has ls 7 [(0, .ref x0), (1, .long lo), (3, .long hi), (5, .int (nI k))] → va_P g.1 vwCl [(x0, .inr (5, [.ref xw, .ref xp, .ref xd, .ref xe, .ref xb, .ref xl, .ref xt])), (xl, .inr (3, [.ref lt, .ref lz, .int (nI sr)])), (lt, .inr (2, [.ref lta, .int (nI t.length)])), (lta, .inl (g.2.1, 60, .inl f)), (xp, .inr (2, [.ref xpa, .int (nI b.length)])), (xpa, .inl (g.2.1, 20, .inl f1))] H → va_D A [(x0, .inr (5, [.ref xw, .ref xp, .ref xd, .ref xe, .ref xb, .ref xl, .ref xt])), (xl, .inr (3, [.ref lt, .ref lz, .int (nI sr)])), (lt, .inr (2, [.ref lta, .int (nI t.length)])), (lta, .inl (g.2.1, 60, .inl f)), (xp, .inr (2, [.ref xpa, .int (nI b.length)])), (xpa, .inl (g.2.1, 20, .inl f1))] → va_S A s.heap H locs → W p l e ({ frames := 3, cells := 0, slots := 0, locals := 65 } : Room) s m args below meth c H locs 0 0 Q (F0 m 16 ls []) := by
      intro N
      induction N with
      | zero => intro k lo hi H locs ls hMs; exact absurd hMs (Nat.not_lt_zero _)
      | succ N ih16 =>
        intro k lo hi H locs ls hMs hk1 hk hlo hhi hl hP hD hS
        refine lv_iload hx hb zdX_variety_16 (lv_at hl 3 rfl) ?_
        refine lv_aload_n hx hb zdX_variety_18 rfl (lv_at hl 0 rfl) ?_
        refine va_get (D := g.1) (ci := 5) (v := .ref xl) (C := zRX) (T := zTX) (N := 7) hx hb hts ziX hown hK hP 0 rfl rfl 5 (by decide) (hts _ zlX_41) (fun _ h => h) rfl zdX_variety_19 ?_
        refine va_getN (D := g.1) (ci := 3) (v := .ref lt) (C := zRR) (T := zTR) (N := 3) hx hb hts ziR hown hK hP 1 rfl rfl 0 (by decide) (va_Nw.use rfl (hN _ zlX_74)) (fun _ h => h) rfl zdX_variety_22 ?_
        refine va_getN (D := g.1) (ci := 2) (v := .int (nI t.length)) (C := zRL) (T := zTL) (N := 2) hx hb hts ziL hown hK hP 2 rfl rfl 1 (by decide) (va_Nw.use rfl (hN _ zlX_88)) (fun _ h => h) rfl zdX_variety_25 ?_
        refine si_icmp_gt (tgt := 89) hx hb zdX_variety_28 rfl (by omega) (by omega) (fun h28 => ?_) (fun h28 => ?_)
        · obtain ⟨nlo, hnlo, rfl⟩ := wb_of lo
          obtain ⟨nhi, hnhi, rfl⟩ := wb_of hi
          have hke : k - 1 = t.length := by omega
          have hva : si_cn 64 (si_tb nlo) + si_cn 64 (si_tb nhi) = si_va t b := by
            rw [← si_vaE hok, ← hke]
            congr 1
            · exact si_cn_congr (fun x hx => by rw [← si_bi_tb _ _ hx, hlo x hx])
            · exact si_cn_congr (fun x hx => by rw [← si_bi_tb _ _ hx, hhi x hx])
          refine lv_lload_n hx hb zdX_variety_89 rfl (lv_at hl 1 rfl) ?_
          refine (cJ_bitCount l g nlo hnlo).callS (wr := [(x0, .inr (5, [.ref xw, .ref xp, .ref xd, .ref xe, .ref xb, .ref xl, .ref xt])), (xl, .inr (3, [.ref lt, .ref lz, .int (nI sr)])), (lt, .inr (2, [.ref lta, .int (nI t.length)])), (lta, .inl (g.2.1, 60, .inl f)), (xp, .inr (2, [.ref xpa, .int (nI b.length)])), (xpa, .inl (g.2.1, 20, .inl f1))]) (As := [.long (lN nlo)]) (rest := []) hF (si_cS 1 hts zcJ_bitCount zlX_117 zstJ_bitCount ziniJ zhJ_bitCount ⟨Nat.le_of_ble_eq_true rfl, Nat.le_of_ble_eq_true rfl⟩) hK hN hP hD hS hA [] [0, 1, 2, 3, 4, 5] rfl rfl (by decide) (by decide) rfl hl.1 rfl (Nat.le_of_ble_eq_true rfl) zdX_variety_90 ⟨Nat.le_of_ble_eq_true rfl, Nat.le_of_ble_eq_true rfl⟩ rfl rfl (fun r_ _u H locs hq hP hD hS => ?_)
          subst hq
          have hP : va_P g.1 vwCl [(x0, .inr (5, [.ref xw, .ref xp, .ref xd, .ref xe, .ref xb, .ref xl, .ref xt])), (xl, .inr (3, [.ref lt, .ref lz, .int (nI sr)])), (lt, .inr (2, [.ref lta, .int (nI t.length)])), (lta, .inl (g.2.1, 60, .inl f)), (xp, .inr (2, [.ref xpa, .int (nI b.length)])), (xpa, .inl (g.2.1, 20, .inl f1))] H := hP
          have hD : va_D A [(x0, .inr (5, [.ref xw, .ref xp, .ref xd, .ref xe, .ref xb, .ref xl, .ref xt])), (xl, .inr (3, [.ref lt, .ref lz, .int (nI sr)])), (lt, .inr (2, [.ref lta, .int (nI t.length)])), (lta, .inl (g.2.1, 60, .inl f)), (xp, .inr (2, [.ref xpa, .int (nI b.length)])), (xpa, .inl (g.2.1, 20, .inl f1))] := hD
          refine lv_lload_n hx hb zdX_variety_93 rfl (lv_at hl 2 rfl) ?_
          refine (cJ_bitCount l g nhi hnhi).callS (wr := [(x0, .inr (5, [.ref xw, .ref xp, .ref xd, .ref xe, .ref xb, .ref xl, .ref xt])), (xl, .inr (3, [.ref lt, .ref lz, .int (nI sr)])), (lt, .inr (2, [.ref lta, .int (nI t.length)])), (lta, .inl (g.2.1, 60, .inl f)), (xp, .inr (2, [.ref xpa, .int (nI b.length)])), (xpa, .inl (g.2.1, 20, .inl f1))]) (As := [.long (lN nhi)]) (rest := [.int (nI (si_cn 64 (si_tb nlo)))]) hF (si_cS 1 hts zcJ_bitCount zlX_117 zstJ_bitCount ziniJ zhJ_bitCount ⟨Nat.le_of_ble_eq_true rfl, Nat.le_of_ble_eq_true rfl⟩) hK hN hP hD hS hA [] [0, 1, 2, 3, 4, 5] rfl rfl (by decide) (by decide) rfl hl.1 rfl (Nat.le_of_ble_eq_true rfl) zdX_variety_94 ⟨Nat.le_of_ble_eq_true rfl, Nat.le_of_ble_eq_true rfl⟩ rfl rfl (fun r_ _u H locs hq hP hD hS => ?_)
          subst hq
          have hP : va_P g.1 vwCl [(x0, .inr (5, [.ref xw, .ref xp, .ref xd, .ref xe, .ref xb, .ref xl, .ref xt])), (xl, .inr (3, [.ref lt, .ref lz, .int (nI sr)])), (lt, .inr (2, [.ref lta, .int (nI t.length)])), (lta, .inl (g.2.1, 60, .inl f)), (xp, .inr (2, [.ref xpa, .int (nI b.length)])), (xpa, .inl (g.2.1, 20, .inl f1))] H := hP
          have hD : va_D A [(x0, .inr (5, [.ref xw, .ref xp, .ref xd, .ref xe, .ref xb, .ref xl, .ref xt])), (xl, .inr (3, [.ref lt, .ref lz, .int (nI sr)])), (lt, .inr (2, [.ref lta, .int (nI t.length)])), (lta, .inl (g.2.1, 60, .inl f)), (xp, .inr (2, [.ref xpa, .int (nI b.length)])), (xpa, .inl (g.2.1, 20, .inl f1))] := hD
          refine si_iadd (v := nI (si_cn 64 (si_tb nlo) + (si_cn 64 (si_tb nhi)))) hx hb zdX_variety_97 (nI_add _ _) ?_
          exact hret (nI (si_cn 64 (si_tb nlo) + (si_cn 64 (si_tb nhi)))) () _ _ _ _ (rfl) (by rw [hva]) (hP.sub [0, 1, 2, 3, 4, 5] rfl) (hD.sub [0, 1, 2, 3, 4, 5] (by decide) rfl) hS zdX_variety_98
        · refine lv_aload_n hx hb zdX_variety_31 rfl (lv_at hl 0 rfl) ?_
          refine lv_iload hx hb zdX_variety_32 (lv_at hl 3 rfl) ?_
          refine (cX_occursAt l g x0 xw xp xd xe xb xl xt lt lz lta xpa sr f f1 t b k hs1 hs2 hok hf hb1 hf1 hval (by omega)).callV (wr := []) (As := [.int (nI k)]) (rest := []) hF (si_cV 1 hts zcX_occursAt zlX_114 zimX_occursAt zseX_occursAt ziniX zhX_occursAt ⟨Nat.le_of_ble_eq_true rfl, Nat.le_of_ble_eq_true rfl⟩) hK hN hP hD hS hA [0, 1, 2, 3, 4, 5] [] rfl rfl (by decide) (by decide) (va_recv (q := (zRX, zTX, 7)) hK hP (ci := 5) (q0 := 0) rfl rfl) rfl hl.1 rfl (Nat.le_of_ble_eq_true rfl) zdX_variety_34 ⟨Nat.le_of_ble_eq_true rfl, Nat.le_of_ble_eq_true rfl⟩ rfl rfl (fun r_ _u H locs hq hP hD hS => ?_)
          subst hq
          have hP : va_P g.1 vwCl [(x0, .inr (5, [.ref xw, .ref xp, .ref xd, .ref xe, .ref xb, .ref xl, .ref xt])), (xl, .inr (3, [.ref lt, .ref lz, .int (nI sr)])), (lt, .inr (2, [.ref lta, .int (nI t.length)])), (lta, .inl (g.2.1, 60, .inl f)), (xp, .inr (2, [.ref xpa, .int (nI b.length)])), (xpa, .inl (g.2.1, 20, .inl f1))] H := hP
          have hD : va_D A [(x0, .inr (5, [.ref xw, .ref xp, .ref xd, .ref xe, .ref xb, .ref xl, .ref xt])), (xl, .inr (3, [.ref lt, .ref lz, .int (nI sr)])), (lt, .inr (2, [.ref lta, .int (nI t.length)])), (lta, .inl (g.2.1, 60, .inl f)), (xp, .inr (2, [.ref xpa, .int (nI b.length)])), (xpa, .inl (g.2.1, 20, .inl f1))] := hD
          refine si_if_eq (tgt := 83) hx hb zdX_variety_37 rfl (si_bn _) (fun h37 => ?_) (fun h37 => ?_)
          · have hoc : si_oc t b k = false := si_b0 h37
            refine lv_iinc (k := 3) (v := nI (k + 1)) (lv' := [(5, .int (nI (k + 1))), (0, .ref x0), (1, .long lo), (3, .long hi)]) hx hb zdX_variety_83 hl rfl (si_inc _) (Nat.le_of_ble_eq_true rfl) rfl (fun ls hl => ?_)
            refine lv_goto (tgt := 16) hx hb zdX_variety_86 rfl ?_
            exact ih16 (k + 1) lo hi _ _ _ (by omega) (by omega) (by omega) (fun x hx => by first | exact si_vA hk1 hlo hoc x hx | exact si_vB hk1 hlo hoc hlt x hx | exact si_vC hk1 hlo hge x hx) (fun x hx => by first | exact si_vD hk1 hhi hoc x hx | exact si_vE hk1 hhi hlt x hx | exact si_vF hk1 hhi hoc hge hg.2 x hx) (lv_sub hl [1, 2, 3, 0] rfl) (hP.sub [0, 1, 2, 3, 4, 5] rfl) (hD.sub [0, 1, 2, 3, 4, 5] (by decide) rfl) hS
          · have hoc : si_oc t b k = true := si_b1 h37
            refine lv_aload_n hx hb zdX_variety_40 rfl (lv_at hl 0 rfl) ?_
            refine va_get (D := g.1) (ci := 5) (v := .ref xl) (C := zRX) (T := zTX) (N := 7) hx hb hts ziX hown hK hP 0 rfl rfl 5 (by decide) (hts _ zlX_41) (fun _ h => h) rfl zdX_variety_41 ?_
            refine va_getN (D := g.1) (ci := 3) (v := .ref lt) (C := zRR) (T := zTR) (N := 3) hx hb hts ziR hown hK hP 1 rfl rfl 0 (by decide) (va_Nw.use rfl (hN _ zlX_74)) (fun _ h => h) rfl zdX_variety_44 ?_
            refine lv_iload hx hb zdX_variety_47 (lv_at hl 3 rfl) ?_
            refine lv_iconst (v := nI 1) hx hb zdX_variety_49 (by decide) ?_
            refine si_isub (v := nI (k - 1)) hx hb zdX_variety_50 (pk_sub (by omega)) ?_
            refine (cL_codeAt l g lt lta 60 t.length f (nI (k - 1)) (nI (si_g t (k - 1))) (by decide) hn (si_ca_n hf (by omega) (by omega))).callV (wr := [(x0, .inr (5, [.ref xw, .ref xp, .ref xd, .ref xe, .ref xb, .ref xl, .ref xt])), (xl, .inr (3, [.ref lt, .ref lz, .int (nI sr)])), (xp, .inr (2, [.ref xpa, .int (nI b.length)])), (xpa, .inl (g.2.1, 20, .inl f1))]) (As := [.int (nI (k - 1))]) (rest := []) hF (si_cV 1 hts zcL_codeAt zlX_94 zimL_codeAt zseL_codeAt ziniL zhL_codeAt ⟨Nat.le_of_ble_eq_true rfl, Nat.le_of_ble_eq_true rfl⟩) hK hN hP hD hS hA [2, 3] [0, 1, 4, 5] rfl rfl (by decide) (by decide) (va_recv (q := (zRL, zTL, 2)) hK hP (ci := 2) (q0 := 2) rfl rfl) rfl hl.1 rfl (Nat.le_of_ble_eq_true rfl) zdX_variety_51 ⟨Nat.le_of_ble_eq_true rfl, Nat.le_of_ble_eq_true rfl⟩ rfl rfl (fun r_ _u H locs hq hP hD hS => ?_)
            subst hq
            have hg := si_ok_at hok (show k - 1 < t.length by omega)
            have hP : va_P g.1 vwCl [(x0, .inr (5, [.ref xw, .ref xp, .ref xd, .ref xe, .ref xb, .ref xl, .ref xt])), (xl, .inr (3, [.ref lt, .ref lz, .int (nI sr)])), (xp, .inr (2, [.ref xpa, .int (nI b.length)])), (xpa, .inl (g.2.1, 20, .inl f1)), (lt, .inr (2, [.ref lta, .int (nI t.length)])), (lta, .inl (g.2.1, 60, .inl f))] H := hP
            have hD : va_D A [(x0, .inr (5, [.ref xw, .ref xp, .ref xd, .ref xe, .ref xb, .ref xl, .ref xt])), (xl, .inr (3, [.ref lt, .ref lz, .int (nI sr)])), (xp, .inr (2, [.ref xpa, .int (nI b.length)])), (xpa, .inl (g.2.1, 20, .inl f1)), (lt, .inr (2, [.ref lta, .int (nI t.length)])), (lta, .inl (g.2.1, 60, .inl f))] := hD
            refine lv_istore (lv' := [(6, .int (nI (si_g t (k - 1)))), (0, .ref x0), (1, .long lo), (3, .long hi), (5, .int (nI k))]) hx hb zdX_variety_54 hl (Nat.le_of_ble_eq_true rfl) rfl (fun ls hl => ?_)
            refine lv_iload hx hb zdX_variety_56 (lv_at hl 0 rfl) ?_
            refine lv_bipush (v := nI 64) hx hb zdX_variety_58 (by decide) ?_
            refine si_icmp_ge (tgt := 73) hx hb zdX_variety_60 rfl (by omega) (by omega) (fun h60 => ?_) (fun h60 => ?_)
            · have hge : 64 ≤ si_g t (k - 1) := h60
              refine lv_lload_n hx hb zdX_variety_73 rfl (lv_at hl 3 rfl) ?_
              refine lv_lconst (v := 1) hx hb zdX_variety_74 (by decide) ?_
              refine lv_iload hx hb zdX_variety_75 (lv_at hl 0 rfl) ?_
              refine lv_bipush (v := nI 64) hx hb zdX_variety_77 (by decide) ?_
              refine si_isub (v := nI ((si_g t (k - 1)) - 64)) hx hb zdX_variety_79 (pk_sub (by omega)) ?_
              refine lv_lshl (v := (1 : Int64) <<< ((nI ((si_g t (k - 1)) - 64)).toInt64 &&& 63)) hx hb zdX_variety_80 (rfl) ?_
              refine si_lor (v := hi ||| ((1 : Int64) <<< ((nI ((si_g t (k - 1)) - 64)).toInt64 &&& 63))) hx hb zdX_variety_81 (rfl) ?_
              refine lv_lstore_n (lv' := [(3, .long (hi ||| ((1 : Int64) <<< ((nI ((si_g t (k - 1)) - 64)).toInt64 &&& 63)))), (6, .int (nI (si_g t (k - 1)))), (0, .ref x0), (1, .long lo), (5, .int (nI k))]) hx hb zdX_variety_82 rfl hl (Nat.le_of_ble_eq_true rfl) rfl (fun ls hl => ?_)
              refine lv_iinc (k := 4) (v := nI (k + 1)) (lv' := [(5, .int (nI (k + 1))), (3, .long (hi ||| ((1 : Int64) <<< ((nI ((si_g t (k - 1)) - 64)).toInt64 &&& 63)))), (6, .int (nI (si_g t (k - 1)))), (0, .ref x0), (1, .long lo)]) hx hb zdX_variety_83 hl rfl (si_inc _) (Nat.le_of_ble_eq_true rfl) rfl (fun ls hl => ?_)
              refine lv_goto (tgt := 16) hx hb zdX_variety_86 rfl ?_
              exact ih16 (k + 1) lo (hi ||| ((1 : Int64) <<< ((nI ((si_g t (k - 1)) - 64)).toInt64 &&& 63))) _ _ _ (by omega) (by omega) (by omega) (fun x hx => by first | exact si_vA hk1 hlo hoc x hx | exact si_vB hk1 hlo hoc hlt x hx | exact si_vC hk1 hlo hge x hx) (fun x hx => by first | exact si_vD hk1 hhi hoc x hx | exact si_vE hk1 hhi hlt x hx | exact si_vF hk1 hhi hoc hge hg.2 x hx) (lv_sub hl [3, 4, 1, 0] rfl) (hP.sub [0, 1, 4, 5, 2, 3] rfl) (hD.sub [0, 1, 4, 5, 2, 3] (by decide) rfl) hS
            · have hlt : si_g t (k - 1) < 64 := h60
              refine lv_lload_n hx hb zdX_variety_63 rfl (lv_at hl 2 rfl) ?_
              refine lv_lconst (v := 1) hx hb zdX_variety_64 (by decide) ?_
              refine lv_iload hx hb zdX_variety_65 (lv_at hl 0 rfl) ?_
              refine lv_lshl (v := (1 : Int64) <<< ((nI (si_g t (k - 1))).toInt64 &&& 63)) hx hb zdX_variety_67 (rfl) ?_
              refine si_lor (v := lo ||| ((1 : Int64) <<< ((nI (si_g t (k - 1))).toInt64 &&& 63))) hx hb zdX_variety_68 (rfl) ?_
              refine lv_lstore_n (lv' := [(1, .long (lo ||| ((1 : Int64) <<< ((nI (si_g t (k - 1))).toInt64 &&& 63)))), (6, .int (nI (si_g t (k - 1)))), (0, .ref x0), (3, .long hi), (5, .int (nI k))]) hx hb zdX_variety_69 rfl hl (Nat.le_of_ble_eq_true rfl) rfl (fun ls hl => ?_)
              refine lv_goto (tgt := 83) hx hb zdX_variety_70 rfl ?_
              refine lv_iinc (k := 4) (v := nI (k + 1)) (lv' := [(5, .int (nI (k + 1))), (1, .long (lo ||| ((1 : Int64) <<< ((nI (si_g t (k - 1))).toInt64 &&& 63)))), (6, .int (nI (si_g t (k - 1)))), (0, .ref x0), (3, .long hi)]) hx hb zdX_variety_83 hl rfl (si_inc _) (Nat.le_of_ble_eq_true rfl) rfl (fun ls hl => ?_)
              refine lv_goto (tgt := 16) hx hb zdX_variety_86 rfl ?_
              exact ih16 (k + 1) (lo ||| ((1 : Int64) <<< ((nI (si_g t (k - 1))).toInt64 &&& 63))) hi _ _ _ (by omega) (by omega) (by omega) (fun x hx => by first | exact si_vA hk1 hlo hoc x hx | exact si_vB hk1 hlo hoc hlt x hx | exact si_vC hk1 hlo hge x hx) (fun x hx => by first | exact si_vD hk1 hhi hoc x hx | exact si_vE hk1 hhi hlt x hx | exact si_vF hk1 hhi hoc hge hg.2 x hx) (lv_sub hl [3, 1, 4, 0] rfl) (hP.sub [0, 1, 4, 5, 2, 3] rfl) (hD.sub [0, 1, 4, 5, 2, 3] (by decide) rfl) hS
    exact L16 (t.length + 1 - 1 + 1) 1 (0 : Int64) (0 : Int64) _ _ _ (by omega) (by omega) (by omega) (fun x _ => si_bi_0 x) (fun x _ => si_bi_0 x) (lv_sub hl [3, 2, 1, 0] rfl) (hP.sub [4, 5, 0, 1, 2, 3] rfl) (hD.sub [4, 5, 0, 1, 2, 3] (by decide) rfl) hS
  · exact absurd h4 (by decide)

