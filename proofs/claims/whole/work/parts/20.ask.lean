/-! Contracts of the private methods of SelfIndexImage, and of its questions. Written by wip/draft/p20.py -/
theorem si_nm1 {k : Nat} (h : k < 2 ^ 31) : ¬ nI k = -1 := fun z => by
  have h1 := congrArg Int32.toInt z
  rw [nI_toInt h] at h1
  have h2 : (-1 : Int32).toInt = -1 := by decide
  omega
theorem si_or_l {A B : Prop} (h : A ∨ B) (hn : ¬ B) : A := h.elim id (fun b => absurd b hn)
theorem si_or_r {A B : Prop} (h : A ∨ B) (hn : ¬ A) : B := h.elim (fun a => absurd a hn) id
/-- the number of a word -/
def si_isW (k : Int32) : Bool := decide (¬ k < 0 ∧ ¬ nI 23 ≤ k)
/-- a rate -/
def si_isR (x : Int64) : Bool := decide (¬ x < 1 ∧ ¬ 16 < x)
/-- a place of a text of n characters -/
def si_inP (n : Nat) (q : Int32) : Bool := decide (¬ q < 0 ∧ ¬ nI n < q)
theorem si_isW_t {k : Int32} (h : si_isW k = true) : ∃ j, j < 23 ∧ k = nI j := by
  have h := of_decide_eq_true h
  obtain ⟨j, hj, rfl⟩ := nI_of h.1
  refine ⟨j, ?_, rfl⟩
  apply Classical.byContradiction
  intro z
  exact h.2 (nI_le (by omega) hj)
theorem si_isW_n {j : Nat} (h : j < 23) : si_isW (nI j) = true := decide_eq_true ⟨nI_pos (by omega), nI_ge h (by decide)⟩
theorem si_inP_t {n : Nat} {q : Int32} (h : si_inP n q = true) : ∃ j, j ≤ n ∧ q = nI j := by
  have h := of_decide_eq_true h
  obtain ⟨j, hj, rfl⟩ := nI_of h.1
  refine ⟨j, ?_, rfl⟩
  apply Classical.byContradiction
  intro z
  exact h.2 (nI_lt (by omega) hj)
theorem si_isR_t {x : Int64} (h : si_isR x = true) : ∃ k, 1 ≤ k ∧ k ≤ 16 ∧ x = lN k := by
  have h := of_decide_eq_true h
  have h1 : (1 : Int64) = lN 1 := rfl
  have h16 : (16 : Int64) = lN 16 := rfl
  have hp : ¬ x < 0 := fun z => h.1 (by
    rw [Int64.lt_iff_toInt_lt] at z ⊢
    have e0 : (0 : Int64).toInt = 0 := by decide
    have e1 : (1 : Int64).toInt = 1 := by decide
    rw [e0] at z; rw [e1]; omega)
  obtain ⟨k, hk, rfl⟩ := pk_lOf hp
  have a1 := pk_lLT (a := k) (b := 1) hk (by decide)
  have a2 := pk_lLT (a := 16) (b := k) (by decide) hk
  refine ⟨k, ?_, ?_, rfl⟩
  · apply Classical.byContradiction; intro z; exact h.1 (by rw [h1]; exact a1.mpr (by omega))
  · apply Classical.byContradiction; intro z; exact h.2 (by rw [h16]; exact a2.mpr (by omega))
theorem si_isR_n {k : Nat} (h1 : 1 ≤ k) (h2 : k ≤ 16) : si_isR (lN k) = true := by
  have e1 : (1 : Int64) = lN 1 := rfl
  have e16 : (16 : Int64) = lN 16 := rfl
  refine decide_eq_true ⟨fun z => ?_, fun z => ?_⟩
  · rw [e1] at z; have := (pk_lLT (a := k) (b := 1) (by omega) (by decide)).mp z; omega
  · rw [e16] at z; have := (pk_lLT (a := 16) (b := k) (by decide) (by omega)).mp z; omega
theorem si_isRi_t {q : Int32} (h : si_isR q.toInt64 = true) : ∃ k, 1 ≤ k ∧ k ≤ 16 ∧ q = nI k := by
  obtain ⟨k, h1, h2, h3⟩ := si_isR_t h
  refine ⟨k, h1, h2, ?_⟩
  have h4 := congrArg Int64.toInt32 h3
  rw [lN_i] at h4
  rw [← h4]
  simp
/-- what is asked at a place: -1 where there is none -/
def si_q (n : Nat) (q : Int32) (F : Nat → Int32) : Int32 := if si_inP n q = true then F q.toNatClampNeg else -1
theorem si_q_t {n j : Nat} {F : Nat → Int32} (h : si_inP n (nI j) = true) (hj : j < 2 ^ 31) : si_q n (nI j) F = F j := by
  unfold si_q; rw [if_pos h, nI_clamp hj]
theorem si_q_f {n : Nat} {q : Int32} {F : Nat → Int32} (h : si_inP n q = false) : si_q n q F = -1 := if_neg (by rw [h]; decide)
/-- the answer of locate -/
def si_lcR (t a : List Nat) (q v : Int32) : Prop := (q < 0 ∧ v = -1) ∨ ∃ j, j < 2 ^ 31 ∧ q = nI j ∧ si_lc t a j v
theorem si_lcR_one {t a : List Nat} {q v w : Int32} (h1 : si_lcR t a q v) (h2 : si_lcR t a q w) : v = w := by
  rcases h1 with ⟨n1, e1⟩ | ⟨j, hj, rfl, a1⟩ <;> rcases h2 with ⟨n2, e2⟩ | ⟨k, hk, e, a2⟩
  · rw [e1, e2]
  · subst e; exact absurd n1 (nI_pos hk)
  · exact absurd n2 (nI_pos hj)
  · have := (nI_eq hj hk).mp e
    subst this
    exact si_lc_one a1 a2
theorem si_ge0 {q : Int32} (h : 0 ≤ q) : ¬ q < 0 := fun z => by
  rw [Int32.le_iff_toInt_le] at h
  rw [Int32.lt_iff_toInt_lt] at z
  omega
set_option maxHeartbeats 4000000 in
set_option maxRecDepth 100000 in
/-- isWord -/
theorem cX_isWord (l : Launch) (g : si_G) (q : Int32)  : si_Mi (S := Unit) l g vwCl zyX_isWord zwX_isWord ({ frames := 0, cells := 0, slots := 0, locals := 0 } : Room) [.int q] [] (fun r u => r = nI (si_isW q).toNat) (fun u => []) := by
  refine si_Mi.of (cc := zkX_isWord) (maxL := 1) (by decide) rfl (Nat.le_of_ble_eq_true rfl) ?_
  intro p e s m args below meth c A Q ls hF0 hin hK hN hP hD hA hS hl hret
  obtain ⟨hx, hb, hml, hown, hts0⟩ := hF0
  have hts : ∀ w ∈ si_tbl, w.before args s = true := fun w hw => hts0 w (List.mem_cons_of_mem _ hw)
  have hF : CallFix p m c zkX_isWord 1 s args si_tbl zRX := ⟨hx, hb, hml, hown, hts⟩
  have hl : lv_has ls 1 [(0, .int q)] := hl
  refine lv_iload_n hx hb zdX_isWord_0 rfl (lv_at hl 0 rfl) ?_
  refine lv_if_lt (tgt := 14) hx hb zdX_isWord_1 rfl (fun h1 => ?_) (fun h1 => ?_)
  · have hd : si_isW q = false := decide_eq_false (fun z => z.1 h1)
    refine lv_iconst (v := nI 0) hx hb zdX_isWord_14 (by decide) ?_
    exact hret (nI 0) () _ _ _ _ (rfl) (by rw [hd]; rfl) (hP.sub [] rfl) (hD.sub [] (by decide) rfl) hS zdX_isWord_15
  · refine lv_iload_n hx hb zdX_isWord_4 rfl (lv_at hl 0 rfl) ?_
    refine lv_bipush (v := nI 23) hx hb zdX_isWord_5 (by decide) ?_
    refine lv_icmp_ge (tgt := 14) hx hb zdX_isWord_7 rfl (fun h7 => ?_) (fun h7 => ?_)
    · have hd : si_isW q = false := decide_eq_false (fun z => z.2 h7)
      refine lv_iconst (v := nI 0) hx hb zdX_isWord_14 (by decide) ?_
      exact hret (nI 0) () _ _ _ _ (rfl) (by rw [hd]; rfl) (hP.sub [] rfl) (hD.sub [] (by decide) rfl) hS zdX_isWord_15
    · have hd : si_isW q = true := decide_eq_true ⟨h1, h7⟩
      refine lv_iconst (v := nI 1) hx hb zdX_isWord_10 (by decide) ?_
      refine lv_goto (tgt := 15) hx hb zdX_isWord_11 rfl ?_
      exact hret (nI 1) () _ _ _ _ (rfl) (by rw [hd]; rfl) (hP.sub [] rfl) (hD.sub [] (by decide) rfl) hS zdX_isWord_15

set_option maxHeartbeats 4000000 in
set_option maxRecDepth 100000 in
/-- isRate -/
theorem cX_isRate (l : Launch) (g : si_G) (q : Int64)  : si_Mi (S := Unit) l g vwCl zyX_isRate zwX_isRate ({ frames := 0, cells := 0, slots := 0, locals := 0 } : Room) [.long q] [] (fun r u => r = nI (si_isR q).toNat) (fun u => []) := by
  refine si_Mi.of (cc := zkX_isRate) (maxL := 2) (by decide) rfl (Nat.le_of_ble_eq_true rfl) ?_
  intro p e s m args below meth c A Q ls hF0 hin hK hN hP hD hA hS hl hret
  obtain ⟨hx, hb, hml, hown, hts0⟩ := hF0
  have hts : ∀ w ∈ si_tbl, w.before args s = true := fun w hw => hts0 w (List.mem_cons_of_mem _ hw)
  have hF : CallFix p m c zkX_isRate 2 s args si_tbl zRX := ⟨hx, hb, hml, hown, hts⟩
  have hl : lv_has ls 2 [(0, .long q)] := hl
  refine lv_lload_n hx hb zdX_isRate_0 rfl (lv_at hl 0 rfl) ?_
  refine lv_lconst (v := 1) hx hb zdX_isRate_1 (by decide) ?_
  refine W.lcmp hx hb zdX_isRate_2 ?_
  refine lv_if_lt (tgt := 18) hx hb zdX_isRate_3 rfl (fun h3 => ?_) (fun h3 => ?_)
  · have hd : si_isR q = false := decide_eq_false (fun z => z.1 ((si_lcL _ _).mp h3))
    refine lv_iconst (v := nI 0) hx hb zdX_isRate_18 (by decide) ?_
    exact hret (nI 0) () _ _ _ _ (rfl) (by rw [hd]; rfl) (hP.sub [] rfl) (hD.sub [] (by decide) rfl) hS zdX_isRate_19
  · refine lv_lload_n hx hb zdX_isRate_6 rfl (lv_at hl 0 rfl) ?_
    refine lv_ldc2 (v := 16) hx hb hown (hts (.constantLong zRX 123 16) (by decide +kernel)) zdX_isRate_7 ?_
    refine W.lcmp hx hb zdX_isRate_10 ?_
    refine lv_if_gt (tgt := 18) hx hb zdX_isRate_11 rfl (fun h11 => ?_) (fun h11 => ?_)
    · have hd : si_isR q = false := decide_eq_false (fun z => z.2 ((si_lcG _ _).mp h11))
      refine lv_iconst (v := nI 0) hx hb zdX_isRate_18 (by decide) ?_
      exact hret (nI 0) () _ _ _ _ (rfl) (by rw [hd]; rfl) (hP.sub [] rfl) (hD.sub [] (by decide) rfl) hS zdX_isRate_19
    · have hd : si_isR q = true := decide_eq_true ⟨fun z => h3 ((si_lcL _ _).mpr z), fun z => h11 ((si_lcG _ _).mpr z)⟩
      refine lv_iconst (v := nI 1) hx hb zdX_isRate_14 (by decide) ?_
      refine lv_goto (tgt := 19) hx hb zdX_isRate_15 rfl ?_
      exact hret (nI 1) () _ _ _ _ (rfl) (by rw [hd]; rfl) (hP.sub [] rfl) (hD.sub [] (by decide) rfl) hS zdX_isRate_19

set_option maxHeartbeats 4000000 in
set_option maxRecDepth 100000 in
/-- hasLoaded -/
theorem cX_hasLoaded_0 (l : Launch) (g : si_G) (x0 xw xp xd xe xb xl xt : Nat) (lt lz : Nat)  : si_Mi (S := Unit) l g vwCl zyX_hasLoaded zwX_hasLoaded ({ frames := 0, cells := 0, slots := 0, locals := 0 } : Room) [.ref x0] [(x0, .inr (5, [.ref xw, .ref xp, .ref xd, .ref xe, .ref xb, .ref xl, .ref xt])), (xl, .inr (3, [.ref lt, .ref lz, .int (-1)]))] (fun r u => r = nI 0) (fun u => [(x0, .inr (5, [.ref xw, .ref xp, .ref xd, .ref xe, .ref xb, .ref xl, .ref xt])), (xl, .inr (3, [.ref lt, .ref lz, .int (-1)]))]) := by
  refine si_Mi.of (cc := zkX_hasLoaded) (maxL := 1) (by decide) rfl (Nat.le_of_ble_eq_true rfl) ?_
  intro p e s m args below meth c A Q ls hF0 hin hK hN hP hD hA hS hl hret
  obtain ⟨hx, hb, hml, hown, hts0⟩ := hF0
  have hts : ∀ w ∈ si_tbl, w.before args s = true := fun w hw => hts0 w (List.mem_cons_of_mem _ hw)
  have hF : CallFix p m c zkX_hasLoaded 1 s args si_tbl zRX := ⟨hx, hb, hml, hown, hts⟩
  have hl : lv_has ls 1 [(0, .ref x0)] := hl
  refine lv_aload_n hx hb zdX_hasLoaded_0 rfl (lv_at hl 0 rfl) ?_
  refine va_get (D := g.1) (ci := 5) (v := .ref xl) (C := zRX) (T := zTX) (N := 7) hx hb hts ziX hown hK hP 0 rfl rfl 5 (by decide) (hts _ zlX_41) (fun _ h => h) rfl zdX_hasLoaded_1 ?_
  refine va_getN (D := g.1) (ci := 3) (v := .int (-1)) (C := zRR) (T := zTR) (N := 3) hx hb hts ziR hown hK hP 1 rfl rfl 2 (by decide) (va_Nw.use rfl (hN _ zlX_77)) (fun _ h => h) rfl zdX_hasLoaded_4 ?_
  refine lv_iconst (v := -1) hx hb zdX_hasLoaded_7 (by decide) ?_
  refine lv_icmp_eq (tgt := 15) hx hb zdX_hasLoaded_8 rfl (fun h8 => ?_) (fun h8 => ?_)
  · refine lv_iconst (v := nI 0) hx hb zdX_hasLoaded_15 (by decide) ?_
    exact hret (nI 0) () _ _ _ _ (rfl) (rfl) (hP.sub [0, 1] rfl) (hD.sub [0, 1] (by decide) rfl) hS zdX_hasLoaded_16
  · exact absurd rfl h8

set_option maxHeartbeats 4000000 in
set_option maxRecDepth 100000 in
/-- hasLoaded -/
theorem cX_hasLoaded_1 (l : Launch) (g : si_G) (x0 xw xp xd xe xb xl xt : Nat) (lt lz : Nat) (sr : Nat) (hsr : sr < 2 ^ 20) : si_Mi (S := Unit) l g vwCl zyX_hasLoaded zwX_hasLoaded ({ frames := 0, cells := 0, slots := 0, locals := 0 } : Room) [.ref x0] [(x0, .inr (5, [.ref xw, .ref xp, .ref xd, .ref xe, .ref xb, .ref xl, .ref xt])), (xl, .inr (3, [.ref lt, .ref lz, .int (nI sr)]))] (fun r u => r = nI 1) (fun u => [(x0, .inr (5, [.ref xw, .ref xp, .ref xd, .ref xe, .ref xb, .ref xl, .ref xt])), (xl, .inr (3, [.ref lt, .ref lz, .int (nI sr)]))]) := by
  refine si_Mi.of (cc := zkX_hasLoaded) (maxL := 1) (by decide) rfl (Nat.le_of_ble_eq_true rfl) ?_
  intro p e s m args below meth c A Q ls hF0 hin hK hN hP hD hA hS hl hret
  obtain ⟨hx, hb, hml, hown, hts0⟩ := hF0
  have hts : ∀ w ∈ si_tbl, w.before args s = true := fun w hw => hts0 w (List.mem_cons_of_mem _ hw)
  have hF : CallFix p m c zkX_hasLoaded 1 s args si_tbl zRX := ⟨hx, hb, hml, hown, hts⟩
  have hl : lv_has ls 1 [(0, .ref x0)] := hl
  refine lv_aload_n hx hb zdX_hasLoaded_0 rfl (lv_at hl 0 rfl) ?_
  refine va_get (D := g.1) (ci := 5) (v := .ref xl) (C := zRX) (T := zTX) (N := 7) hx hb hts ziX hown hK hP 0 rfl rfl 5 (by decide) (hts _ zlX_41) (fun _ h => h) rfl zdX_hasLoaded_1 ?_
  refine va_getN (D := g.1) (ci := 3) (v := .int (nI sr)) (C := zRR) (T := zTR) (N := 3) hx hb hts ziR hown hK hP 1 rfl rfl 2 (by decide) (va_Nw.use rfl (hN _ zlX_77)) (fun _ h => h) rfl zdX_hasLoaded_4 ?_
  refine lv_iconst (v := -1) hx hb zdX_hasLoaded_7 (by decide) ?_
  refine lv_icmp_eq (tgt := 15) hx hb zdX_hasLoaded_8 rfl (fun h8 => ?_) (fun h8 => ?_)
  · exact absurd h8 (si_nm1 (by omega))
  · refine lv_iconst (v := nI 1) hx hb zdX_hasLoaded_11 (by decide) ?_
    refine lv_goto (tgt := 16) hx hb zdX_hasLoaded_12 rfl ?_
    exact hret (nI 1) () _ _ _ _ (rfl) (rfl) (hP.sub [0, 1] rfl) (hD.sub [0, 1] (by decide) rfl) hS zdX_hasLoaded_16

set_option maxHeartbeats 4000000 in
set_option maxRecDepth 100000 in
/-- isLoadedPlace -/
theorem cX_isLoadedPlace_0 (l : Launch) (g : si_G) (x0 xw xp xd xe xb xl xt : Nat) (lt lz : Nat) (q : Int32)  : si_Mi (S := Unit) l g vwCl zyX_isLoadedPlace zwX_isLoadedPlace ({ frames := 1, cells := 0, slots := 0, locals := 20 } : Room) [.ref x0, .int q] [(x0, .inr (5, [.ref xw, .ref xp, .ref xd, .ref xe, .ref xb, .ref xl, .ref xt])), (xl, .inr (3, [.ref lt, .ref lz, .int (-1)]))] (fun r u => r = nI 0) (fun u => [(x0, .inr (5, [.ref xw, .ref xp, .ref xd, .ref xe, .ref xb, .ref xl, .ref xt])), (xl, .inr (3, [.ref lt, .ref lz, .int (-1)]))]) := by
  refine si_Mi.of (cc := zkX_isLoadedPlace) (maxL := 2) (by decide) rfl (Nat.le_of_ble_eq_true rfl) ?_
  intro p e s m args below meth c A Q ls hF0 hin hK hN hP hD hA hS hl hret
  obtain ⟨hx, hb, hml, hown, hts0⟩ := hF0
  have hts : ∀ w ∈ si_tbl, w.before args s = true := fun w hw => hts0 w (List.mem_cons_of_mem _ hw)
  have hF : CallFix p m c zkX_isLoadedPlace 2 s args si_tbl zRX := ⟨hx, hb, hml, hown, hts⟩
  have hl : lv_has ls 2 [(0, .ref x0), (1, .int q)] := hl
  refine lv_aload_n hx hb zdX_isLoadedPlace_0 rfl (lv_at hl 0 rfl) ?_
  refine (cX_hasLoaded_0 l g x0 xw xp xd xe xb xl xt lt lz).callV (wr := []) (As := []) (rest := []) hF (si_cV 0 hts zcX_hasLoaded zlX_85 zimX_hasLoaded zseX_hasLoaded ziniX zhX_hasLoaded ⟨Nat.le_of_ble_eq_true rfl, Nat.le_of_ble_eq_true rfl⟩) hK hN hP hD hS hA [0, 1] [] rfl rfl (by decide) (by decide) (va_recv (q := (zRX, zTX, 7)) hK hP (ci := 5) (q0 := 0) rfl rfl) rfl hl.1 rfl (Nat.le_of_ble_eq_true rfl) zdX_isLoadedPlace_1 ⟨Nat.le_of_ble_eq_true rfl, Nat.le_of_ble_eq_true rfl⟩ rfl rfl (fun r_ _u H locs hq hP hD hS => ?_)
  subst hq
  have hP : va_P g.1 vwCl [(x0, .inr (5, [.ref xw, .ref xp, .ref xd, .ref xe, .ref xb, .ref xl, .ref xt])), (xl, .inr (3, [.ref lt, .ref lz, .int (-1)]))] H := hP
  have hD : va_D A [(x0, .inr (5, [.ref xw, .ref xp, .ref xd, .ref xe, .ref xb, .ref xl, .ref xt])), (xl, .inr (3, [.ref lt, .ref lz, .int (-1)]))] := hD
  refine si_if_eq (tgt := 29) hx hb zdX_isLoadedPlace_4 rfl (by decide) (fun h4 => ?_) (fun h4 => ?_)
  · refine lv_iconst (v := nI 0) hx hb zdX_isLoadedPlace_29 (by decide) ?_
    exact hret (nI 0) () _ _ _ _ (rfl) (rfl) (hP.sub [0, 1] rfl) (hD.sub [0, 1] (by decide) rfl) hS zdX_isLoadedPlace_30
  · exact absurd rfl h4

set_option maxHeartbeats 4000000 in
set_option maxRecDepth 100000 in
/-- isLoadedPlace -/
theorem cX_isLoadedPlace_1 (l : Launch) (g : si_G) (x0 xw xp xd xe xb xl xt : Nat) (lt lz : Nat) (lta sr : Nat) (t : List Nat) (q : Int32) (hs1 : 1 ≤ sr) (hs2 : sr ≤ 16) (hn : t.length ≤ 60) : si_Mi (S := Unit) l g vwCl zyX_isLoadedPlace zwX_isLoadedPlace ({ frames := 1, cells := 0, slots := 0, locals := 20 } : Room) [.ref x0, .int q] [(x0, .inr (5, [.ref xw, .ref xp, .ref xd, .ref xe, .ref xb, .ref xl, .ref xt])), (xl, .inr (3, [.ref lt, .ref lz, .int (nI sr)])), (lt, .inr (2, [.ref lta, .int (nI t.length)]))] (fun r u => r = nI (si_inP t.length q).toNat) (fun u => [(x0, .inr (5, [.ref xw, .ref xp, .ref xd, .ref xe, .ref xb, .ref xl, .ref xt])), (xl, .inr (3, [.ref lt, .ref lz, .int (nI sr)])), (lt, .inr (2, [.ref lta, .int (nI t.length)]))]) := by
  refine si_Mi.of (cc := zkX_isLoadedPlace) (maxL := 2) (by decide) rfl (Nat.le_of_ble_eq_true rfl) ?_
  intro p e s m args below meth c A Q ls hF0 hin hK hN hP hD hA hS hl hret
  obtain ⟨hx, hb, hml, hown, hts0⟩ := hF0
  have hts : ∀ w ∈ si_tbl, w.before args s = true := fun w hw => hts0 w (List.mem_cons_of_mem _ hw)
  have hF : CallFix p m c zkX_isLoadedPlace 2 s args si_tbl zRX := ⟨hx, hb, hml, hown, hts⟩
  have hl : lv_has ls 2 [(0, .ref x0), (1, .int q)] := hl
  refine lv_aload_n hx hb zdX_isLoadedPlace_0 rfl (lv_at hl 0 rfl) ?_
  refine (cX_hasLoaded_1 l g x0 xw xp xd xe xb xl xt lt lz sr (by omega)).callV (wr := [(lt, .inr (2, [.ref lta, .int (nI t.length)]))]) (As := []) (rest := []) hF (si_cV 0 hts zcX_hasLoaded zlX_85 zimX_hasLoaded zseX_hasLoaded ziniX zhX_hasLoaded ⟨Nat.le_of_ble_eq_true rfl, Nat.le_of_ble_eq_true rfl⟩) hK hN hP hD hS hA [0, 1] [2] rfl rfl (by decide) (by decide) (va_recv (q := (zRX, zTX, 7)) hK hP (ci := 5) (q0 := 0) rfl rfl) rfl hl.1 rfl (Nat.le_of_ble_eq_true rfl) zdX_isLoadedPlace_1 ⟨Nat.le_of_ble_eq_true rfl, Nat.le_of_ble_eq_true rfl⟩ rfl rfl (fun r_ _u H locs hq hP hD hS => ?_)
  subst hq
  have hP : va_P g.1 vwCl [(lt, .inr (2, [.ref lta, .int (nI t.length)])), (x0, .inr (5, [.ref xw, .ref xp, .ref xd, .ref xe, .ref xb, .ref xl, .ref xt])), (xl, .inr (3, [.ref lt, .ref lz, .int (nI sr)]))] H := hP
  have hD : va_D A [(lt, .inr (2, [.ref lta, .int (nI t.length)])), (x0, .inr (5, [.ref xw, .ref xp, .ref xd, .ref xe, .ref xb, .ref xl, .ref xt])), (xl, .inr (3, [.ref lt, .ref lz, .int (nI sr)]))] := hD
  refine si_if_eq (tgt := 29) hx hb zdX_isLoadedPlace_4 rfl (by decide) (fun h4 => ?_) (fun h4 => ?_)
  · exact absurd h4 (by decide)
  · refine lv_iload_n hx hb zdX_isLoadedPlace_7 rfl (lv_at hl 1 rfl) ?_
    refine lv_if_lt (tgt := 29) hx hb zdX_isLoadedPlace_8 rfl (fun h8 => ?_) (fun h8 => ?_)
    · have hd : si_inP t.length q = false := decide_eq_false (fun z => z.1 h8)
      refine lv_iconst (v := nI 0) hx hb zdX_isLoadedPlace_29 (by decide) ?_
      exact hret (nI 0) () _ _ _ _ (rfl) (by rw [hd]; rfl) (hP.sub [1, 2, 0] rfl) (hD.sub [1, 2, 0] (by decide) rfl) hS zdX_isLoadedPlace_30
    · refine lv_iload_n hx hb zdX_isLoadedPlace_11 rfl (lv_at hl 1 rfl) ?_
      refine lv_aload_n hx hb zdX_isLoadedPlace_12 rfl (lv_at hl 0 rfl) ?_
      refine va_get (D := g.1) (ci := 5) (v := .ref xl) (C := zRX) (T := zTX) (N := 7) hx hb hts ziX hown hK hP 1 rfl rfl 5 (by decide) (hts _ zlX_41) (fun _ h => h) rfl zdX_isLoadedPlace_13 ?_
      refine va_getN (D := g.1) (ci := 3) (v := .ref lt) (C := zRR) (T := zTR) (N := 3) hx hb hts ziR hown hK hP 2 rfl rfl 0 (by decide) (va_Nw.use rfl (hN _ zlX_74)) (fun _ h => h) rfl zdX_isLoadedPlace_16 ?_
      refine va_getN (D := g.1) (ci := 2) (v := .int (nI t.length)) (C := zRL) (T := zTL) (N := 2) hx hb hts ziL hown hK hP 0 rfl rfl 1 (by decide) (va_Nw.use rfl (hN _ zlX_88)) (fun _ h => h) rfl zdX_isLoadedPlace_19 ?_
      refine lv_icmp_gt (tgt := 29) hx hb zdX_isLoadedPlace_22 rfl (fun h22 => ?_) (fun h22 => ?_)
      · have hd : si_inP t.length q = false := decide_eq_false (fun z => z.2 h22)
        refine lv_iconst (v := nI 0) hx hb zdX_isLoadedPlace_29 (by decide) ?_
        exact hret (nI 0) () _ _ _ _ (rfl) (by rw [hd]; rfl) (hP.sub [1, 2, 0] rfl) (hD.sub [1, 2, 0] (by decide) rfl) hS zdX_isLoadedPlace_30
      · have hd : si_inP t.length q = true := decide_eq_true ⟨h8, h22⟩
        refine lv_iconst (v := nI 1) hx hb zdX_isLoadedPlace_25 (by decide) ?_
        refine lv_goto (tgt := 30) hx hb zdX_isLoadedPlace_26 rfl ?_
        exact hret (nI 1) () _ _ _ _ (rfl) (by rw [hd]; rfl) (hP.sub [1, 2, 0] rfl) (hD.sub [1, 2, 0] (by decide) rfl) hS zdX_isLoadedPlace_30

set_option maxHeartbeats 4000000 in
set_option maxRecDepth 100000 in
/-- occursAt -/
theorem cX_occursAt (l : Launch) (g : si_G) (x0 xw xp xd xe xb xl xt : Nat) (lt lz : Nat) (lta xpa sr : Nat) (f f1 : Nat → Int32) (t b : List Nat) (k : Nat) (hs1 : 1 ≤ sr) (hs2 : sr ≤ 16) (hok : si_ok t) (hf : si_ln t f) (hb1 : b.length ≤ 20) (hf1 : si_ln b f1) (hval : ∀ z ∈ b, 32 ≤ z ∧ z ≤ 126) (hk : k ≤ t.length) : si_Mi (S := Unit) l g vwCl zyX_occursAt zwX_occursAt ({ frames := 2, cells := 0, slots := 0, locals := 44 } : Room) [.ref x0, .int (nI k)] [(x0, .inr (5, [.ref xw, .ref xp, .ref xd, .ref xe, .ref xb, .ref xl, .ref xt])), (xl, .inr (3, [.ref lt, .ref lz, .int (nI sr)])), (lt, .inr (2, [.ref lta, .int (nI t.length)])), (lta, .inl (g.2.1, 60, .inl f)), (xp, .inr (2, [.ref xpa, .int (nI b.length)])), (xpa, .inl (g.2.1, 20, .inl f1))] (fun r u => r = nI (si_oc t b k).toNat) (fun u => [(x0, .inr (5, [.ref xw, .ref xp, .ref xd, .ref xe, .ref xb, .ref xl, .ref xt])), (xl, .inr (3, [.ref lt, .ref lz, .int (nI sr)])), (lt, .inr (2, [.ref lta, .int (nI t.length)])), (lta, .inl (g.2.1, 60, .inl f)), (xp, .inr (2, [.ref xpa, .int (nI b.length)])), (xpa, .inl (g.2.1, 20, .inl f1))]) := by
  refine si_Mi.of (cc := zkX_occursAt) (maxL := 2) (by decide) rfl (Nat.le_of_ble_eq_true rfl) ?_
  intro p e s m args below meth c A Q ls hF0 hin hK hN hP hD hA hS hl hret
  obtain ⟨hx, hb, hml, hown, hts0⟩ := hF0
  have hts : ∀ w ∈ si_tbl, w.before args s = true := fun w hw => hts0 w (List.mem_cons_of_mem _ hw)
  have hF : CallFix p m c zkX_occursAt 2 s args si_tbl zRX := ⟨hx, hb, hml, hown, hts⟩
  have hl : lv_has ls 2 [(0, .ref x0), (1, .int (nI k))] := hl
  have hn := hok.1
  refine lv_aload_n hx hb zdX_occursAt_0 rfl (lv_at hl 0 rfl) ?_
  refine va_get (D := g.1) (ci := 5) (v := .ref xl) (C := zRX) (T := zTX) (N := 7) hx hb hts ziX hown hK hP 0 rfl rfl 5 (by decide) (hts _ zlX_41) (fun _ h => h) rfl zdX_occursAt_1 ?_
  refine va_getN (D := g.1) (ci := 3) (v := .ref lt) (C := zRR) (T := zTR) (N := 3) hx hb hts ziR hown hK hP 1 rfl rfl 0 (by decide) (va_Nw.use rfl (hN _ zlX_74)) (fun _ h => h) rfl zdX_occursAt_4 ?_
  refine lv_aload_n hx hb zdX_occursAt_7 rfl (lv_at hl 0 rfl) ?_
  refine va_get (D := g.1) (ci := 5) (v := .ref xp) (C := zRX) (T := zTX) (N := 7) hx hb hts ziX hown hK hP 0 rfl rfl 1 (by decide) (hts _ zlX_18) (fun _ h => h) rfl zdX_occursAt_8 ?_
  refine lv_iload_n hx hb zdX_occursAt_11 rfl (lv_at hl 1 rfl) ?_
  refine (cL_hasAt l g lt lta 60 xp xpa 20 f f1 t b k (by decide) (by decide) hn hb1 hf hf1 hval hok.2 hk).callV (wr := [(x0, .inr (5, [.ref xw, .ref xp, .ref xd, .ref xe, .ref xb, .ref xl, .ref xt])), (xl, .inr (3, [.ref lt, .ref lz, .int (nI sr)]))]) (As := [.ref xp, .int (nI k)]) (rest := []) hF (si_cV 2 hts zcL_hasAt zlX_125 zimL_hasAt zseL_hasAt ziniL zhL_hasAt ⟨Nat.le_of_ble_eq_true rfl, Nat.le_of_ble_eq_true rfl⟩) hK hN hP hD hS hA [2, 3, 4, 5] [0, 1] rfl rfl (by decide) (by decide) (va_recv (q := (zRL, zTL, 2)) hK hP (ci := 2) (q0 := 2) rfl rfl) rfl hl.1 rfl (Nat.le_of_ble_eq_true rfl) zdX_occursAt_12 ⟨Nat.le_of_ble_eq_true rfl, Nat.le_of_ble_eq_true rfl⟩ rfl rfl (fun r_ _u H locs hq hP hD hS => ?_)
  subst hq
  have hP : va_P g.1 vwCl [(x0, .inr (5, [.ref xw, .ref xp, .ref xd, .ref xe, .ref xb, .ref xl, .ref xt])), (xl, .inr (3, [.ref lt, .ref lz, .int (nI sr)])), (lt, .inr (2, [.ref lta, .int (nI t.length)])), (lta, .inl (g.2.1, 60, .inl f)), (xp, .inr (2, [.ref xpa, .int (nI b.length)])), (xpa, .inl (g.2.1, 20, .inl f1))] H := hP
  have hD : va_D A [(x0, .inr (5, [.ref xw, .ref xp, .ref xd, .ref xe, .ref xb, .ref xl, .ref xt])), (xl, .inr (3, [.ref lt, .ref lz, .int (nI sr)])), (lt, .inr (2, [.ref lta, .int (nI t.length)])), (lta, .inl (g.2.1, 60, .inl f)), (xp, .inr (2, [.ref xpa, .int (nI b.length)])), (xpa, .inl (g.2.1, 20, .inl f1))] := hD
  exact hret (nI ((si_oc t b k).toNat)) () _ _ _ _ (si_nb _) (rfl) (hP.sub [0, 1, 2, 3, 4, 5] rfl) (hD.sub [0, 1, 2, 3, 4, 5] (by decide) rfl) hS zdX_occursAt_15

set_option maxHeartbeats 4000000 in
set_option maxRecDepth 100000 in
theorem cX_length_0 (l : Launch) (g : si_G) (x0 xw xp xd xe xb xl xt : Nat) (lt lz : Nat)  : si_Mi (S := Unit) l g vwCl zyX_length zwX_length ({ frames := 1, cells := 0, slots := 0, locals := 20 } : Room) [.ref x0] [(x0, .inr (5, [.ref xw, .ref xp, .ref xd, .ref xe, .ref xb, .ref xl, .ref xt])), (xl, .inr (3, [.ref lt, .ref lz, .int (-1)]))] (fun r u => r = -1) (fun u => [(x0, .inr (5, [.ref xw, .ref xp, .ref xd, .ref xe, .ref xb, .ref xl, .ref xt])), (xl, .inr (3, [.ref lt, .ref lz, .int (-1)]))]) := by
  refine si_Mi.of (cc := zkX_length) (maxL := 1) (by decide) rfl (Nat.le_of_ble_eq_true rfl) ?_
  intro p e s m args below meth c A Q ls hF0 hin hK hN hP hD hA hS hl hret
  obtain ⟨hx, hb, hml, hown, hts0⟩ := hF0
  have hts : ∀ w ∈ si_tbl, w.before args s = true := fun w hw => hts0 w (List.mem_cons_of_mem _ hw)
  have hF : CallFix p m c zkX_length 1 s args si_tbl zRX := ⟨hx, hb, hml, hown, hts⟩
  have hl : lv_has ls 1 [(0, .ref x0)] := hl
  refine lv_aload_n hx hb zdX_length_0 rfl (lv_at hl 0 rfl) ?_
  refine (cX_hasLoaded_0 l g x0 xw xp xd xe xb xl xt lt lz).callV (wr := []) (As := []) (rest := []) hF (si_cV 0 hts zcX_hasLoaded zlX_85 zimX_hasLoaded zseX_hasLoaded ziniX zhX_hasLoaded ⟨Nat.le_of_ble_eq_true rfl, Nat.le_of_ble_eq_true rfl⟩) hK hN hP hD hS hA [0, 1] [] rfl rfl (by decide) (by decide) (va_recv (q := (zRX, zTX, 7)) hK hP (ci := 5) (q0 := 0) rfl rfl) rfl hl.1 rfl (Nat.le_of_ble_eq_true rfl) zdX_length_1 ⟨Nat.le_of_ble_eq_true rfl, Nat.le_of_ble_eq_true rfl⟩ rfl rfl (fun r_ _u H locs hq hP hD hS => ?_)
  subst hq
  have hP : va_P g.1 vwCl [(x0, .inr (5, [.ref xw, .ref xp, .ref xd, .ref xe, .ref xb, .ref xl, .ref xt])), (xl, .inr (3, [.ref lt, .ref lz, .int (-1)]))] H := hP
  have hD : va_D A [(x0, .inr (5, [.ref xw, .ref xp, .ref xd, .ref xe, .ref xb, .ref xl, .ref xt])), (xl, .inr (3, [.ref lt, .ref lz, .int (-1)]))] := hD
  refine si_if_eq (tgt := 20) hx hb zdX_length_4 rfl (by decide) (fun h4 => ?_) (fun h4 => ?_)
  · refine lv_iconst (v := -1) hx hb zdX_length_20 (by decide) ?_
    exact hret (-1) () _ _ _ _ (rfl) (rfl) (hP.sub [0, 1] rfl) (hD.sub [0, 1] (by decide) rfl) hS zdX_length_21
  · exact absurd rfl h4

set_option maxHeartbeats 4000000 in
set_option maxRecDepth 100000 in
theorem cX_rate_0 (l : Launch) (g : si_G) (x0 xw xp xd xe xb xl xt : Nat) (lt lz : Nat)  : si_Mi (S := Unit) l g vwCl zyX_rate zwX_rate ({ frames := 1, cells := 0, slots := 0, locals := 20 } : Room) [.ref x0] [(x0, .inr (5, [.ref xw, .ref xp, .ref xd, .ref xe, .ref xb, .ref xl, .ref xt])), (xl, .inr (3, [.ref lt, .ref lz, .int (-1)]))] (fun r u => r = -1) (fun u => [(x0, .inr (5, [.ref xw, .ref xp, .ref xd, .ref xe, .ref xb, .ref xl, .ref xt])), (xl, .inr (3, [.ref lt, .ref lz, .int (-1)]))]) := by
  refine si_Mi.of (cc := zkX_rate) (maxL := 1) (by decide) rfl (Nat.le_of_ble_eq_true rfl) ?_
  intro p e s m args below meth c A Q ls hF0 hin hK hN hP hD hA hS hl hret
  obtain ⟨hx, hb, hml, hown, hts0⟩ := hF0
  have hts : ∀ w ∈ si_tbl, w.before args s = true := fun w hw => hts0 w (List.mem_cons_of_mem _ hw)
  have hF : CallFix p m c zkX_rate 1 s args si_tbl zRX := ⟨hx, hb, hml, hown, hts⟩
  have hl : lv_has ls 1 [(0, .ref x0)] := hl
  refine lv_aload_n hx hb zdX_rate_0 rfl (lv_at hl 0 rfl) ?_
  refine (cX_hasLoaded_0 l g x0 xw xp xd xe xb xl xt lt lz).callV (wr := []) (As := []) (rest := []) hF (si_cV 0 hts zcX_hasLoaded zlX_85 zimX_hasLoaded zseX_hasLoaded ziniX zhX_hasLoaded ⟨Nat.le_of_ble_eq_true rfl, Nat.le_of_ble_eq_true rfl⟩) hK hN hP hD hS hA [0, 1] [] rfl rfl (by decide) (by decide) (va_recv (q := (zRX, zTX, 7)) hK hP (ci := 5) (q0 := 0) rfl rfl) rfl hl.1 rfl (Nat.le_of_ble_eq_true rfl) zdX_rate_1 ⟨Nat.le_of_ble_eq_true rfl, Nat.le_of_ble_eq_true rfl⟩ rfl rfl (fun r_ _u H locs hq hP hD hS => ?_)
  subst hq
  have hP : va_P g.1 vwCl [(x0, .inr (5, [.ref xw, .ref xp, .ref xd, .ref xe, .ref xb, .ref xl, .ref xt])), (xl, .inr (3, [.ref lt, .ref lz, .int (-1)]))] H := hP
  have hD : va_D A [(x0, .inr (5, [.ref xw, .ref xp, .ref xd, .ref xe, .ref xb, .ref xl, .ref xt])), (xl, .inr (3, [.ref lt, .ref lz, .int (-1)]))] := hD
  refine si_if_eq (tgt := 17) hx hb zdX_rate_4 rfl (by decide) (fun h4 => ?_) (fun h4 => ?_)
  · refine lv_iconst (v := -1) hx hb zdX_rate_17 (by decide) ?_
    exact hret (-1) () _ _ _ _ (rfl) (rfl) (hP.sub [0, 1] rfl) (hD.sub [0, 1] (by decide) rfl) hS zdX_rate_18
  · exact absurd rfl h4

set_option maxHeartbeats 4000000 in
set_option maxRecDepth 100000 in
theorem cX_charAt_0 (l : Launch) (g : si_G) (x0 xw xp xd xe xb xl xt : Nat) (lt lz : Nat) (q : Int32)  : si_Mi (S := Unit) l g vwCl zyX_charAt zwX_charAt ({ frames := 2, cells := 0, slots := 0, locals := 41 } : Room) [.ref x0, .int q] [(x0, .inr (5, [.ref xw, .ref xp, .ref xd, .ref xe, .ref xb, .ref xl, .ref xt])), (xl, .inr (3, [.ref lt, .ref lz, .int (-1)]))] (fun r u => r = -1) (fun u => [(x0, .inr (5, [.ref xw, .ref xp, .ref xd, .ref xe, .ref xb, .ref xl, .ref xt])), (xl, .inr (3, [.ref lt, .ref lz, .int (-1)]))]) := by
  refine si_Mi.of (cc := zkX_charAt) (maxL := 2) (by decide) rfl (Nat.le_of_ble_eq_true rfl) ?_
  intro p e s m args below meth c A Q ls hF0 hin hK hN hP hD hA hS hl hret
  obtain ⟨hx, hb, hml, hown, hts0⟩ := hF0
  have hts : ∀ w ∈ si_tbl, w.before args s = true := fun w hw => hts0 w (List.mem_cons_of_mem _ hw)
  have hF : CallFix p m c zkX_charAt 2 s args si_tbl zRX := ⟨hx, hb, hml, hown, hts⟩
  have hl : lv_has ls 2 [(0, .ref x0), (1, .int q)] := hl
  refine lv_aload_n hx hb zdX_charAt_0 rfl (lv_at hl 0 rfl) ?_
  refine lv_iload_n hx hb zdX_charAt_1 rfl (lv_at hl 1 rfl) ?_
  refine (cX_isLoadedPlace_0 l g x0 xw xp xd xe xb xl xt lt lz q).callV (wr := []) (As := [.int q]) (rest := []) hF (si_cV 1 hts zcX_isLoadedPlace zlX_91 zimX_isLoadedPlace zseX_isLoadedPlace ziniX zhX_isLoadedPlace ⟨Nat.le_of_ble_eq_true rfl, Nat.le_of_ble_eq_true rfl⟩) hK hN hP hD hS hA [0, 1] [] rfl rfl (by decide) (by decide) (va_recv (q := (zRX, zTX, 7)) hK hP (ci := 5) (q0 := 0) rfl rfl) rfl hl.1 rfl (Nat.le_of_ble_eq_true rfl) zdX_charAt_2 ⟨Nat.le_of_ble_eq_true rfl, Nat.le_of_ble_eq_true rfl⟩ rfl rfl (fun r_ _u H locs hq hP hD hS => ?_)
  subst hq
  have hP : va_P g.1 vwCl [(x0, .inr (5, [.ref xw, .ref xp, .ref xd, .ref xe, .ref xb, .ref xl, .ref xt])), (xl, .inr (3, [.ref lt, .ref lz, .int (-1)]))] H := hP
  have hD : va_D A [(x0, .inr (5, [.ref xw, .ref xp, .ref xd, .ref xe, .ref xb, .ref xl, .ref xt])), (xl, .inr (3, [.ref lt, .ref lz, .int (-1)]))] := hD
  refine si_if_eq (tgt := 22) hx hb zdX_charAt_5 rfl (by decide) (fun h5 => ?_) (fun h5 => ?_)
  · refine lv_iconst (v := -1) hx hb zdX_charAt_22 (by decide) ?_
    exact hret (-1) () _ _ _ _ (rfl) (rfl) (hP.sub [0, 1] rfl) (hD.sub [0, 1] (by decide) rfl) hS zdX_charAt_23
  · exact absurd rfl h5

set_option maxHeartbeats 4000000 in
set_option maxRecDepth 100000 in
theorem cX_rowOf_0 (l : Launch) (g : si_G) (x0 xw xp xd xe xb xl xt : Nat) (lt lz : Nat) (q : Int32)  : si_Mi (S := Unit) l g vwCl zyX_rowOf zwX_rowOf ({ frames := 2, cells := 0, slots := 0, locals := 41 } : Room) [.ref x0, .int q] [(x0, .inr (5, [.ref xw, .ref xp, .ref xd, .ref xe, .ref xb, .ref xl, .ref xt])), (xl, .inr (3, [.ref lt, .ref lz, .int (-1)]))] (fun r u => r = -1) (fun u => [(x0, .inr (5, [.ref xw, .ref xp, .ref xd, .ref xe, .ref xb, .ref xl, .ref xt])), (xl, .inr (3, [.ref lt, .ref lz, .int (-1)]))]) := by
  refine si_Mi.of (cc := zkX_rowOf) (maxL := 2) (by decide) rfl (Nat.le_of_ble_eq_true rfl) ?_
  intro p e s m args below meth c A Q ls hF0 hin hK hN hP hD hA hS hl hret
  obtain ⟨hx, hb, hml, hown, hts0⟩ := hF0
  have hts : ∀ w ∈ si_tbl, w.before args s = true := fun w hw => hts0 w (List.mem_cons_of_mem _ hw)
  have hF : CallFix p m c zkX_rowOf 2 s args si_tbl zRX := ⟨hx, hb, hml, hown, hts⟩
  have hl : lv_has ls 2 [(0, .ref x0), (1, .int q)] := hl
  refine lv_aload_n hx hb zdX_rowOf_0 rfl (lv_at hl 0 rfl) ?_
  refine lv_iload_n hx hb zdX_rowOf_1 rfl (lv_at hl 1 rfl) ?_
  refine (cX_isLoadedPlace_0 l g x0 xw xp xd xe xb xl xt lt lz q).callV (wr := []) (As := [.int q]) (rest := []) hF (si_cV 1 hts zcX_isLoadedPlace zlX_91 zimX_isLoadedPlace zseX_isLoadedPlace ziniX zhX_isLoadedPlace ⟨Nat.le_of_ble_eq_true rfl, Nat.le_of_ble_eq_true rfl⟩) hK hN hP hD hS hA [0, 1] [] rfl rfl (by decide) (by decide) (va_recv (q := (zRX, zTX, 7)) hK hP (ci := 5) (q0 := 0) rfl rfl) rfl hl.1 rfl (Nat.le_of_ble_eq_true rfl) zdX_rowOf_2 ⟨Nat.le_of_ble_eq_true rfl, Nat.le_of_ble_eq_true rfl⟩ rfl rfl (fun r_ _u H locs hq hP hD hS => ?_)
  subst hq
  have hP : va_P g.1 vwCl [(x0, .inr (5, [.ref xw, .ref xp, .ref xd, .ref xe, .ref xb, .ref xl, .ref xt])), (xl, .inr (3, [.ref lt, .ref lz, .int (-1)]))] H := hP
  have hD : va_D A [(x0, .inr (5, [.ref xw, .ref xp, .ref xd, .ref xe, .ref xb, .ref xl, .ref xt])), (xl, .inr (3, [.ref lt, .ref lz, .int (-1)]))] := hD
  refine si_if_eq (tgt := 23) hx hb zdX_rowOf_5 rfl (by decide) (fun h5 => ?_) (fun h5 => ?_)
  · refine lv_iconst (v := -1) hx hb zdX_rowOf_23 (by decide) ?_
    exact hret (-1) () _ _ _ _ (rfl) (rfl) (hP.sub [0, 1] rfl) (hD.sub [0, 1] (by decide) rfl) hS zdX_rowOf_24
  · exact absurd rfl h5

set_option maxHeartbeats 4000000 in
set_option maxRecDepth 100000 in
theorem cX_placeOf_0 (l : Launch) (g : si_G) (x0 xw xp xd xe xb xl xt : Nat) (lt lz : Nat) (q : Int32)  : si_Mi (S := Unit) l g vwCl zyX_placeOf zwX_placeOf ({ frames := 2, cells := 0, slots := 0, locals := 41 } : Room) [.ref x0, .int q] [(x0, .inr (5, [.ref xw, .ref xp, .ref xd, .ref xe, .ref xb, .ref xl, .ref xt])), (xl, .inr (3, [.ref lt, .ref lz, .int (-1)]))] (fun r u => r = -1) (fun u => [(x0, .inr (5, [.ref xw, .ref xp, .ref xd, .ref xe, .ref xb, .ref xl, .ref xt])), (xl, .inr (3, [.ref lt, .ref lz, .int (-1)]))]) := by
  refine si_Mi.of (cc := zkX_placeOf) (maxL := 2) (by decide) rfl (Nat.le_of_ble_eq_true rfl) ?_
  intro p e s m args below meth c A Q ls hF0 hin hK hN hP hD hA hS hl hret
  obtain ⟨hx, hb, hml, hown, hts0⟩ := hF0
  have hts : ∀ w ∈ si_tbl, w.before args s = true := fun w hw => hts0 w (List.mem_cons_of_mem _ hw)
  have hF : CallFix p m c zkX_placeOf 2 s args si_tbl zRX := ⟨hx, hb, hml, hown, hts⟩
  have hl : lv_has ls 2 [(0, .ref x0), (1, .int q)] := hl
  refine lv_aload_n hx hb zdX_placeOf_0 rfl (lv_at hl 0 rfl) ?_
  refine lv_iload_n hx hb zdX_placeOf_1 rfl (lv_at hl 1 rfl) ?_
  refine (cX_isLoadedPlace_0 l g x0 xw xp xd xe xb xl xt lt lz q).callV (wr := []) (As := [.int q]) (rest := []) hF (si_cV 1 hts zcX_isLoadedPlace zlX_91 zimX_isLoadedPlace zseX_isLoadedPlace ziniX zhX_isLoadedPlace ⟨Nat.le_of_ble_eq_true rfl, Nat.le_of_ble_eq_true rfl⟩) hK hN hP hD hS hA [0, 1] [] rfl rfl (by decide) (by decide) (va_recv (q := (zRX, zTX, 7)) hK hP (ci := 5) (q0 := 0) rfl rfl) rfl hl.1 rfl (Nat.le_of_ble_eq_true rfl) zdX_placeOf_2 ⟨Nat.le_of_ble_eq_true rfl, Nat.le_of_ble_eq_true rfl⟩ rfl rfl (fun r_ _u H locs hq hP hD hS => ?_)
  subst hq
  have hP : va_P g.1 vwCl [(x0, .inr (5, [.ref xw, .ref xp, .ref xd, .ref xe, .ref xb, .ref xl, .ref xt])), (xl, .inr (3, [.ref lt, .ref lz, .int (-1)]))] H := hP
  have hD : va_D A [(x0, .inr (5, [.ref xw, .ref xp, .ref xd, .ref xe, .ref xb, .ref xl, .ref xt])), (xl, .inr (3, [.ref lt, .ref lz, .int (-1)]))] := hD
  refine si_if_eq (tgt := 23) hx hb zdX_placeOf_5 rfl (by decide) (fun h5 => ?_) (fun h5 => ?_)
  · refine lv_iconst (v := -1) hx hb zdX_placeOf_23 (by decide) ?_
    exact hret (-1) () _ _ _ _ (rfl) (rfl) (hP.sub [0, 1] rfl) (hD.sub [0, 1] (by decide) rfl) hS zdX_placeOf_24
  · exact absurd rfl h5

set_option maxHeartbeats 4000000 in
set_option maxRecDepth 100000 in
theorem cX_count_0 (l : Launch) (g : si_G) (x0 xw xp xd xe xb xl xt : Nat) (lt lz : Nat)  : si_Mi (S := Unit) l g vwCl zyX_count zwX_count ({ frames := 3, cells := 0, slots := 0, locals := 65 } : Room) [.ref x0] [(x0, .inr (5, [.ref xw, .ref xp, .ref xd, .ref xe, .ref xb, .ref xl, .ref xt])), (xl, .inr (3, [.ref lt, .ref lz, .int (-1)]))] (fun r u => r = -1) (fun u => [(x0, .inr (5, [.ref xw, .ref xp, .ref xd, .ref xe, .ref xb, .ref xl, .ref xt])), (xl, .inr (3, [.ref lt, .ref lz, .int (-1)]))]) := by
  refine si_Mi.of (cc := zkX_count) (maxL := 3) (by decide) rfl (Nat.le_of_ble_eq_true rfl) ?_
  intro p e s m args below meth c A Q ls hF0 hin hK hN hP hD hA hS hl hret
  obtain ⟨hx, hb, hml, hown, hts0⟩ := hF0
  have hts : ∀ w ∈ si_tbl, w.before args s = true := fun w hw => hts0 w (List.mem_cons_of_mem _ hw)
  have hF : CallFix p m c zkX_count 3 s args si_tbl zRX := ⟨hx, hb, hml, hown, hts⟩
  have hl : lv_has ls 3 [(0, .ref x0)] := hl
  refine lv_aload_n hx hb zdX_count_0 rfl (lv_at hl 0 rfl) ?_
  refine (cX_hasLoaded_0 l g x0 xw xp xd xe xb xl xt lt lz).callV (wr := []) (As := []) (rest := []) hF (si_cV 0 hts zcX_hasLoaded zlX_85 zimX_hasLoaded zseX_hasLoaded ziniX zhX_hasLoaded ⟨Nat.le_of_ble_eq_true rfl, Nat.le_of_ble_eq_true rfl⟩) hK hN hP hD hS hA [0, 1] [] rfl rfl (by decide) (by decide) (va_recv (q := (zRX, zTX, 7)) hK hP (ci := 5) (q0 := 0) rfl rfl) rfl hl.1 rfl (Nat.le_of_ble_eq_true rfl) zdX_count_1 ⟨Nat.le_of_ble_eq_true rfl, Nat.le_of_ble_eq_true rfl⟩ rfl rfl (fun r_ _u H locs hq hP hD hS => ?_)
  subst hq
  have hP : va_P g.1 vwCl [(x0, .inr (5, [.ref xw, .ref xp, .ref xd, .ref xe, .ref xb, .ref xl, .ref xt])), (xl, .inr (3, [.ref lt, .ref lz, .int (-1)]))] H := hP
  have hD : va_D A [(x0, .inr (5, [.ref xw, .ref xp, .ref xd, .ref xe, .ref xb, .ref xl, .ref xt])), (xl, .inr (3, [.ref lt, .ref lz, .int (-1)]))] := hD
  refine si_if_ne (tgt := 9) hx hb zdX_count_4 rfl (by decide) (fun h4 => ?_) (fun h4 => ?_)
  · exact absurd rfl h4
  · refine lv_iconst (v := -1) hx hb zdX_count_7 (by decide) ?_
    exact hret (-1) () _ _ _ _ (rfl) (rfl) (hP.sub [0, 1] rfl) (hD.sub [0, 1] (by decide) rfl) hS zdX_count_8

set_option maxHeartbeats 4000000 in
set_option maxRecDepth 100000 in
theorem cX_firstRow_0 (l : Launch) (g : si_G) (x0 xw xp xd xe xb xl xt : Nat) (lt lz : Nat)  : si_Mi (S := Unit) l g vwCl zyX_firstRow zwX_firstRow ({ frames := 3, cells := 0, slots := 0, locals := 65 } : Room) [.ref x0] [(x0, .inr (5, [.ref xw, .ref xp, .ref xd, .ref xe, .ref xb, .ref xl, .ref xt])), (xl, .inr (3, [.ref lt, .ref lz, .int (-1)]))] (fun r u => r = -1) (fun u => [(x0, .inr (5, [.ref xw, .ref xp, .ref xd, .ref xe, .ref xb, .ref xl, .ref xt])), (xl, .inr (3, [.ref lt, .ref lz, .int (-1)]))]) := by
  refine si_Mi.of (cc := zkX_firstRow) (maxL := 2) (by decide) rfl (Nat.le_of_ble_eq_true rfl) ?_
  intro p e s m args below meth c A Q ls hF0 hin hK hN hP hD hA hS hl hret
  obtain ⟨hx, hb, hml, hown, hts0⟩ := hF0
  have hts : ∀ w ∈ si_tbl, w.before args s = true := fun w hw => hts0 w (List.mem_cons_of_mem _ hw)
  have hF : CallFix p m c zkX_firstRow 2 s args si_tbl zRX := ⟨hx, hb, hml, hown, hts⟩
  have hl : lv_has ls 2 [(0, .ref x0)] := hl
  refine lv_aload_n hx hb zdX_firstRow_0 rfl (lv_at hl 0 rfl) ?_
  refine (cX_hasLoaded_0 l g x0 xw xp xd xe xb xl xt lt lz).callV (wr := []) (As := []) (rest := []) hF (si_cV 0 hts zcX_hasLoaded zlX_85 zimX_hasLoaded zseX_hasLoaded ziniX zhX_hasLoaded ⟨Nat.le_of_ble_eq_true rfl, Nat.le_of_ble_eq_true rfl⟩) hK hN hP hD hS hA [0, 1] [] rfl rfl (by decide) (by decide) (va_recv (q := (zRX, zTX, 7)) hK hP (ci := 5) (q0 := 0) rfl rfl) rfl hl.1 rfl (Nat.le_of_ble_eq_true rfl) zdX_firstRow_1 ⟨Nat.le_of_ble_eq_true rfl, Nat.le_of_ble_eq_true rfl⟩ rfl rfl (fun r_ _u H locs hq hP hD hS => ?_)
  subst hq
  have hP : va_P g.1 vwCl [(x0, .inr (5, [.ref xw, .ref xp, .ref xd, .ref xe, .ref xb, .ref xl, .ref xt])), (xl, .inr (3, [.ref lt, .ref lz, .int (-1)]))] H := hP
  have hD : va_D A [(x0, .inr (5, [.ref xw, .ref xp, .ref xd, .ref xe, .ref xb, .ref xl, .ref xt])), (xl, .inr (3, [.ref lt, .ref lz, .int (-1)]))] := hD
  refine si_if_ne (tgt := 9) hx hb zdX_firstRow_4 rfl (by decide) (fun h4 => ?_) (fun h4 => ?_)
  · exact absurd rfl h4
  · refine lv_iconst (v := -1) hx hb zdX_firstRow_7 (by decide) ?_
    exact hret (-1) () _ _ _ _ (rfl) (rfl) (hP.sub [0, 1] rfl) (hD.sub [0, 1] (by decide) rfl) hS zdX_firstRow_8

set_option maxHeartbeats 4000000 in
set_option maxRecDepth 100000 in
theorem cX_locate_0 (l : Launch) (g : si_G) (x0 xw xp xd xe xb xl xt : Nat) (lt lz : Nat) (q : Int32)  : si_Mi (S := Unit) l g vwCl zyX_locate zwX_locate ({ frames := 3, cells := 0, slots := 0, locals := 65 } : Room) [.ref x0, .int q] [(x0, .inr (5, [.ref xw, .ref xp, .ref xd, .ref xe, .ref xb, .ref xl, .ref xt])), (xl, .inr (3, [.ref lt, .ref lz, .int (-1)]))] (fun r u => r = -1) (fun u => [(x0, .inr (5, [.ref xw, .ref xp, .ref xd, .ref xe, .ref xb, .ref xl, .ref xt])), (xl, .inr (3, [.ref lt, .ref lz, .int (-1)]))]) := by
  refine si_Mi.of (cc := zkX_locate) (maxL := 4) (by decide) rfl (Nat.le_of_ble_eq_true rfl) ?_
  intro p e s m args below meth c A Q ls hF0 hin hK hN hP hD hA hS hl hret
  obtain ⟨hx, hb, hml, hown, hts0⟩ := hF0
  have hts : ∀ w ∈ si_tbl, w.before args s = true := fun w hw => hts0 w (List.mem_cons_of_mem _ hw)
  have hF : CallFix p m c zkX_locate 4 s args si_tbl zRX := ⟨hx, hb, hml, hown, hts⟩
  have hl : lv_has ls 4 [(0, .ref x0), (1, .int q)] := hl
  refine lv_aload_n hx hb zdX_locate_0 rfl (lv_at hl 0 rfl) ?_
  refine (cX_hasLoaded_0 l g x0 xw xp xd xe xb xl xt lt lz).callV (wr := []) (As := []) (rest := []) hF (si_cV 0 hts zcX_hasLoaded zlX_85 zimX_hasLoaded zseX_hasLoaded ziniX zhX_hasLoaded ⟨Nat.le_of_ble_eq_true rfl, Nat.le_of_ble_eq_true rfl⟩) hK hN hP hD hS hA [0, 1] [] rfl rfl (by decide) (by decide) (va_recv (q := (zRX, zTX, 7)) hK hP (ci := 5) (q0 := 0) rfl rfl) rfl hl.1 rfl (Nat.le_of_ble_eq_true rfl) zdX_locate_1 ⟨Nat.le_of_ble_eq_true rfl, Nat.le_of_ble_eq_true rfl⟩ rfl rfl (fun r_ _u H locs hq hP hD hS => ?_)
  subst hq
  have hP : va_P g.1 vwCl [(x0, .inr (5, [.ref xw, .ref xp, .ref xd, .ref xe, .ref xb, .ref xl, .ref xt])), (xl, .inr (3, [.ref lt, .ref lz, .int (-1)]))] H := hP
  have hD : va_D A [(x0, .inr (5, [.ref xw, .ref xp, .ref xd, .ref xe, .ref xb, .ref xl, .ref xt])), (xl, .inr (3, [.ref lt, .ref lz, .int (-1)]))] := hD
  refine si_if_eq (tgt := 11) hx hb zdX_locate_4 rfl (by decide) (fun h4 => ?_) (fun h4 => ?_)
  · refine lv_iconst (v := -1) hx hb zdX_locate_11 (by decide) ?_
    exact hret (-1) () _ _ _ _ (rfl) (rfl) (hP.sub [0, 1] rfl) (hD.sub [0, 1] (by decide) rfl) hS zdX_locate_12
  · exact absurd rfl h4

set_option maxHeartbeats 4000000 in
set_option maxRecDepth 100000 in
theorem cX_length_1 (l : Launch) (g : si_G) (x0 xw xp xd xe xb xl xt : Nat) (lt lz : Nat) (lta sr : Nat) (t : List Nat) (hs1 : 1 ≤ sr) (hs2 : sr ≤ 16) : si_Mi (S := Unit) l g vwCl zyX_length zwX_length ({ frames := 1, cells := 0, slots := 0, locals := 20 } : Room) [.ref x0] [(x0, .inr (5, [.ref xw, .ref xp, .ref xd, .ref xe, .ref xb, .ref xl, .ref xt])), (xl, .inr (3, [.ref lt, .ref lz, .int (nI sr)])), (lt, .inr (2, [.ref lta, .int (nI t.length)]))] (fun r u => r = nI t.length) (fun u => [(x0, .inr (5, [.ref xw, .ref xp, .ref xd, .ref xe, .ref xb, .ref xl, .ref xt])), (xl, .inr (3, [.ref lt, .ref lz, .int (nI sr)])), (lt, .inr (2, [.ref lta, .int (nI t.length)]))]) := by
  refine si_Mi.of (cc := zkX_length) (maxL := 1) (by decide) rfl (Nat.le_of_ble_eq_true rfl) ?_
  intro p e s m args below meth c A Q ls hF0 hin hK hN hP hD hA hS hl hret
  obtain ⟨hx, hb, hml, hown, hts0⟩ := hF0
  have hts : ∀ w ∈ si_tbl, w.before args s = true := fun w hw => hts0 w (List.mem_cons_of_mem _ hw)
  have hF : CallFix p m c zkX_length 1 s args si_tbl zRX := ⟨hx, hb, hml, hown, hts⟩
  have hl : lv_has ls 1 [(0, .ref x0)] := hl
  refine lv_aload_n hx hb zdX_length_0 rfl (lv_at hl 0 rfl) ?_
  refine (cX_hasLoaded_1 l g x0 xw xp xd xe xb xl xt lt lz sr (by omega)).callV (wr := [(lt, .inr (2, [.ref lta, .int (nI t.length)]))]) (As := []) (rest := []) hF (si_cV 0 hts zcX_hasLoaded zlX_85 zimX_hasLoaded zseX_hasLoaded ziniX zhX_hasLoaded ⟨Nat.le_of_ble_eq_true rfl, Nat.le_of_ble_eq_true rfl⟩) hK hN hP hD hS hA [0, 1] [2] rfl rfl (by decide) (by decide) (va_recv (q := (zRX, zTX, 7)) hK hP (ci := 5) (q0 := 0) rfl rfl) rfl hl.1 rfl (Nat.le_of_ble_eq_true rfl) zdX_length_1 ⟨Nat.le_of_ble_eq_true rfl, Nat.le_of_ble_eq_true rfl⟩ rfl rfl (fun r_ _u H locs hq hP hD hS => ?_)
  subst hq
  have hP : va_P g.1 vwCl [(lt, .inr (2, [.ref lta, .int (nI t.length)])), (x0, .inr (5, [.ref xw, .ref xp, .ref xd, .ref xe, .ref xb, .ref xl, .ref xt])), (xl, .inr (3, [.ref lt, .ref lz, .int (nI sr)]))] H := hP
  have hD : va_D A [(lt, .inr (2, [.ref lta, .int (nI t.length)])), (x0, .inr (5, [.ref xw, .ref xp, .ref xd, .ref xe, .ref xb, .ref xl, .ref xt])), (xl, .inr (3, [.ref lt, .ref lz, .int (nI sr)]))] := hD
  refine si_if_eq (tgt := 20) hx hb zdX_length_4 rfl (by decide) (fun h4 => ?_) (fun h4 => ?_)
  · exact absurd h4 (by decide)
  · refine lv_aload_n hx hb zdX_length_7 rfl (lv_at hl 0 rfl) ?_
    refine va_get (D := g.1) (ci := 5) (v := .ref xl) (C := zRX) (T := zTX) (N := 7) hx hb hts ziX hown hK hP 1 rfl rfl 5 (by decide) (hts _ zlX_41) (fun _ h => h) rfl zdX_length_8 ?_
    refine va_getN (D := g.1) (ci := 3) (v := .ref lt) (C := zRR) (T := zTR) (N := 3) hx hb hts ziR hown hK hP 2 rfl rfl 0 (by decide) (va_Nw.use rfl (hN _ zlX_74)) (fun _ h => h) rfl zdX_length_11 ?_
    refine va_getN (D := g.1) (ci := 2) (v := .int (nI t.length)) (C := zRL) (T := zTL) (N := 2) hx hb hts ziL hown hK hP 0 rfl rfl 1 (by decide) (va_Nw.use rfl (hN _ zlX_88)) (fun _ h => h) rfl zdX_length_14 ?_
    refine lv_goto (tgt := 21) hx hb zdX_length_17 rfl ?_
    exact hret (nI t.length) () _ _ _ _ (rfl) (rfl) (hP.sub [1, 2, 0] rfl) (hD.sub [1, 2, 0] (by decide) rfl) hS zdX_length_21

set_option maxHeartbeats 4000000 in
set_option maxRecDepth 100000 in
theorem cX_rate_1 (l : Launch) (g : si_G) (x0 xw xp xd xe xb xl xt : Nat) (lt lz : Nat) (sr : Nat) (hs1 : 1 ≤ sr) (hs2 : sr ≤ 16) : si_Mi (S := Unit) l g vwCl zyX_rate zwX_rate ({ frames := 1, cells := 0, slots := 0, locals := 20 } : Room) [.ref x0] [(x0, .inr (5, [.ref xw, .ref xp, .ref xd, .ref xe, .ref xb, .ref xl, .ref xt])), (xl, .inr (3, [.ref lt, .ref lz, .int (nI sr)]))] (fun r u => r = nI sr) (fun u => [(x0, .inr (5, [.ref xw, .ref xp, .ref xd, .ref xe, .ref xb, .ref xl, .ref xt])), (xl, .inr (3, [.ref lt, .ref lz, .int (nI sr)]))]) := by
  refine si_Mi.of (cc := zkX_rate) (maxL := 1) (by decide) rfl (Nat.le_of_ble_eq_true rfl) ?_
  intro p e s m args below meth c A Q ls hF0 hin hK hN hP hD hA hS hl hret
  obtain ⟨hx, hb, hml, hown, hts0⟩ := hF0
  have hts : ∀ w ∈ si_tbl, w.before args s = true := fun w hw => hts0 w (List.mem_cons_of_mem _ hw)
  have hF : CallFix p m c zkX_rate 1 s args si_tbl zRX := ⟨hx, hb, hml, hown, hts⟩
  have hl : lv_has ls 1 [(0, .ref x0)] := hl
  refine lv_aload_n hx hb zdX_rate_0 rfl (lv_at hl 0 rfl) ?_
  refine (cX_hasLoaded_1 l g x0 xw xp xd xe xb xl xt lt lz sr (by omega)).callV (wr := []) (As := []) (rest := []) hF (si_cV 0 hts zcX_hasLoaded zlX_85 zimX_hasLoaded zseX_hasLoaded ziniX zhX_hasLoaded ⟨Nat.le_of_ble_eq_true rfl, Nat.le_of_ble_eq_true rfl⟩) hK hN hP hD hS hA [0, 1] [] rfl rfl (by decide) (by decide) (va_recv (q := (zRX, zTX, 7)) hK hP (ci := 5) (q0 := 0) rfl rfl) rfl hl.1 rfl (Nat.le_of_ble_eq_true rfl) zdX_rate_1 ⟨Nat.le_of_ble_eq_true rfl, Nat.le_of_ble_eq_true rfl⟩ rfl rfl (fun r_ _u H locs hq hP hD hS => ?_)
  subst hq
  have hP : va_P g.1 vwCl [(x0, .inr (5, [.ref xw, .ref xp, .ref xd, .ref xe, .ref xb, .ref xl, .ref xt])), (xl, .inr (3, [.ref lt, .ref lz, .int (nI sr)]))] H := hP
  have hD : va_D A [(x0, .inr (5, [.ref xw, .ref xp, .ref xd, .ref xe, .ref xb, .ref xl, .ref xt])), (xl, .inr (3, [.ref lt, .ref lz, .int (nI sr)]))] := hD
  refine si_if_eq (tgt := 17) hx hb zdX_rate_4 rfl (by decide) (fun h4 => ?_) (fun h4 => ?_)
  · exact absurd h4 (by decide)
  · refine lv_aload_n hx hb zdX_rate_7 rfl (lv_at hl 0 rfl) ?_
    refine va_get (D := g.1) (ci := 5) (v := .ref xl) (C := zRX) (T := zTX) (N := 7) hx hb hts ziX hown hK hP 0 rfl rfl 5 (by decide) (hts _ zlX_41) (fun _ h => h) rfl zdX_rate_8 ?_
    refine va_getN (D := g.1) (ci := 3) (v := .int (nI sr)) (C := zRR) (T := zTR) (N := 3) hx hb hts ziR hown hK hP 1 rfl rfl 2 (by decide) (va_Nw.use rfl (hN _ zlX_77)) (fun _ h => h) rfl zdX_rate_11 ?_
    refine lv_goto (tgt := 18) hx hb zdX_rate_14 rfl ?_
    exact hret (nI sr) () _ _ _ _ (rfl) (rfl) (hP.sub [0, 1] rfl) (hD.sub [0, 1] (by decide) rfl) hS zdX_rate_18

set_option maxHeartbeats 4000000 in
set_option maxRecDepth 100000 in
theorem cX_charAt_1 (l : Launch) (g : si_G) (x0 xw xp xd xe xb xl xt : Nat) (lt lz : Nat) (lta sr : Nat) (f : Nat → Int32) (t : List Nat) (q : Int32) (hs1 : 1 ≤ sr) (hs2 : sr ≤ 16) (hok : si_ok t) (hf : si_ln t f) : si_Mi (S := Unit) l g vwCl zyX_charAt zwX_charAt ({ frames := 2, cells := 0, slots := 0, locals := 41 } : Room) [.ref x0, .int q] [(x0, .inr (5, [.ref xw, .ref xp, .ref xd, .ref xe, .ref xb, .ref xl, .ref xt])), (xl, .inr (3, [.ref lt, .ref lz, .int (nI sr)])), (lt, .inr (2, [.ref lta, .int (nI t.length)])), (lta, .inl (g.2.1, 60, .inl f))] (fun r u => r = si_q t.length q (fun j => nI (si_g t j))) (fun u => [(x0, .inr (5, [.ref xw, .ref xp, .ref xd, .ref xe, .ref xb, .ref xl, .ref xt])), (xl, .inr (3, [.ref lt, .ref lz, .int (nI sr)])), (lt, .inr (2, [.ref lta, .int (nI t.length)])), (lta, .inl (g.2.1, 60, .inl f))]) := by
  refine si_Mi.of (cc := zkX_charAt) (maxL := 2) (by decide) rfl (Nat.le_of_ble_eq_true rfl) ?_
  intro p e s m args below meth c A Q ls hF0 hin hK hN hP hD hA hS hl hret
  obtain ⟨hx, hb, hml, hown, hts0⟩ := hF0
  have hts : ∀ w ∈ si_tbl, w.before args s = true := fun w hw => hts0 w (List.mem_cons_of_mem _ hw)
  have hF : CallFix p m c zkX_charAt 2 s args si_tbl zRX := ⟨hx, hb, hml, hown, hts⟩
  have hl : lv_has ls 2 [(0, .ref x0), (1, .int q)] := hl
  have hn := hok.1
  refine lv_aload_n hx hb zdX_charAt_0 rfl (lv_at hl 0 rfl) ?_
  refine lv_iload_n hx hb zdX_charAt_1 rfl (lv_at hl 1 rfl) ?_
  refine (cX_isLoadedPlace_1 l g x0 xw xp xd xe xb xl xt lt lz lta sr t q hs1 hs2 hok.1).callV (wr := [(lta, .inl (g.2.1, 60, .inl f))]) (As := [.int q]) (rest := []) hF (si_cV 1 hts zcX_isLoadedPlace zlX_91 zimX_isLoadedPlace zseX_isLoadedPlace ziniX zhX_isLoadedPlace ⟨Nat.le_of_ble_eq_true rfl, Nat.le_of_ble_eq_true rfl⟩) hK hN hP hD hS hA [0, 1, 2] [3] rfl rfl (by decide) (by decide) (va_recv (q := (zRX, zTX, 7)) hK hP (ci := 5) (q0 := 0) rfl rfl) rfl hl.1 rfl (Nat.le_of_ble_eq_true rfl) zdX_charAt_2 ⟨Nat.le_of_ble_eq_true rfl, Nat.le_of_ble_eq_true rfl⟩ rfl rfl (fun r_ _u H locs hq hP hD hS => ?_)
  subst hq
  have hP : va_P g.1 vwCl [(lta, .inl (g.2.1, 60, .inl f)), (x0, .inr (5, [.ref xw, .ref xp, .ref xd, .ref xe, .ref xb, .ref xl, .ref xt])), (xl, .inr (3, [.ref lt, .ref lz, .int (nI sr)])), (lt, .inr (2, [.ref lta, .int (nI t.length)]))] H := hP
  have hD : va_D A [(lta, .inl (g.2.1, 60, .inl f)), (x0, .inr (5, [.ref xw, .ref xp, .ref xd, .ref xe, .ref xb, .ref xl, .ref xt])), (xl, .inr (3, [.ref lt, .ref lz, .int (nI sr)])), (lt, .inr (2, [.ref lta, .int (nI t.length)]))] := hD
  refine si_if_eq (tgt := 22) hx hb zdX_charAt_5 rfl (si_bn _) (fun h5 => ?_) (fun h5 => ?_)
  · have hd := si_b0 h5
    refine lv_iconst (v := -1) hx hb zdX_charAt_22 (by decide) ?_
    exact hret (-1) () _ _ _ _ (rfl) ((si_q_f hd).symm) (hP.sub [1, 2, 3, 0] rfl) (hD.sub [1, 2, 3, 0] (by decide) rfl) hS zdX_charAt_23
  · have hd := si_b1 h5
    obtain ⟨j, hj, rfl⟩ := si_inP_t hd
    refine lv_aload_n hx hb zdX_charAt_8 rfl (lv_at hl 0 rfl) ?_
    refine va_get (D := g.1) (ci := 5) (v := .ref xl) (C := zRX) (T := zTX) (N := 7) hx hb hts ziX hown hK hP 1 rfl rfl 5 (by decide) (hts _ zlX_41) (fun _ h => h) rfl zdX_charAt_9 ?_
    refine va_getN (D := g.1) (ci := 3) (v := .ref lt) (C := zRR) (T := zTR) (N := 3) hx hb hts ziR hown hK hP 2 rfl rfl 0 (by decide) (va_Nw.use rfl (hN _ zlX_74)) (fun _ h => h) rfl zdX_charAt_12 ?_
    refine lv_iload_n hx hb zdX_charAt_15 rfl (lv_at hl 1 rfl) ?_
    refine (cL_codeAt l g lt lta 60 t.length f (nI j) (nI (si_g t j)) (by decide) hn (si_ca_n hf (by omega) (by omega))).callV (wr := [(x0, .inr (5, [.ref xw, .ref xp, .ref xd, .ref xe, .ref xb, .ref xl, .ref xt])), (xl, .inr (3, [.ref lt, .ref lz, .int (nI sr)]))]) (As := [.int (nI j)]) (rest := []) hF (si_cV 1 hts zcL_codeAt zlX_94 zimL_codeAt zseL_codeAt ziniL zhL_codeAt ⟨Nat.le_of_ble_eq_true rfl, Nat.le_of_ble_eq_true rfl⟩) hK hN hP hD hS hA [3, 0] [1, 2] rfl rfl (by decide) (by decide) (va_recv (q := (zRL, zTL, 2)) hK hP (ci := 2) (q0 := 3) rfl rfl) rfl hl.1 rfl (Nat.le_of_ble_eq_true rfl) zdX_charAt_16 ⟨Nat.le_of_ble_eq_true rfl, Nat.le_of_ble_eq_true rfl⟩ rfl rfl (fun r_ _u H locs hq hP hD hS => ?_)
    subst hq
    have hP : va_P g.1 vwCl [(x0, .inr (5, [.ref xw, .ref xp, .ref xd, .ref xe, .ref xb, .ref xl, .ref xt])), (xl, .inr (3, [.ref lt, .ref lz, .int (nI sr)])), (lt, .inr (2, [.ref lta, .int (nI t.length)])), (lta, .inl (g.2.1, 60, .inl f))] H := hP
    have hD : va_D A [(x0, .inr (5, [.ref xw, .ref xp, .ref xd, .ref xe, .ref xb, .ref xl, .ref xt])), (xl, .inr (3, [.ref lt, .ref lz, .int (nI sr)])), (lt, .inr (2, [.ref lta, .int (nI t.length)])), (lta, .inl (g.2.1, 60, .inl f))] := hD
    refine lv_goto (tgt := 23) hx hb zdX_charAt_19 rfl ?_
    exact hret (nI (si_g t j)) () _ _ _ _ (rfl) ((si_q_t (F := fun j => nI (si_g t j)) hd (by omega)).symm) (hP.sub [0, 1, 2, 3] rfl) (hD.sub [0, 1, 2, 3] (by decide) rfl) hS zdX_charAt_23

set_option maxHeartbeats 4000000 in
set_option maxRecDepth 100000 in
theorem cX_rowOf_1 (l : Launch) (g : si_G) (x0 xw xp xd xe xb xl xt : Nat) (lt lz : Nat) (lta lsr lsp sr : Nat) (fr : Nat → Int32) (la : Int32) (t : List Nat) (q : Int32) (hs1 : 1 ≤ sr) (hs2 : sr ≤ 16) (hok : si_ok t) (hsu : ∀ x, x < t.length + 1 → fr x = nI (si_rk t x)) : si_Mi (S := Unit) l g vwCl zyX_rowOf zwX_rowOf ({ frames := 2, cells := 0, slots := 0, locals := 41 } : Room) [.ref x0, .int q] [(x0, .inr (5, [.ref xw, .ref xp, .ref xd, .ref xe, .ref xb, .ref xl, .ref xt])), (xl, .inr (3, [.ref lt, .ref lz, .int (nI sr)])), (lt, .inr (2, [.ref lta, .int (nI t.length)])), (lz, .inr (4, [.ref lsr, .ref lsp, .int la])), (lsr, .inl (g.2.1, 61, .inl fr))] (fun r u => r = si_q t.length q (fun j => nI (si_rk t j))) (fun u => [(x0, .inr (5, [.ref xw, .ref xp, .ref xd, .ref xe, .ref xb, .ref xl, .ref xt])), (xl, .inr (3, [.ref lt, .ref lz, .int (nI sr)])), (lt, .inr (2, [.ref lta, .int (nI t.length)])), (lz, .inr (4, [.ref lsr, .ref lsp, .int la])), (lsr, .inl (g.2.1, 61, .inl fr))]) := by
  refine si_Mi.of (cc := zkX_rowOf) (maxL := 2) (by decide) rfl (Nat.le_of_ble_eq_true rfl) ?_
  intro p e s m args below meth c A Q ls hF0 hin hK hN hP hD hA hS hl hret
  obtain ⟨hx, hb, hml, hown, hts0⟩ := hF0
  have hts : ∀ w ∈ si_tbl, w.before args s = true := fun w hw => hts0 w (List.mem_cons_of_mem _ hw)
  have hF : CallFix p m c zkX_rowOf 2 s args si_tbl zRX := ⟨hx, hb, hml, hown, hts⟩
  have hl : lv_has ls 2 [(0, .ref x0), (1, .int q)] := hl
  have hn := hok.1
  refine lv_aload_n hx hb zdX_rowOf_0 rfl (lv_at hl 0 rfl) ?_
  refine lv_iload_n hx hb zdX_rowOf_1 rfl (lv_at hl 1 rfl) ?_
  refine (cX_isLoadedPlace_1 l g x0 xw xp xd xe xb xl xt lt lz lta sr t q hs1 hs2 hok.1).callV (wr := [(lz, .inr (4, [.ref lsr, .ref lsp, .int la])), (lsr, .inl (g.2.1, 61, .inl fr))]) (As := [.int q]) (rest := []) hF (si_cV 1 hts zcX_isLoadedPlace zlX_91 zimX_isLoadedPlace zseX_isLoadedPlace ziniX zhX_isLoadedPlace ⟨Nat.le_of_ble_eq_true rfl, Nat.le_of_ble_eq_true rfl⟩) hK hN hP hD hS hA [0, 1, 2] [3, 4] rfl rfl (by decide) (by decide) (va_recv (q := (zRX, zTX, 7)) hK hP (ci := 5) (q0 := 0) rfl rfl) rfl hl.1 rfl (Nat.le_of_ble_eq_true rfl) zdX_rowOf_2 ⟨Nat.le_of_ble_eq_true rfl, Nat.le_of_ble_eq_true rfl⟩ rfl rfl (fun r_ _u H locs hq hP hD hS => ?_)
  subst hq
  have hP : va_P g.1 vwCl [(lz, .inr (4, [.ref lsr, .ref lsp, .int la])), (lsr, .inl (g.2.1, 61, .inl fr)), (x0, .inr (5, [.ref xw, .ref xp, .ref xd, .ref xe, .ref xb, .ref xl, .ref xt])), (xl, .inr (3, [.ref lt, .ref lz, .int (nI sr)])), (lt, .inr (2, [.ref lta, .int (nI t.length)]))] H := hP
  have hD : va_D A [(lz, .inr (4, [.ref lsr, .ref lsp, .int la])), (lsr, .inl (g.2.1, 61, .inl fr)), (x0, .inr (5, [.ref xw, .ref xp, .ref xd, .ref xe, .ref xb, .ref xl, .ref xt])), (xl, .inr (3, [.ref lt, .ref lz, .int (nI sr)])), (lt, .inr (2, [.ref lta, .int (nI t.length)]))] := hD
  refine si_if_eq (tgt := 23) hx hb zdX_rowOf_5 rfl (si_bn _) (fun h5 => ?_) (fun h5 => ?_)
  · have hd := si_b0 h5
    refine lv_iconst (v := -1) hx hb zdX_rowOf_23 (by decide) ?_
    exact hret (-1) () _ _ _ _ (rfl) ((si_q_f hd).symm) (hP.sub [2, 3, 4, 0, 1] rfl) (hD.sub [2, 3, 4, 0, 1] (by decide) rfl) hS zdX_rowOf_24
  · have hd := si_b1 h5
    obtain ⟨j, hj, rfl⟩ := si_inP_t hd
    refine lv_aload_n hx hb zdX_rowOf_8 rfl (lv_at hl 0 rfl) ?_
    refine va_get (D := g.1) (ci := 5) (v := .ref xl) (C := zRX) (T := zTX) (N := 7) hx hb hts ziX hown hK hP 2 rfl rfl 5 (by decide) (hts _ zlX_41) (fun _ h => h) rfl zdX_rowOf_9 ?_
    refine va_getN (D := g.1) (ci := 3) (v := .ref lz) (C := zRR) (T := zTR) (N := 3) hx hb hts ziR hown hK hP 3 rfl rfl 1 (by decide) (va_Nw.use rfl (hN _ zlX_98)) (fun _ h => h) rfl zdX_rowOf_12 ?_
    refine va_getN (D := g.1) (ci := 4) (v := .ref lsr) (C := zRS) (T := zTS) (N := 3) hx hb hts ziS hown hK hP 0 rfl rfl 0 (by decide) (va_Nw.use rfl (hN _ zlX_102)) (fun _ h => h) rfl zdX_rowOf_15 ?_
    refine lv_iload_n hx hb zdX_rowOf_18 rfl (lv_at hl 1 rfl) ?_
    refine si_iald (v := nI (si_rk t j)) hx hb hK hP 1 0 rfl rfl (by decide) (by omega) (hsu j (by omega)) zdX_rowOf_19 ?_
    refine lv_goto (tgt := 24) hx hb zdX_rowOf_20 rfl ?_
    exact hret (nI (si_rk t j)) () _ _ _ _ (rfl) ((si_q_t (F := fun j => nI (si_rk t j)) hd (by omega)).symm) (hP.sub [2, 3, 4, 0, 1] rfl) (hD.sub [2, 3, 4, 0, 1] (by decide) rfl) hS zdX_rowOf_24

set_option maxHeartbeats 4000000 in
set_option maxRecDepth 100000 in
theorem cX_placeOf_1 (l : Launch) (g : si_G) (x0 xw xp xd xe xb xl xt : Nat) (lt lz : Nat) (lta lsr lsp sr : Nat) (fp : Nat → Int32) (la : Int32) (t : List Nat) (q : Int32) (hs1 : 1 ≤ sr) (hs2 : sr ≤ 16) (hok : si_ok t) (hsu : ∀ x, x < t.length + 1 → fp x = nI (si_pl t x)) : si_Mi (S := Unit) l g vwCl zyX_placeOf zwX_placeOf ({ frames := 2, cells := 0, slots := 0, locals := 41 } : Room) [.ref x0, .int q] [(x0, .inr (5, [.ref xw, .ref xp, .ref xd, .ref xe, .ref xb, .ref xl, .ref xt])), (xl, .inr (3, [.ref lt, .ref lz, .int (nI sr)])), (lt, .inr (2, [.ref lta, .int (nI t.length)])), (lz, .inr (4, [.ref lsr, .ref lsp, .int la])), (lsp, .inl (g.2.1, 61, .inl fp))] (fun r u => r = si_q t.length q (fun j => nI (si_pl t j))) (fun u => [(x0, .inr (5, [.ref xw, .ref xp, .ref xd, .ref xe, .ref xb, .ref xl, .ref xt])), (xl, .inr (3, [.ref lt, .ref lz, .int (nI sr)])), (lt, .inr (2, [.ref lta, .int (nI t.length)])), (lz, .inr (4, [.ref lsr, .ref lsp, .int la])), (lsp, .inl (g.2.1, 61, .inl fp))]) := by
  refine si_Mi.of (cc := zkX_placeOf) (maxL := 2) (by decide) rfl (Nat.le_of_ble_eq_true rfl) ?_
  intro p e s m args below meth c A Q ls hF0 hin hK hN hP hD hA hS hl hret
  obtain ⟨hx, hb, hml, hown, hts0⟩ := hF0
  have hts : ∀ w ∈ si_tbl, w.before args s = true := fun w hw => hts0 w (List.mem_cons_of_mem _ hw)
  have hF : CallFix p m c zkX_placeOf 2 s args si_tbl zRX := ⟨hx, hb, hml, hown, hts⟩
  have hl : lv_has ls 2 [(0, .ref x0), (1, .int q)] := hl
  have hn := hok.1
  refine lv_aload_n hx hb zdX_placeOf_0 rfl (lv_at hl 0 rfl) ?_
  refine lv_iload_n hx hb zdX_placeOf_1 rfl (lv_at hl 1 rfl) ?_
  refine (cX_isLoadedPlace_1 l g x0 xw xp xd xe xb xl xt lt lz lta sr t q hs1 hs2 hok.1).callV (wr := [(lz, .inr (4, [.ref lsr, .ref lsp, .int la])), (lsp, .inl (g.2.1, 61, .inl fp))]) (As := [.int q]) (rest := []) hF (si_cV 1 hts zcX_isLoadedPlace zlX_91 zimX_isLoadedPlace zseX_isLoadedPlace ziniX zhX_isLoadedPlace ⟨Nat.le_of_ble_eq_true rfl, Nat.le_of_ble_eq_true rfl⟩) hK hN hP hD hS hA [0, 1, 2] [3, 4] rfl rfl (by decide) (by decide) (va_recv (q := (zRX, zTX, 7)) hK hP (ci := 5) (q0 := 0) rfl rfl) rfl hl.1 rfl (Nat.le_of_ble_eq_true rfl) zdX_placeOf_2 ⟨Nat.le_of_ble_eq_true rfl, Nat.le_of_ble_eq_true rfl⟩ rfl rfl (fun r_ _u H locs hq hP hD hS => ?_)
  subst hq
  have hP : va_P g.1 vwCl [(lz, .inr (4, [.ref lsr, .ref lsp, .int la])), (lsp, .inl (g.2.1, 61, .inl fp)), (x0, .inr (5, [.ref xw, .ref xp, .ref xd, .ref xe, .ref xb, .ref xl, .ref xt])), (xl, .inr (3, [.ref lt, .ref lz, .int (nI sr)])), (lt, .inr (2, [.ref lta, .int (nI t.length)]))] H := hP
  have hD : va_D A [(lz, .inr (4, [.ref lsr, .ref lsp, .int la])), (lsp, .inl (g.2.1, 61, .inl fp)), (x0, .inr (5, [.ref xw, .ref xp, .ref xd, .ref xe, .ref xb, .ref xl, .ref xt])), (xl, .inr (3, [.ref lt, .ref lz, .int (nI sr)])), (lt, .inr (2, [.ref lta, .int (nI t.length)]))] := hD
  refine si_if_eq (tgt := 23) hx hb zdX_placeOf_5 rfl (si_bn _) (fun h5 => ?_) (fun h5 => ?_)
  · have hd := si_b0 h5
    refine lv_iconst (v := -1) hx hb zdX_placeOf_23 (by decide) ?_
    exact hret (-1) () _ _ _ _ (rfl) ((si_q_f hd).symm) (hP.sub [2, 3, 4, 0, 1] rfl) (hD.sub [2, 3, 4, 0, 1] (by decide) rfl) hS zdX_placeOf_24
  · have hd := si_b1 h5
    obtain ⟨j, hj, rfl⟩ := si_inP_t hd
    refine lv_aload_n hx hb zdX_placeOf_8 rfl (lv_at hl 0 rfl) ?_
    refine va_get (D := g.1) (ci := 5) (v := .ref xl) (C := zRX) (T := zTX) (N := 7) hx hb hts ziX hown hK hP 2 rfl rfl 5 (by decide) (hts _ zlX_41) (fun _ h => h) rfl zdX_placeOf_9 ?_
    refine va_getN (D := g.1) (ci := 3) (v := .ref lz) (C := zRR) (T := zTR) (N := 3) hx hb hts ziR hown hK hP 3 rfl rfl 1 (by decide) (va_Nw.use rfl (hN _ zlX_98)) (fun _ h => h) rfl zdX_placeOf_12 ?_
    refine va_getN (D := g.1) (ci := 4) (v := .ref lsp) (C := zRS) (T := zTS) (N := 3) hx hb hts ziS hown hK hP 0 rfl rfl 1 (by decide) (va_Nw.use rfl (hN _ zlX_108)) (fun _ h => h) rfl zdX_placeOf_15 ?_
    refine lv_iload_n hx hb zdX_placeOf_18 rfl (lv_at hl 1 rfl) ?_
    refine si_iald (v := nI (si_pl t j)) hx hb hK hP 1 0 rfl rfl (by decide) (by omega) (hsu j (by omega)) zdX_placeOf_19 ?_
    refine lv_goto (tgt := 24) hx hb zdX_placeOf_20 rfl ?_
    exact hret (nI (si_pl t j)) () _ _ _ _ (rfl) ((si_q_t (F := fun j => nI (si_pl t j)) hd (by omega)).symm) (hP.sub [2, 3, 4, 0, 1] rfl) (hD.sub [2, 3, 4, 0, 1] (by decide) rfl) hS zdX_placeOf_24

set_option maxHeartbeats 4000000 in
set_option maxRecDepth 100000 in
theorem cX_count_1 (l : Launch) (g : si_G) (x0 xw xp xd xe xb xl xt : Nat) (lt lz : Nat) (lta xpa sr : Nat) (f f1 : Nat → Int32) (t b : List Nat) (hs1 : 1 ≤ sr) (hs2 : sr ≤ 16) (hok : si_ok t) (hf : si_ln t f) (hb1 : b.length ≤ 20) (hf1 : si_ln b f1) (hval : ∀ z ∈ b, 32 ≤ z ∧ z ≤ 126) : si_Mi (S := Unit) l g vwCl zyX_count zwX_count ({ frames := 3, cells := 0, slots := 0, locals := 65 } : Room) [.ref x0] [(x0, .inr (5, [.ref xw, .ref xp, .ref xd, .ref xe, .ref xb, .ref xl, .ref xt])), (xl, .inr (3, [.ref lt, .ref lz, .int (nI sr)])), (lt, .inr (2, [.ref lta, .int (nI t.length)])), (lta, .inl (g.2.1, 60, .inl f)), (xp, .inr (2, [.ref xpa, .int (nI b.length)])), (xpa, .inl (g.2.1, 20, .inl f1))] (fun r u => r = nI (si_cn (t.length + 1) (si_oc t b))) (fun u => [(x0, .inr (5, [.ref xw, .ref xp, .ref xd, .ref xe, .ref xb, .ref xl, .ref xt])), (xl, .inr (3, [.ref lt, .ref lz, .int (nI sr)])), (lt, .inr (2, [.ref lta, .int (nI t.length)])), (lta, .inl (g.2.1, 60, .inl f)), (xp, .inr (2, [.ref xpa, .int (nI b.length)])), (xpa, .inl (g.2.1, 20, .inl f1))]) := by
  refine si_Mi.of (cc := zkX_count) (maxL := 3) (by decide) rfl (Nat.le_of_ble_eq_true rfl) ?_
  intro p e s m args below meth c A Q ls hF0 hin hK hN hP hD hA hS hl hret
  obtain ⟨hx, hb, hml, hown, hts0⟩ := hF0
  have hts : ∀ w ∈ si_tbl, w.before args s = true := fun w hw => hts0 w (List.mem_cons_of_mem _ hw)
  have hF : CallFix p m c zkX_count 3 s args si_tbl zRX := ⟨hx, hb, hml, hown, hts⟩
  have hl : lv_has ls 3 [(0, .ref x0)] := hl
  have hn := hok.1
  refine lv_aload_n hx hb zdX_count_0 rfl (lv_at hl 0 rfl) ?_
  refine (cX_hasLoaded_1 l g x0 xw xp xd xe xb xl xt lt lz sr (by omega)).callV (wr := [(lt, .inr (2, [.ref lta, .int (nI t.length)])), (lta, .inl (g.2.1, 60, .inl f)), (xp, .inr (2, [.ref xpa, .int (nI b.length)])), (xpa, .inl (g.2.1, 20, .inl f1))]) (As := []) (rest := []) hF (si_cV 0 hts zcX_hasLoaded zlX_85 zimX_hasLoaded zseX_hasLoaded ziniX zhX_hasLoaded ⟨Nat.le_of_ble_eq_true rfl, Nat.le_of_ble_eq_true rfl⟩) hK hN hP hD hS hA [0, 1] [2, 3, 4, 5] rfl rfl (by decide) (by decide) (va_recv (q := (zRX, zTX, 7)) hK hP (ci := 5) (q0 := 0) rfl rfl) rfl hl.1 rfl (Nat.le_of_ble_eq_true rfl) zdX_count_1 ⟨Nat.le_of_ble_eq_true rfl, Nat.le_of_ble_eq_true rfl⟩ rfl rfl (fun r_ _u H locs hq hP hD hS => ?_)
  subst hq
  have hP : va_P g.1 vwCl [(lt, .inr (2, [.ref lta, .int (nI t.length)])), (lta, .inl (g.2.1, 60, .inl f)), (xp, .inr (2, [.ref xpa, .int (nI b.length)])), (xpa, .inl (g.2.1, 20, .inl f1)), (x0, .inr (5, [.ref xw, .ref xp, .ref xd, .ref xe, .ref xb, .ref xl, .ref xt])), (xl, .inr (3, [.ref lt, .ref lz, .int (nI sr)]))] H := hP
  have hD : va_D A [(lt, .inr (2, [.ref lta, .int (nI t.length)])), (lta, .inl (g.2.1, 60, .inl f)), (xp, .inr (2, [.ref xpa, .int (nI b.length)])), (xpa, .inl (g.2.1, 20, .inl f1)), (x0, .inr (5, [.ref xw, .ref xp, .ref xd, .ref xe, .ref xb, .ref xl, .ref xt])), (xl, .inr (3, [.ref lt, .ref lz, .int (nI sr)]))] := hD
  refine si_if_ne (tgt := 9) hx hb zdX_count_4 rfl (by decide) (fun h4 => ?_) (fun h4 => ?_)
  · refine lv_iconst (v := nI 0) hx hb zdX_count_9 (by decide) ?_
    refine lv_istore_n (lv' := [(1, .int (nI 0)), (0, .ref x0)]) hx hb zdX_count_10 rfl hl (Nat.le_of_ble_eq_true rfl) rfl (fun ls hl => ?_)
    refine lv_iconst (v := nI 0) hx hb zdX_count_11 (by decide) ?_
    refine lv_istore_n (lv' := [(2, .int (nI 0)), (1, .int (nI 0)), (0, .ref x0)]) hx hb zdX_count_12 rfl hl (Nat.le_of_ble_eq_true rfl) rfl (fun ls hl => ?_)
    have L13 : ∀ (N : Nat) (k : Nat) (fo : Nat) (H : Heap) (locs : List Loc) (ls : Array Slot), t.length + 1 - k < N → (k ≤ t.length + 1) → (fo = si_cn k (si_oc t b)) → lv_has ls 3 [(0, .ref x0), (1, .int (nI fo)), (2, .int (nI k))] → va_P g.1 vwCl [(x0, .inr (5, [.ref xw, .ref xp, .ref xd, .ref xe, .ref xb, .ref xl, .ref xt])), (xl, .inr (3, [.ref lt, .ref lz, .int (nI sr)])), (lt, .inr (2, [.ref lta, .int (nI t.length)])), (lta, .inl (g.2.1, 60, .inl f)), (xp, .inr (2, [.ref xpa, .int (nI b.length)])), (xpa, .inl (g.2.1, 20, .inl f1))] H → va_D A [(x0, .inr (5, [.ref xw, .ref xp, .ref xd, .ref xe, .ref xb, .ref xl, .ref xt])), (xl, .inr (3, [.ref lt, .ref lz, .int (nI sr)])), (lt, .inr (2, [.ref lta, .int (nI t.length)])), (lta, .inl (g.2.1, 60, .inl f)), (xp, .inr (2, [.ref xpa, .int (nI b.length)])), (xpa, .inl (g.2.1, 20, .inl f1))] → va_S A s.heap H locs → W p l e ({ frames := 3, cells := 0, slots := 0, locals := 65 } : Room) s m args below meth c H locs 0 0 Q (F0 m 13 ls []) := by
      intro N
      induction N with
      | zero => intro k fo H locs ls hMs; exact absurd hMs (Nat.not_lt_zero _)
      | succ N ih13 =>
        intro k fo H locs ls hMs hk hfo hl hP hD hS
        refine lv_iload_n hx hb zdX_count_13 rfl (lv_at hl 2 rfl) ?_
        refine lv_aload_n hx hb zdX_count_14 rfl (lv_at hl 0 rfl) ?_
        refine va_get (D := g.1) (ci := 5) (v := .ref xl) (C := zRX) (T := zTX) (N := 7) hx hb hts ziX hown hK hP 0 rfl rfl 5 (by decide) (hts _ zlX_41) (fun _ h => h) rfl zdX_count_15 ?_
        refine va_getN (D := g.1) (ci := 3) (v := .ref lt) (C := zRR) (T := zTR) (N := 3) hx hb hts ziR hown hK hP 1 rfl rfl 0 (by decide) (va_Nw.use rfl (hN _ zlX_74)) (fun _ h => h) rfl zdX_count_18 ?_
        refine va_getN (D := g.1) (ci := 2) (v := .int (nI t.length)) (C := zRL) (T := zTL) (N := 2) hx hb hts ziL hown hK hP 2 rfl rfl 1 (by decide) (va_Nw.use rfl (hN _ zlX_88)) (fun _ h => h) rfl zdX_count_21 ?_
        refine si_icmp_gt (tgt := 44) hx hb zdX_count_24 rfl (by omega) (by omega) (fun h24 => ?_) (fun h24 => ?_)
        · refine lv_iload_n hx hb zdX_count_44 rfl (lv_at hl 1 rfl) ?_
          exact hret (nI fo) () _ _ _ _ (rfl) (by rw [hfo, show k = t.length + 1 by omega]) (hP.sub [0, 1, 2, 3, 4, 5] rfl) (hD.sub [0, 1, 2, 3, 4, 5] (by decide) rfl) hS zdX_count_45
        · refine lv_aload_n hx hb zdX_count_27 rfl (lv_at hl 0 rfl) ?_
          refine lv_iload_n hx hb zdX_count_28 rfl (lv_at hl 2 rfl) ?_
          refine (cX_occursAt l g x0 xw xp xd xe xb xl xt lt lz lta xpa sr f f1 t b k hs1 hs2 hok hf hb1 hf1 hval (by omega)).callV (wr := []) (As := [.int (nI k)]) (rest := []) hF (si_cV 1 hts zcX_occursAt zlX_114 zimX_occursAt zseX_occursAt ziniX zhX_occursAt ⟨Nat.le_of_ble_eq_true rfl, Nat.le_of_ble_eq_true rfl⟩) hK hN hP hD hS hA [0, 1, 2, 3, 4, 5] [] rfl rfl (by decide) (by decide) (va_recv (q := (zRX, zTX, 7)) hK hP (ci := 5) (q0 := 0) rfl rfl) rfl hl.1 rfl (Nat.le_of_ble_eq_true rfl) zdX_count_29 ⟨Nat.le_of_ble_eq_true rfl, Nat.le_of_ble_eq_true rfl⟩ rfl rfl (fun r_ _u H locs hq hP hD hS => ?_)
          subst hq
          have hP : va_P g.1 vwCl [(x0, .inr (5, [.ref xw, .ref xp, .ref xd, .ref xe, .ref xb, .ref xl, .ref xt])), (xl, .inr (3, [.ref lt, .ref lz, .int (nI sr)])), (lt, .inr (2, [.ref lta, .int (nI t.length)])), (lta, .inl (g.2.1, 60, .inl f)), (xp, .inr (2, [.ref xpa, .int (nI b.length)])), (xpa, .inl (g.2.1, 20, .inl f1))] H := hP
          have hD : va_D A [(x0, .inr (5, [.ref xw, .ref xp, .ref xd, .ref xe, .ref xb, .ref xl, .ref xt])), (xl, .inr (3, [.ref lt, .ref lz, .int (nI sr)])), (lt, .inr (2, [.ref lta, .int (nI t.length)])), (lta, .inl (g.2.1, 60, .inl f)), (xp, .inr (2, [.ref xpa, .int (nI b.length)])), (xpa, .inl (g.2.1, 20, .inl f1))] := hD
          refine si_if_eq (tgt := 38) hx hb zdX_count_32 rfl (si_bn _) (fun h32 => ?_) (fun h32 => ?_)
          · refine lv_iinc (k := 2) (v := nI (k + 1)) (lv' := [(2, .int (nI (k + 1))), (0, .ref x0), (1, .int (nI fo))]) hx hb zdX_count_38 hl rfl (si_inc _) (Nat.le_of_ble_eq_true rfl) rfl (fun ls hl => ?_)
            refine lv_goto (tgt := 13) hx hb zdX_count_41 rfl ?_
            exact ih13 (k + 1) fo _ _ _ (by omega) (by omega) (by first | (rw [si_cn_t (si_b1 h32), hfo]; done) | (rw [si_cn_f (si_b0 h32), hfo]; done)) (lv_sub hl [1, 2, 0] rfl) (hP.sub [0, 1, 2, 3, 4, 5] rfl) (hD.sub [0, 1, 2, 3, 4, 5] (by decide) rfl) hS
          · refine lv_iinc (k := 1) (v := nI (fo + 1)) (lv' := [(1, .int (nI (fo + 1))), (0, .ref x0), (2, .int (nI k))]) hx hb zdX_count_35 hl rfl (si_inc _) (Nat.le_of_ble_eq_true rfl) rfl (fun ls hl => ?_)
            refine lv_iinc (k := 2) (v := nI (k + 1)) (lv' := [(2, .int (nI (k + 1))), (1, .int (nI (fo + 1))), (0, .ref x0)]) hx hb zdX_count_38 hl rfl (si_inc _) (Nat.le_of_ble_eq_true rfl) rfl (fun ls hl => ?_)
            refine lv_goto (tgt := 13) hx hb zdX_count_41 rfl ?_
            exact ih13 (k + 1) (fo + 1) _ _ _ (by omega) (by omega) (by first | (rw [si_cn_t (si_b1 h32), hfo]; done) | (rw [si_cn_f (si_b0 h32), hfo]; done)) (lv_sub hl [2, 1, 0] rfl) (hP.sub [0, 1, 2, 3, 4, 5] rfl) (hD.sub [0, 1, 2, 3, 4, 5] (by decide) rfl) hS
    exact L13 (t.length + 1 - 0 + 1) 0 0 _ _ _ (by omega) (by omega) (rfl) (lv_sub hl [2, 1, 0] rfl) (hP.sub [4, 5, 0, 1, 2, 3] rfl) (hD.sub [4, 5, 0, 1, 2, 3] (by decide) rfl) hS
  · exact absurd h4 (by decide)

set_option maxHeartbeats 4000000 in
set_option maxRecDepth 100000 in
theorem cX_firstRow_1 (l : Launch) (g : si_G) (x0 xw xp xd xe xb xl xt : Nat) (lt lz : Nat) (lta xpa sr : Nat) (f f1 : Nat → Int32) (t b : List Nat) (lsr lsp : Nat) (fp : Nat → Int32) (la : Int32) (hs1 : 1 ≤ sr) (hs2 : sr ≤ 16) (hok : si_ok t) (hf : si_ln t f) (hb1 : b.length ≤ 20) (hf1 : si_ln b f1) (hval : ∀ z ∈ b, 32 ≤ z ∧ z ≤ 126) (hsu : ∀ x, x < t.length + 1 → fp x = nI (si_pl t x)) : si_Mi (S := Unit) l g vwCl zyX_firstRow zwX_firstRow ({ frames := 3, cells := 0, slots := 0, locals := 65 } : Room) [.ref x0] [(x0, .inr (5, [.ref xw, .ref xp, .ref xd, .ref xe, .ref xb, .ref xl, .ref xt])), (xl, .inr (3, [.ref lt, .ref lz, .int (nI sr)])), (lt, .inr (2, [.ref lta, .int (nI t.length)])), (lta, .inl (g.2.1, 60, .inl f)), (xp, .inr (2, [.ref xpa, .int (nI b.length)])), (xpa, .inl (g.2.1, 20, .inl f1)), (lz, .inr (4, [.ref lsr, .ref lsp, .int la])), (lsp, .inl (g.2.1, 61, .inl fp))] (fun r u => si_fr t b r) (fun u => [(x0, .inr (5, [.ref xw, .ref xp, .ref xd, .ref xe, .ref xb, .ref xl, .ref xt])), (xl, .inr (3, [.ref lt, .ref lz, .int (nI sr)])), (lt, .inr (2, [.ref lta, .int (nI t.length)])), (lta, .inl (g.2.1, 60, .inl f)), (xp, .inr (2, [.ref xpa, .int (nI b.length)])), (xpa, .inl (g.2.1, 20, .inl f1)), (lz, .inr (4, [.ref lsr, .ref lsp, .int la])), (lsp, .inl (g.2.1, 61, .inl fp))]) := by
  refine si_Mi.of (cc := zkX_firstRow) (maxL := 2) (by decide) rfl (Nat.le_of_ble_eq_true rfl) ?_
  intro p e s m args below meth c A Q ls hF0 hin hK hN hP hD hA hS hl hret
  obtain ⟨hx, hb, hml, hown, hts0⟩ := hF0
  have hts : ∀ w ∈ si_tbl, w.before args s = true := fun w hw => hts0 w (List.mem_cons_of_mem _ hw)
  have hF : CallFix p m c zkX_firstRow 2 s args si_tbl zRX := ⟨hx, hb, hml, hown, hts⟩
  have hl : lv_has ls 2 [(0, .ref x0)] := hl
  have hn := hok.1
  refine lv_aload_n hx hb zdX_firstRow_0 rfl (lv_at hl 0 rfl) ?_
  refine (cX_hasLoaded_1 l g x0 xw xp xd xe xb xl xt lt lz sr (by omega)).callV (wr := [(lt, .inr (2, [.ref lta, .int (nI t.length)])), (lta, .inl (g.2.1, 60, .inl f)), (xp, .inr (2, [.ref xpa, .int (nI b.length)])), (xpa, .inl (g.2.1, 20, .inl f1)), (lz, .inr (4, [.ref lsr, .ref lsp, .int la])), (lsp, .inl (g.2.1, 61, .inl fp))]) (As := []) (rest := []) hF (si_cV 0 hts zcX_hasLoaded zlX_85 zimX_hasLoaded zseX_hasLoaded ziniX zhX_hasLoaded ⟨Nat.le_of_ble_eq_true rfl, Nat.le_of_ble_eq_true rfl⟩) hK hN hP hD hS hA [0, 1] [2, 3, 4, 5, 6, 7] rfl rfl (by decide) (by decide) (va_recv (q := (zRX, zTX, 7)) hK hP (ci := 5) (q0 := 0) rfl rfl) rfl hl.1 rfl (Nat.le_of_ble_eq_true rfl) zdX_firstRow_1 ⟨Nat.le_of_ble_eq_true rfl, Nat.le_of_ble_eq_true rfl⟩ rfl rfl (fun r_ _u H locs hq hP hD hS => ?_)
  subst hq
  have hP : va_P g.1 vwCl [(lt, .inr (2, [.ref lta, .int (nI t.length)])), (lta, .inl (g.2.1, 60, .inl f)), (xp, .inr (2, [.ref xpa, .int (nI b.length)])), (xpa, .inl (g.2.1, 20, .inl f1)), (lz, .inr (4, [.ref lsr, .ref lsp, .int la])), (lsp, .inl (g.2.1, 61, .inl fp)), (x0, .inr (5, [.ref xw, .ref xp, .ref xd, .ref xe, .ref xb, .ref xl, .ref xt])), (xl, .inr (3, [.ref lt, .ref lz, .int (nI sr)]))] H := hP
  have hD : va_D A [(lt, .inr (2, [.ref lta, .int (nI t.length)])), (lta, .inl (g.2.1, 60, .inl f)), (xp, .inr (2, [.ref xpa, .int (nI b.length)])), (xpa, .inl (g.2.1, 20, .inl f1)), (lz, .inr (4, [.ref lsr, .ref lsp, .int la])), (lsp, .inl (g.2.1, 61, .inl fp)), (x0, .inr (5, [.ref xw, .ref xp, .ref xd, .ref xe, .ref xb, .ref xl, .ref xt])), (xl, .inr (3, [.ref lt, .ref lz, .int (nI sr)]))] := hD
  refine si_if_ne (tgt := 9) hx hb zdX_firstRow_4 rfl (by decide) (fun h4 => ?_) (fun h4 => ?_)
  · refine lv_iconst (v := nI 0) hx hb zdX_firstRow_9 (by decide) ?_
    refine lv_istore_n (lv' := [(1, .int (nI 0)), (0, .ref x0)]) hx hb zdX_firstRow_10 rfl hl (Nat.le_of_ble_eq_true rfl) rfl (fun ls hl => ?_)
    have L11 : ∀ (N : Nat) (k : Nat) (H : Heap) (locs : List Loc) (ls : Array Slot), t.length + 1 - k < N → (k ≤ t.length + 1) → (∀ q, q < k → si_oc t b (si_pl t q) = false) → lv_has ls 2 [(0, .ref x0), (1, .int (nI k))] → va_P g.1 vwCl [(x0, .inr (5, [.ref xw, .ref xp, .ref xd, .ref xe, .ref xb, .ref xl, .ref xt])), (xl, .inr (3, [.ref lt, .ref lz, .int (nI sr)])), (lt, .inr (2, [.ref lta, .int (nI t.length)])), (lta, .inl (g.2.1, 60, .inl f)), (xp, .inr (2, [.ref xpa, .int (nI b.length)])), (xpa, .inl (g.2.1, 20, .inl f1)), (lz, .inr (4, [.ref lsr, .ref lsp, .int la])), (lsp, .inl (g.2.1, 61, .inl fp))] H → va_D A [(x0, .inr (5, [.ref xw, .ref xp, .ref xd, .ref xe, .ref xb, .ref xl, .ref xt])), (xl, .inr (3, [.ref lt, .ref lz, .int (nI sr)])), (lt, .inr (2, [.ref lta, .int (nI t.length)])), (lta, .inl (g.2.1, 60, .inl f)), (xp, .inr (2, [.ref xpa, .int (nI b.length)])), (xpa, .inl (g.2.1, 20, .inl f1)), (lz, .inr (4, [.ref lsr, .ref lsp, .int la])), (lsp, .inl (g.2.1, 61, .inl fp))] → va_S A s.heap H locs → W p l e ({ frames := 3, cells := 0, slots := 0, locals := 65 } : Room) s m args below meth c H locs 0 0 Q (F0 m 11 ls []) := by
      intro N
      induction N with
      | zero => intro k H locs ls hMs; exact absurd hMs (Nat.not_lt_zero _)
      | succ N ih11 =>
        intro k H locs ls hMs hk hno hl hP hD hS
        refine lv_iload_n hx hb zdX_firstRow_11 rfl (lv_at hl 1 rfl) ?_
        refine lv_aload_n hx hb zdX_firstRow_12 rfl (lv_at hl 0 rfl) ?_
        refine va_get (D := g.1) (ci := 5) (v := .ref xl) (C := zRX) (T := zTX) (N := 7) hx hb hts ziX hown hK hP 0 rfl rfl 5 (by decide) (hts _ zlX_41) (fun _ h => h) rfl zdX_firstRow_13 ?_
        refine va_getN (D := g.1) (ci := 3) (v := .ref lt) (C := zRR) (T := zTR) (N := 3) hx hb hts ziR hown hK hP 1 rfl rfl 0 (by decide) (va_Nw.use rfl (hN _ zlX_74)) (fun _ h => h) rfl zdX_firstRow_16 ?_
        refine va_getN (D := g.1) (ci := 2) (v := .int (nI t.length)) (C := zRL) (T := zTL) (N := 2) hx hb hts ziL hown hK hP 2 rfl rfl 1 (by decide) (va_Nw.use rfl (hN _ zlX_88)) (fun _ h => h) rfl zdX_firstRow_19 ?_
        refine si_icmp_gt (tgt := 52) hx hb zdX_firstRow_22 rfl (by omega) (by omega) (fun h22 => ?_) (fun h22 => ?_)
        · refine lv_iconst (v := -1) hx hb zdX_firstRow_52 (by decide) ?_
          exact hret (-1) () _ _ _ _ (rfl) (Or.inl ⟨rfl, fun z hz => by have := hno (si_rk t z) (by have := si_rk_le hz; omega); rwa [si_pl_rk hz] at this⟩) (hP.sub [0, 1, 2, 3, 4, 5, 6, 7] rfl) (hD.sub [0, 1, 2, 3, 4, 5, 6, 7] (by decide) rfl) hS zdX_firstRow_53
        · have hpk := (si_pl_ok (t := t) (r := k) (by omega)).1
          refine lv_aload_n hx hb zdX_firstRow_25 rfl (lv_at hl 0 rfl) ?_
          refine lv_aload_n hx hb zdX_firstRow_26 rfl (lv_at hl 0 rfl) ?_
          refine va_get (D := g.1) (ci := 5) (v := .ref xl) (C := zRX) (T := zTX) (N := 7) hx hb hts ziX hown hK hP 0 rfl rfl 5 (by decide) (hts _ zlX_41) (fun _ h => h) rfl zdX_firstRow_27 ?_
          refine va_getN (D := g.1) (ci := 3) (v := .ref lz) (C := zRR) (T := zTR) (N := 3) hx hb hts ziR hown hK hP 1 rfl rfl 1 (by decide) (va_Nw.use rfl (hN _ zlX_98)) (fun _ h => h) rfl zdX_firstRow_30 ?_
          refine va_getN (D := g.1) (ci := 4) (v := .ref lsp) (C := zRS) (T := zTS) (N := 3) hx hb hts ziS hown hK hP 6 rfl rfl 1 (by decide) (va_Nw.use rfl (hN _ zlX_108)) (fun _ h => h) rfl zdX_firstRow_33 ?_
          refine lv_iload_n hx hb zdX_firstRow_36 rfl (lv_at hl 1 rfl) ?_
          refine si_iald (v := nI (si_pl t k)) hx hb hK hP 7 0 rfl rfl (by decide) (by omega) (hsu k (by omega)) zdX_firstRow_37 ?_
          refine (cX_occursAt l g x0 xw xp xd xe xb xl xt lt lz lta xpa sr f f1 t b (si_pl t k) hs1 hs2 hok hf hb1 hf1 hval (hpk)).callV (wr := [(lz, .inr (4, [.ref lsr, .ref lsp, .int la])), (lsp, .inl (g.2.1, 61, .inl fp))]) (As := [.int (nI (si_pl t k))]) (rest := []) hF (si_cV 1 hts zcX_occursAt zlX_114 zimX_occursAt zseX_occursAt ziniX zhX_occursAt ⟨Nat.le_of_ble_eq_true rfl, Nat.le_of_ble_eq_true rfl⟩) hK hN hP hD hS hA [0, 1, 2, 3, 4, 5] [6, 7] rfl rfl (by decide) (by decide) (va_recv (q := (zRX, zTX, 7)) hK hP (ci := 5) (q0 := 0) rfl rfl) rfl hl.1 rfl (Nat.le_of_ble_eq_true rfl) zdX_firstRow_38 ⟨Nat.le_of_ble_eq_true rfl, Nat.le_of_ble_eq_true rfl⟩ rfl rfl (fun r_ _u H locs hq hP hD hS => ?_)
          subst hq
          have hP : va_P g.1 vwCl [(lz, .inr (4, [.ref lsr, .ref lsp, .int la])), (lsp, .inl (g.2.1, 61, .inl fp)), (x0, .inr (5, [.ref xw, .ref xp, .ref xd, .ref xe, .ref xb, .ref xl, .ref xt])), (xl, .inr (3, [.ref lt, .ref lz, .int (nI sr)])), (lt, .inr (2, [.ref lta, .int (nI t.length)])), (lta, .inl (g.2.1, 60, .inl f)), (xp, .inr (2, [.ref xpa, .int (nI b.length)])), (xpa, .inl (g.2.1, 20, .inl f1))] H := hP
          have hD : va_D A [(lz, .inr (4, [.ref lsr, .ref lsp, .int la])), (lsp, .inl (g.2.1, 61, .inl fp)), (x0, .inr (5, [.ref xw, .ref xp, .ref xd, .ref xe, .ref xb, .ref xl, .ref xt])), (xl, .inr (3, [.ref lt, .ref lz, .int (nI sr)])), (lt, .inr (2, [.ref lta, .int (nI t.length)])), (lta, .inl (g.2.1, 60, .inl f)), (xp, .inr (2, [.ref xpa, .int (nI b.length)])), (xpa, .inl (g.2.1, 20, .inl f1))] := hD
          refine si_if_eq (tgt := 46) hx hb zdX_firstRow_41 rfl (si_bn _) (fun h41 => ?_) (fun h41 => ?_)
          · refine lv_iinc (k := 1) (v := nI (k + 1)) (lv' := [(1, .int (nI (k + 1))), (0, .ref x0)]) hx hb zdX_firstRow_46 hl rfl (si_inc _) (Nat.le_of_ble_eq_true rfl) rfl (fun ls hl => ?_)
            refine lv_goto (tgt := 11) hx hb zdX_firstRow_49 rfl ?_
            exact ih11 (k + 1) _ _ _ (by omega) (by omega) (lt_s hno (si_b0 h41)) (lv_sub hl [1, 0] rfl) (hP.sub [2, 3, 4, 5, 6, 7, 0, 1] rfl) (hD.sub [2, 3, 4, 5, 6, 7, 0, 1] (by decide) rfl) hS
          · refine lv_iload_n hx hb zdX_firstRow_44 rfl (lv_at hl 1 rfl) ?_
            exact hret (nI k) () _ _ _ _ (rfl) (Or.inr ⟨k, by omega, rfl, si_b1 h41, hno⟩) (hP.sub [2, 3, 4, 5, 6, 7, 0, 1] rfl) (hD.sub [2, 3, 4, 5, 6, 7, 0, 1] (by decide) rfl) hS zdX_firstRow_45
    exact L11 (t.length + 1 - 0 + 1) 0 _ _ _ (by omega) (by omega) (fun x hx => absurd hx (Nat.not_lt_zero _)) (lv_sub hl [1, 0] rfl) (hP.sub [6, 7, 0, 1, 2, 3, 4, 5] rfl) (hD.sub [6, 7, 0, 1, 2, 3, 4, 5] (by decide) rfl) hS
  · exact absurd h4 (by decide)

set_option maxHeartbeats 4000000 in
set_option maxRecDepth 100000 in
theorem cX_locate_1 (l : Launch) (g : si_G) (x0 xw xp xd xe xb xl xt : Nat) (lt lz : Nat) (lta xpa sr : Nat) (f f1 : Nat → Int32) (t b : List Nat) (q : Int32) (hs1 : 1 ≤ sr) (hs2 : sr ≤ 16) (hok : si_ok t) (hf : si_ln t f) (hb1 : b.length ≤ 20) (hf1 : si_ln b f1) (hval : ∀ z ∈ b, 32 ≤ z ∧ z ≤ 126) : si_Mi (S := Unit) l g vwCl zyX_locate zwX_locate ({ frames := 3, cells := 0, slots := 0, locals := 65 } : Room) [.ref x0, .int q] [(x0, .inr (5, [.ref xw, .ref xp, .ref xd, .ref xe, .ref xb, .ref xl, .ref xt])), (xl, .inr (3, [.ref lt, .ref lz, .int (nI sr)])), (lt, .inr (2, [.ref lta, .int (nI t.length)])), (lta, .inl (g.2.1, 60, .inl f)), (xp, .inr (2, [.ref xpa, .int (nI b.length)])), (xpa, .inl (g.2.1, 20, .inl f1))] (fun r u => si_lcR t b q r) (fun u => [(x0, .inr (5, [.ref xw, .ref xp, .ref xd, .ref xe, .ref xb, .ref xl, .ref xt])), (xl, .inr (3, [.ref lt, .ref lz, .int (nI sr)])), (lt, .inr (2, [.ref lta, .int (nI t.length)])), (lta, .inl (g.2.1, 60, .inl f)), (xp, .inr (2, [.ref xpa, .int (nI b.length)])), (xpa, .inl (g.2.1, 20, .inl f1))]) := by
  refine si_Mi.of (cc := zkX_locate) (maxL := 4) (by decide) rfl (Nat.le_of_ble_eq_true rfl) ?_
  intro p e s m args below meth c A Q ls hF0 hin hK hN hP hD hA hS hl hret
  obtain ⟨hx, hb, hml, hown, hts0⟩ := hF0
  have hts : ∀ w ∈ si_tbl, w.before args s = true := fun w hw => hts0 w (List.mem_cons_of_mem _ hw)
  have hF : CallFix p m c zkX_locate 4 s args si_tbl zRX := ⟨hx, hb, hml, hown, hts⟩
  have hl : lv_has ls 4 [(0, .ref x0), (1, .int q)] := hl
  have hn := hok.1
  refine lv_aload_n hx hb zdX_locate_0 rfl (lv_at hl 0 rfl) ?_
  refine (cX_hasLoaded_1 l g x0 xw xp xd xe xb xl xt lt lz sr (by omega)).callV (wr := [(lt, .inr (2, [.ref lta, .int (nI t.length)])), (lta, .inl (g.2.1, 60, .inl f)), (xp, .inr (2, [.ref xpa, .int (nI b.length)])), (xpa, .inl (g.2.1, 20, .inl f1))]) (As := []) (rest := []) hF (si_cV 0 hts zcX_hasLoaded zlX_85 zimX_hasLoaded zseX_hasLoaded ziniX zhX_hasLoaded ⟨Nat.le_of_ble_eq_true rfl, Nat.le_of_ble_eq_true rfl⟩) hK hN hP hD hS hA [0, 1] [2, 3, 4, 5] rfl rfl (by decide) (by decide) (va_recv (q := (zRX, zTX, 7)) hK hP (ci := 5) (q0 := 0) rfl rfl) rfl hl.1 rfl (Nat.le_of_ble_eq_true rfl) zdX_locate_1 ⟨Nat.le_of_ble_eq_true rfl, Nat.le_of_ble_eq_true rfl⟩ rfl rfl (fun r_ _u H locs hq hP hD hS => ?_)
  subst hq
  have hP : va_P g.1 vwCl [(lt, .inr (2, [.ref lta, .int (nI t.length)])), (lta, .inl (g.2.1, 60, .inl f)), (xp, .inr (2, [.ref xpa, .int (nI b.length)])), (xpa, .inl (g.2.1, 20, .inl f1)), (x0, .inr (5, [.ref xw, .ref xp, .ref xd, .ref xe, .ref xb, .ref xl, .ref xt])), (xl, .inr (3, [.ref lt, .ref lz, .int (nI sr)]))] H := hP
  have hD : va_D A [(lt, .inr (2, [.ref lta, .int (nI t.length)])), (lta, .inl (g.2.1, 60, .inl f)), (xp, .inr (2, [.ref xpa, .int (nI b.length)])), (xpa, .inl (g.2.1, 20, .inl f1)), (x0, .inr (5, [.ref xw, .ref xp, .ref xd, .ref xe, .ref xb, .ref xl, .ref xt])), (xl, .inr (3, [.ref lt, .ref lz, .int (nI sr)]))] := hD
  refine si_if_eq (tgt := 11) hx hb zdX_locate_4 rfl (by decide) (fun h4 => ?_) (fun h4 => ?_)
  · exact absurd h4 (by decide)
  · refine lv_iload_n hx hb zdX_locate_7 rfl (lv_at hl 1 rfl) ?_
    refine lv_if_ge (tgt := 13) hx hb zdX_locate_8 rfl (fun h8 => ?_) (fun h8 => ?_)
    · obtain ⟨j, hj, rfl⟩ := nI_of (si_ge0 h8)
      refine lv_iconst (v := nI 0) hx hb zdX_locate_13 (by decide) ?_
      refine lv_istore_n (lv' := [(2, .int (nI 0)), (0, .ref x0), (1, .int (nI j))]) hx hb zdX_locate_14 rfl hl (Nat.le_of_ble_eq_true rfl) rfl (fun ls hl => ?_)
      refine lv_iconst (v := nI 0) hx hb zdX_locate_15 (by decide) ?_
      refine lv_istore_n (lv' := [(3, .int (nI 0)), (2, .int (nI 0)), (0, .ref x0), (1, .int (nI j))]) hx hb zdX_locate_16 rfl hl (Nat.le_of_ble_eq_true rfl) rfl (fun ls hl => ?_)
      have L17 : ∀ (N : Nat) (k : Nat) (fo : Nat) (H : Heap) (locs : List Loc) (ls : Array Slot), t.length + 1 - k < N → (k ≤ t.length + 1) → (fo = si_cn k (si_oc t b)) → (fo ≤ j) → lv_has ls 4 [(0, .ref x0), (1, .int (nI j)), (2, .int (nI fo)), (3, .int (nI k))] → va_P g.1 vwCl [(x0, .inr (5, [.ref xw, .ref xp, .ref xd, .ref xe, .ref xb, .ref xl, .ref xt])), (xl, .inr (3, [.ref lt, .ref lz, .int (nI sr)])), (lt, .inr (2, [.ref lta, .int (nI t.length)])), (lta, .inl (g.2.1, 60, .inl f)), (xp, .inr (2, [.ref xpa, .int (nI b.length)])), (xpa, .inl (g.2.1, 20, .inl f1))] H → va_D A [(x0, .inr (5, [.ref xw, .ref xp, .ref xd, .ref xe, .ref xb, .ref xl, .ref xt])), (xl, .inr (3, [.ref lt, .ref lz, .int (nI sr)])), (lt, .inr (2, [.ref lta, .int (nI t.length)])), (lta, .inl (g.2.1, 60, .inl f)), (xp, .inr (2, [.ref xpa, .int (nI b.length)])), (xpa, .inl (g.2.1, 20, .inl f1))] → va_S A s.heap H locs → W p l e ({ frames := 3, cells := 0, slots := 0, locals := 65 } : Room) s m args below meth c H locs 0 0 Q (F0 m 17 ls []) := by
        intro N
        induction N with
        | zero => intro k fo H locs ls hMs; exact absurd hMs (Nat.not_lt_zero _)
        | succ N ih17 =>
          intro k fo H locs ls hMs hk hfo hfj hl hP hD hS
          refine lv_iload_n hx hb zdX_locate_17 rfl (lv_at hl 3 rfl) ?_
          refine lv_aload_n hx hb zdX_locate_18 rfl (lv_at hl 0 rfl) ?_
          refine va_get (D := g.1) (ci := 5) (v := .ref xl) (C := zRX) (T := zTX) (N := 7) hx hb hts ziX hown hK hP 0 rfl rfl 5 (by decide) (hts _ zlX_41) (fun _ h => h) rfl zdX_locate_19 ?_
          refine va_getN (D := g.1) (ci := 3) (v := .ref lt) (C := zRR) (T := zTR) (N := 3) hx hb hts ziR hown hK hP 1 rfl rfl 0 (by decide) (va_Nw.use rfl (hN _ zlX_74)) (fun _ h => h) rfl zdX_locate_22 ?_
          refine va_getN (D := g.1) (ci := 2) (v := .int (nI t.length)) (C := zRL) (T := zTL) (N := 2) hx hb hts ziL hown hK hP 2 rfl rfl 1 (by decide) (va_Nw.use rfl (hN _ zlX_88)) (fun _ h => h) rfl zdX_locate_25 ?_
          refine si_icmp_gt (tgt := 55) hx hb zdX_locate_28 rfl (by omega) (by omega) (fun h28 => ?_) (fun h28 => ?_)
          · refine lv_iconst (v := -1) hx hb zdX_locate_55 (by decide) ?_
            exact hret (-1) () _ _ _ _ (rfl) (Or.inr ⟨j, hj, rfl, Or.inl ⟨rfl, by rw [show t.length + 1 = k by omega, ← hfo]; exact hfj⟩⟩) (hP.sub [0, 1, 2, 3, 4, 5] rfl) (hD.sub [0, 1, 2, 3, 4, 5] (by decide) rfl) hS zdX_locate_56
          · have hfl : fo ≤ k := by rw [hfo]; exact si_cn_le _ _
            refine lv_aload_n hx hb zdX_locate_31 rfl (lv_at hl 0 rfl) ?_
            refine lv_iload_n hx hb zdX_locate_32 rfl (lv_at hl 3 rfl) ?_
            refine (cX_occursAt l g x0 xw xp xd xe xb xl xt lt lz lta xpa sr f f1 t b k hs1 hs2 hok hf hb1 hf1 hval (by omega)).callV (wr := []) (As := [.int (nI k)]) (rest := []) hF (si_cV 1 hts zcX_occursAt zlX_114 zimX_occursAt zseX_occursAt ziniX zhX_occursAt ⟨Nat.le_of_ble_eq_true rfl, Nat.le_of_ble_eq_true rfl⟩) hK hN hP hD hS hA [0, 1, 2, 3, 4, 5] [] rfl rfl (by decide) (by decide) (va_recv (q := (zRX, zTX, 7)) hK hP (ci := 5) (q0 := 0) rfl rfl) rfl hl.1 rfl (Nat.le_of_ble_eq_true rfl) zdX_locate_33 ⟨Nat.le_of_ble_eq_true rfl, Nat.le_of_ble_eq_true rfl⟩ rfl rfl (fun r_ _u H locs hq hP hD hS => ?_)
            subst hq
            have hP : va_P g.1 vwCl [(x0, .inr (5, [.ref xw, .ref xp, .ref xd, .ref xe, .ref xb, .ref xl, .ref xt])), (xl, .inr (3, [.ref lt, .ref lz, .int (nI sr)])), (lt, .inr (2, [.ref lta, .int (nI t.length)])), (lta, .inl (g.2.1, 60, .inl f)), (xp, .inr (2, [.ref xpa, .int (nI b.length)])), (xpa, .inl (g.2.1, 20, .inl f1))] H := hP
            have hD : va_D A [(x0, .inr (5, [.ref xw, .ref xp, .ref xd, .ref xe, .ref xb, .ref xl, .ref xt])), (xl, .inr (3, [.ref lt, .ref lz, .int (nI sr)])), (lt, .inr (2, [.ref lta, .int (nI t.length)])), (lta, .inl (g.2.1, 60, .inl f)), (xp, .inr (2, [.ref xpa, .int (nI b.length)])), (xpa, .inl (g.2.1, 20, .inl f1))] := hD
            refine si_if_eq (tgt := 49) hx hb zdX_locate_36 rfl (si_bn _) (fun h36 => ?_) (fun h36 => ?_)
            · refine lv_iinc (k := 3) (v := nI (k + 1)) (lv' := [(3, .int (nI (k + 1))), (0, .ref x0), (1, .int (nI j)), (2, .int (nI fo))]) hx hb zdX_locate_49 hl rfl (si_inc _) (Nat.le_of_ble_eq_true rfl) rfl (fun ls hl => ?_)
              refine lv_goto (tgt := 17) hx hb zdX_locate_52 rfl ?_
              exact ih17 (k + 1) fo _ _ _ (by omega) (by omega) (by first | (rw [si_cn_t (si_b1 h36), hfo]; done) | (rw [si_cn_f (si_b0 h36), hfo]; done)) (by omega) (lv_sub hl [1, 2, 3, 0] rfl) (hP.sub [0, 1, 2, 3, 4, 5] rfl) (hD.sub [0, 1, 2, 3, 4, 5] (by decide) rfl) hS
            · refine lv_iload_n hx hb zdX_locate_39 rfl (lv_at hl 2 rfl) ?_
              refine lv_iload_n hx hb zdX_locate_40 rfl (lv_at hl 1 rfl) ?_
              refine si_icmp_ne (tgt := 46) hx hb zdX_locate_41 rfl (by omega) (by omega) (fun h41 => ?_) (fun h41 => ?_)
              · refine lv_iinc (k := 2) (v := nI (fo + 1)) (lv' := [(2, .int (nI (fo + 1))), (0, .ref x0), (1, .int (nI j)), (3, .int (nI k))]) hx hb zdX_locate_46 hl rfl (si_inc _) (Nat.le_of_ble_eq_true rfl) rfl (fun ls hl => ?_)
                refine lv_iinc (k := 3) (v := nI (k + 1)) (lv' := [(3, .int (nI (k + 1))), (2, .int (nI (fo + 1))), (0, .ref x0), (1, .int (nI j))]) hx hb zdX_locate_49 hl rfl (si_inc _) (Nat.le_of_ble_eq_true rfl) rfl (fun ls hl => ?_)
                refine lv_goto (tgt := 17) hx hb zdX_locate_52 rfl ?_
                exact ih17 (k + 1) (fo + 1) _ _ _ (by omega) (by omega) (by first | (rw [si_cn_t (si_b1 h36), hfo]; done) | (rw [si_cn_f (si_b0 h36), hfo]; done)) (by omega) (lv_sub hl [2, 3, 1, 0] rfl) (hP.sub [0, 1, 2, 3, 4, 5] rfl) (hD.sub [0, 1, 2, 3, 4, 5] (by decide) rfl) hS
              · refine lv_iload_n hx hb zdX_locate_44 rfl (lv_at hl 3 rfl) ?_
                exact hret (nI k) () _ _ _ _ (rfl) (Or.inr ⟨j, hj, rfl, Or.inr ⟨k, by omega, rfl, si_b1 h36, by rw [← hfo]; exact h41⟩⟩) (hP.sub [0, 1, 2, 3, 4, 5] rfl) (hD.sub [0, 1, 2, 3, 4, 5] (by decide) rfl) hS zdX_locate_45
      exact L17 (t.length + 1 - 0 + 1) 0 0 _ _ _ (by omega) (by omega) (rfl) (by omega) (lv_sub hl [2, 3, 1, 0] rfl) (hP.sub [4, 5, 0, 1, 2, 3] rfl) (hD.sub [4, 5, 0, 1, 2, 3] (by decide) rfl) hS
    · refine lv_iconst (v := -1) hx hb zdX_locate_11 (by decide) ?_
      exact hret (-1) () _ _ _ _ (rfl) (Or.inl ⟨Int32.not_le.mp h8, rfl⟩) (hP.sub [4, 5, 0, 1, 2, 3] rfl) (hD.sub [4, 5, 0, 1, 2, 3] (by decide) rfl) hS zdX_locate_12

