/-! The whole objects: what they hold, and the public methods over them. Written by wip/draft/p28.py -/
theorem si_Mi.lift {S S' : Type} {l : Launch} {g : si_G} {cl : List vw_C} {y : MethodName} {w : List Cond} {rm : Room} {av : List Value} {wc ws wr : va_W} {post : Int32 → S → Prop} {post' : Int32 → S' → Prop} {w1 : S → va_W} {w1' : S' → va_W} (h : si_Mi l g cl y w rm av wc post w1) (isC isR : List Nat) (hC : isC.map (fun i => ws[i]?) = wc.map some) (hR : isR.map (fun i => ws[i]?) = wr.map some) (hnd : (va_nd isC && va_nd isR) = true) (hdis : ∀ i ∈ isR, i ∉ isC)
    (hq : ∀ (r : Int32) (u : S), post r u → ∃ u', post' r u' ∧ ∀ (H : Heap) (A : Nat → Prop), va_P g.1 cl (wr ++ w1 u) H → va_D A (wr ++ w1 u) → va_P g.1 cl (w1' u') H ∧ va_D A (w1' u')) : si_Mi l g cl y w rm av ws post' w1' := by
  rw [Bool.and_eq_true] at hnd
  have hsub : ∀ q sz, va_A wc sz q → va_A ws sz q := by
    intro q sz hh
    rcases hh with ⟨j, e, hh⟩ | hh
    · have h1 : (isC.map (fun i => ws[i]?))[j]? = some (some (q, e)) := by rw [hC, List.getElem?_map, hh]; rfl
      rw [List.getElem?_map] at h1
      cases hi : isC[j]? with
      | none => rw [hi] at h1; cases h1
      | some i => rw [hi] at h1; exact Or.inl ⟨i, e, Option.some.inj h1⟩
    · exact Or.inr hh
  intro sz
  refine Jvm.Free.MetFree.mono (h sz) (fun a s hp => ?_) (fun _ _ _ _ _ hk => hk) (fun a s o t hp hQ => ?_)
  · obtain ⟨q0, q1, qP, qK, qD, qN⟩ := hp
    exact ⟨q0, q1, si_Psub qP isC hC, qK, qD.sub isC hnd.1 hC, qN⟩
  · obtain ⟨q0, q1, qP, qK, qD, qN⟩ := hp
    obtain ⟨⟨⟨r, u, e0, hpo, hB⟩, hF⟩, L, hL, hfr⟩ := hQ
    obtain ⟨hP1, hK1, hD1⟩ := hB
    subst q1
    obtain ⟨hP2, hD2⟩ := va_join (w1 := w1 u) qP (qD.self (sz := s.heap.size)) isC isR hC hR hnd.2 hdis hF.2 (fun q hh => hsub q _ hh) hP1 hD1
    obtain ⟨u', hp, hback⟩ := hq r u hpo
    obtain ⟨hP3, hD3⟩ := hback _ _ hP2 hD2
    exact ⟨⟨⟨r, u', e0, hp, hP3, hK1, hD3⟩, hF.1, fun q h1 h2 => hF.2 q h1 (fun hh => h2 (hsub q _ hh))⟩, L, hL, fun q hq9 => hsub _ _ (hfr q hq9)⟩
theorem si_Ml.lift {S S' : Type} {l : Launch} {g : si_G} {cl : List vw_C} {y : MethodName} {w : List Cond} {rm : Room} {av : List Value} {wc ws wr : va_W} {post : Int64 → S → Prop} {post' : Int64 → S' → Prop} {w1 : S → va_W} {w1' : S' → va_W} (h : si_Ml l g cl y w rm av wc post w1) (isC isR : List Nat) (hC : isC.map (fun i => ws[i]?) = wc.map some) (hR : isR.map (fun i => ws[i]?) = wr.map some) (hnd : (va_nd isC && va_nd isR) = true) (hdis : ∀ i ∈ isR, i ∉ isC)
    (hq : ∀ (r : Int64) (u : S), post r u → ∃ u', post' r u' ∧ ∀ (H : Heap) (A : Nat → Prop), va_P g.1 cl (wr ++ w1 u) H → va_D A (wr ++ w1 u) → va_P g.1 cl (w1' u') H ∧ va_D A (w1' u')) : si_Ml l g cl y w rm av ws post' w1' := by
  rw [Bool.and_eq_true] at hnd
  have hsub : ∀ q sz, va_A wc sz q → va_A ws sz q := by
    intro q sz hh
    rcases hh with ⟨j, e, hh⟩ | hh
    · have h1 : (isC.map (fun i => ws[i]?))[j]? = some (some (q, e)) := by rw [hC, List.getElem?_map, hh]; rfl
      rw [List.getElem?_map] at h1
      cases hi : isC[j]? with
      | none => rw [hi] at h1; cases h1
      | some i => rw [hi] at h1; exact Or.inl ⟨i, e, Option.some.inj h1⟩
    · exact Or.inr hh
  intro sz
  refine Jvm.Free.MetFree.mono (h sz) (fun a s hp => ?_) (fun _ _ _ _ _ hk => hk) (fun a s o t hp hQ => ?_)
  · obtain ⟨q0, q1, qP, qK, qD, qN⟩ := hp
    exact ⟨q0, q1, si_Psub qP isC hC, qK, qD.sub isC hnd.1 hC, qN⟩
  · obtain ⟨q0, q1, qP, qK, qD, qN⟩ := hp
    obtain ⟨⟨⟨r, u, e0, hpo, hB⟩, hF⟩, L, hL, hfr⟩ := hQ
    obtain ⟨hP1, hK1, hD1⟩ := hB
    subst q1
    obtain ⟨hP2, hD2⟩ := va_join (w1 := w1 u) qP (qD.self (sz := s.heap.size)) isC isR hC hR hnd.2 hdis hF.2 (fun q hh => hsub q _ hh) hP1 hD1
    obtain ⟨u', hp, hback⟩ := hq r u hpo
    obtain ⟨hP3, hD3⟩ := hback _ _ hP2 hD2
    exact ⟨⟨⟨r, u', e0, hp, hP3, hK1, hD3⟩, hF.1, fun q h1 h2 => hF.2 q h1 (fun hh => h2 (hsub q _ hh))⟩, L, hL, fun q hq9 => hsub _ _ (hfr q hq9)⟩
theorem si_Mv.lift {S S' : Type} {l : Launch} {g : si_G} {cl : List vw_C} {y : MethodName} {w : List Cond} {rm : Room} {av : List Value} {wc ws wr : va_W} {post : S → Prop} {post' : S' → Prop} {w1 : S → va_W} {w1' : S' → va_W} (h : si_Mv l g cl y w rm av wc post w1) (isC isR : List Nat) (hC : isC.map (fun i => ws[i]?) = wc.map some) (hR : isR.map (fun i => ws[i]?) = wr.map some) (hnd : (va_nd isC && va_nd isR) = true) (hdis : ∀ i ∈ isR, i ∉ isC)
    (hq : ∀ (u : S), post u → ∃ u', post' u' ∧ ∀ (H : Heap) (A : Nat → Prop), va_P g.1 cl (wr ++ w1 u) H → va_D A (wr ++ w1 u) → va_P g.1 cl (w1' u') H ∧ va_D A (w1' u')) : si_Mv l g cl y w rm av ws post' w1' := by
  rw [Bool.and_eq_true] at hnd
  have hsub : ∀ q sz, va_A wc sz q → va_A ws sz q := by
    intro q sz hh
    rcases hh with ⟨j, e, hh⟩ | hh
    · have h1 : (isC.map (fun i => ws[i]?))[j]? = some (some (q, e)) := by rw [hC, List.getElem?_map, hh]; rfl
      rw [List.getElem?_map] at h1
      cases hi : isC[j]? with
      | none => rw [hi] at h1; cases h1
      | some i => rw [hi] at h1; exact Or.inl ⟨i, e, Option.some.inj h1⟩
    · exact Or.inr hh
  intro sz
  refine Jvm.Free.MetFree.mono (h sz) (fun a s hp => ?_) (fun _ _ _ _ _ hk => hk) (fun a s o t hp hQ => ?_)
  · obtain ⟨q0, q1, qP, qK, qD, qN⟩ := hp
    exact ⟨q0, q1, si_Psub qP isC hC, qK, qD.sub isC hnd.1 hC, qN⟩
  · obtain ⟨q0, q1, qP, qK, qD, qN⟩ := hp
    obtain ⟨⟨⟨u, e0, hpo, hB⟩, hF⟩, L, hL, hfr⟩ := hQ
    obtain ⟨hP1, hK1, hD1⟩ := hB
    subst q1
    obtain ⟨hP2, hD2⟩ := va_join (w1 := w1 u) qP (qD.self (sz := s.heap.size)) isC isR hC hR hnd.2 hdis hF.2 (fun q hh => hsub q _ hh) hP1 hD1
    obtain ⟨u', hp, hback⟩ := hq u hpo
    obtain ⟨hP3, hD3⟩ := hback _ _ hP2 hD2
    exact ⟨⟨⟨u', e0, hp, hP3, hK1, hD3⟩, hF.1, fun q h1 h2 => hF.2 q h1 (fun hh => h2 (hsub q _ hh))⟩, L, hL, fun q hq9 => hsub _ _ (hfr q hq9)⟩
/-- what the document's object holds: what is written, the pattern, the desk, the loaded text and its rate -/
abbrev si_AB : Type := List Nat × List Nat × (Nat → Int64) × Option (List Nat × Nat)
def st_write (ab : si_AB) (k : Nat) (r : Int32) (ab' : si_AB) : Prop := r = nI (decide (si_ch (nI k) ∧ ab.1.length < 60)).toNat ∧ ab' = if decide (si_ch (nI k) ∧ ab.1.length < 60) = true then (ab.1 ++ [k], ab.2) else ab
def st_erase (ab ab' : si_AB) : Prop := ab' = ([], ab.2)
def st_ask (ab : si_AB) (k : Nat) (r : Int32) (ab' : si_AB) : Prop := r = nI (decide (si_ch (nI k) ∧ ab.2.1.length < 20)).toNat ∧ ab' = if decide (si_ch (nI k) ∧ ab.2.1.length < 20) = true then (ab.1, ab.2.1 ++ [k], ab.2.2) else ab
def st_back (ab : si_AB) (r : Int32) (ab' : si_AB) : Prop := (r = nI 1 ∧ ab.2.1.length ≠ 0 ∧ ab' = (ab.1, ab.2.1.take (ab.2.1.length - 1), ab.2.2)) ∨ (r = nI 0 ∧ ab.2.1.length = 0 ∧ ab' = ab)
def st_build (ab : si_AB) (q r : Int32) (ab' : si_AB) : Prop := r = nI (si_isR q.toInt64).toNat ∧ ab' = if si_isR q.toInt64 = true then (ab.1, ab.2.1, si_im ab.1 q.toNatClampNeg, ab.2.2.2) else ab
def st_word (ab : si_AB) (q : Int32) (r : Int64) (ab' : si_AB) : Prop := r = si_wq q ab.2.2.1 ∧ ab' = ab
def st_put (ab : si_AB) (q : Int32) (x : Int64) (r : Int32) (ab' : si_AB) : Prop := r = nI (si_isW q).toNat ∧ ab' = if si_isW q = true then (ab.1, ab.2.1, vp_updL ab.2.2.1 q.toNatClampNeg x, ab.2.2.2) else ab
def st_flip (ab : si_AB) (q q2 : Int32) (r : Int32) (ab' : si_AB) : Prop := r = nI (si_isW q && si_isB q2).toNat ∧ ab' = if (si_isW q && si_isB q2) = true then (ab.1, ab.2.1, vp_updL ab.2.2.1 q.toNatClampNeg (ab.2.2.1 q.toNatClampNeg ^^^ ((1 : Int64) <<< (q2.toInt64 &&& 63))), ab.2.2.2) else ab
def st_load (ab : si_AB) (r : Int32) (ab' : si_AB) : Prop := (r = nI 1 ∧ ∃ t sr, si_is ab.2.2.1 t sr ∧ ab' = (ab.1, ab.2.1, ab.2.2.1, some (t, sr))) ∨ (r = nI 0 ∧ (∀ v k, ¬ si_is ab.2.2.1 v k) ∧ ab' = ab)
def st_length (ab : si_AB) (r : Int32) (ab' : si_AB) : Prop := (match ab.2.2.2 with | none => r = -1 | some x => r = nI x.1.length) ∧ ab' = ab
def st_rate (ab : si_AB) (r : Int32) (ab' : si_AB) : Prop := (match ab.2.2.2 with | none => r = -1 | some x => r = nI x.2) ∧ ab' = ab
def st_charAt (ab : si_AB) (q r : Int32) (ab' : si_AB) : Prop := (match ab.2.2.2 with | none => r = -1 | some x => r = si_q x.1.length q (fun j => nI (si_g x.1 j))) ∧ ab' = ab
def st_rowOf (ab : si_AB) (q r : Int32) (ab' : si_AB) : Prop := (match ab.2.2.2 with | none => r = -1 | some x => r = si_q x.1.length q (fun j => nI (si_rk x.1 j))) ∧ ab' = ab
def st_placeOf (ab : si_AB) (q r : Int32) (ab' : si_AB) : Prop := (match ab.2.2.2 with | none => r = -1 | some x => r = si_q x.1.length q (fun j => nI (si_pl x.1 j))) ∧ ab' = ab
def st_count (ab : si_AB) (r : Int32) (ab' : si_AB) : Prop := (match ab.2.2.2 with | none => r = -1 | some x => r = nI (si_cn (x.1.length + 1) (si_oc x.1 ab.2.1))) ∧ ab' = ab
def st_firstRow (ab : si_AB) (r : Int32) (ab' : si_AB) : Prop := (match ab.2.2.2 with | none => r = -1 | some x => si_fr x.1 ab.2.1 r) ∧ ab' = ab
def st_locate (ab : si_AB) (q r : Int32) (ab' : si_AB) : Prop := (match ab.2.2.2 with | none => r = -1 | some x => si_lcR x.1 ab.2.1 q r) ∧ ab' = ab
def st_variety (ab : si_AB) (r : Int32) (ab' : si_AB) : Prop := (match ab.2.2.2 with | none => r = -1 | some x => r = nI (si_va x.1 ab.2.1)) ∧ ab' = ab
theorem si_is_congr {f d : Nat → Int64} (h : ∀ k, k < 23 → f k = d k) {t : List Nat} {sr : Nat} : si_is f t sr ↔ si_is d t sr :=
  ⟨fun z => ⟨z.1, z.2.1, z.2.2.1, fun k hk => by rw [← h k hk]; exact z.2.2.2 k hk⟩, fun z => ⟨z.1, z.2.1, z.2.2.1, fun k hk => by rw [h k hk]; exact z.2.2.2 k hk⟩⟩
theorem si_wq_congr {f d : Nat → Int64} (h : ∀ k, k < 23 → f k = d k) (q : Int32) : si_wq q f = si_wq q d := by
  cases e : si_isW q with
  | false => rw [si_wq_f e, si_wq_f e]
  | true =>
    obtain ⟨j, hj, rfl⟩ := si_isW_t e
    rw [si_wq_t e hj, si_wq_t e hj, h j hj]
theorem si_upd_congr {f d : Nat → Int64} (h : ∀ k, k < 23 → f k = d k) (j : Nat) (x : Int64) : ∀ k, k < 23 → vp_updL f j x k = vp_updL d j x k := by
  intro k hk
  by_cases e : k = j
  · subst e; rw [pk_uLs, pk_uLs]
  · rw [pk_uLn e, pk_uLn e, h k hk]
/-- a pattern -/
def si_okp (b : List Nat) : Prop := b.length ≤ 20 ∧ ∀ z ∈ b, 32 ≤ z ∧ z ≤ 126
theorem si_okp_app {b : List Nat} {k : Nat} (h : si_okp b) (hl : b.length < 20) (hk : 32 ≤ k ∧ k ≤ 126) : si_okp (b ++ [k]) := by
  refine ⟨by simp; omega, fun c hc => ?_⟩
  rcases List.mem_append.mp hc with q | q
  · exact h.2 c q
  · rw [List.mem_singleton.mp q]; exact hk
theorem si_okp_take {b : List Nat} (n : Nat) (h : si_okp b) : si_okp (b.take n) := ⟨by have := h.1; rw [List.length_take]; omega, fun c hc => h.2 c (List.mem_of_mem_take hc)⟩
theorem si_ln_take {b : List Nat} {f : Nat → Int32} (n : Nat) (h : si_ln b f) : si_ln (b.take n) f := by
  intro i hi
  rw [List.length_take] at hi
  rw [h i (by omega)]
  unfold si_g
  congr 1
  simp [List.getElem?_take, show i < n by omega]
theorem si_okt_app {b : List Nat} {k : Nat} (h : si_ok b) (hl : b.length < 60) (hk : 32 ≤ k ∧ k ≤ 126) : si_ok (b ++ [k]) := si_ok_app h hl hk
def si_LDx (o : Option (List Nat × Nat)) (lr : Int32) (lsz : Nat) (lf lfr lfp : Nat → Int32) : Prop := match o with
  | none => lr = -1
  | some x => si_ok x.1 ∧ 1 ≤ x.2 ∧ x.2 ≤ 16 ∧ lr = nI x.2 ∧ lsz = x.1.length ∧ si_ln x.1 lf ∧ si_su x.1 lfr lfp
/-- the cells ws are an object of the class, at x0, that holds ab -/
def si_XR (g : si_G) (x0 : Nat) (ab : si_AB) (ws : va_W) : Prop := ∃ (xw xwa xp xpa xd xda xe xea xb b1 b2 b3 b4 xl lt lta lz lsr lsp xt tt tta tz tsr tsp s1 s2 lsz tsz : Nat) (f1 f2 fc fo fn ff lf lfr lfp tf tfr tfp : Nat → Int32) (fw fe : Nat → Int64) (ba lr la tr ta : Int32), ws = [(x0, .inr (5, [.ref xw, .ref xp, .ref xd, .ref xe, .ref xb, .ref xl, .ref xt])), (xw, .inr (2, [.ref xwa, .int (nI s1)])), (xwa, .inl (g.2.1, 60, .inl f1)), (xp, .inr (2, [.ref xpa, .int (nI s2)])), (xpa, .inl (g.2.1, 20, .inl f2)), (xd, .inr (1, [.ref xda])), (xda, .inl (g.2.2, 23, .inr (.inl fw))), (xe, .inr (1, [.ref xea])), (xea, .inl (g.2.2, 23, .inr (.inl fe))), (xb, .inr (0, [.ref b1, .ref b2, .ref b3, .ref b4, .int ba])), (b1, .inl (g.2.1, 61, .inl fc)), (b2, .inl (g.2.1, 61, .inl fo)), (b3, .inl (g.2.1, 61, .inl fn)), (b4, .inl (g.2.1, 61, .inl ff)), (xl, .inr (3, [.ref lt, .ref lz, .int lr])), (lt, .inr (2, [.ref lta, .int (nI lsz)])), (lta, .inl (g.2.1, 60, .inl lf)), (lz, .inr (4, [.ref lsr, .ref lsp, .int la])), (lsr, .inl (g.2.1, 61, .inl lfr)), (lsp, .inl (g.2.1, 61, .inl lfp)), (xt, .inr (3, [.ref tt, .ref tz, .int tr])), (tt, .inr (2, [.ref tta, .int (nI tsz)])), (tta, .inl (g.2.1, 60, .inl tf)), (tz, .inr (4, [.ref tsr, .ref tsp, .int ta])), (tsr, .inl (g.2.1, 61, .inl tfr)), (tsp, .inl (g.2.1, 61, .inl tfp))] ∧ s1 = ab.1.length ∧ s2 = ab.2.1.length ∧ si_ok ab.1 ∧ si_ln ab.1 f1 ∧ si_okp ab.2.1 ∧ si_ln ab.2.1 f2 ∧ (∀ k, k < 23 → fw k = ab.2.2.1 k) ∧ si_LDx ab.2.2.2 lr lsz lf lfr lfp
def si_LDm (o : Option (List Nat × Nat)) (zt zn ze : Int32) (ft fp fr : Nat → Int32) : Prop := match o with
  | none => zt = nI 0
  | some x => si_ok x.1 ∧ 1 ≤ x.2 ∧ x.2 ≤ 16 ∧ zt = nI 1 ∧ zn = nI x.1.length ∧ ze = nI x.2 ∧ (∀ i, i < x.1.length + 1 → ft i = nI (si_g x.1 i)) ∧ si_su x.1 fr fp
/-- the cells ws are an object of the reference, at y0, that holds ab -/
def si_MR (g : si_G) (y0 : Nat) (ab : si_AB) (ws : va_W) : Prop := ∃ (mW mD mT mP mR mA mK mO mB mI mN mH mC : Nat) (zs zt zn ze za zm : Int32) (f1 ft fp fr fa fk fo fb fn fh fc : Nat → Int32) (fd fi : Nat → Int64), ws = [(y0, .inr (6, [.int zs, .ref mW, .ref mD, .int zt, .int zn, .ref mT, .int ze, .ref mP, .ref mR, .int za, .ref mA, .int zm, .ref mK, .ref mO, .ref mB, .ref mI, .ref mN, .ref mH, .ref mC])), (mW, .inl (g.2.1, 60, .inl f1)), (mD, .inl (g.2.2, 23, .inr (.inl fd))), (mT, .inl (g.2.1, 61, .inl ft)), (mP, .inl (g.2.1, 61, .inl fp)), (mR, .inl (g.2.1, 61, .inl fr)), (mA, .inl (g.2.1, 20, .inl fa)), (mK, .inl (g.2.1, 61, .inl fk)), (mO, .inl (g.2.1, 61, .inl fo)), (mB, .inl (g.2.1, 61, .inl fb)), (mI, .inl (g.2.2, 23, .inr (.inl fi))), (mN, .inl (g.2.1, 61, .inl fn)), (mH, .inl (g.2.1, 61, .inl fh)), (mC, .inl (g.2.1, 61, .inl fc))] ∧ zs = nI ab.1.length ∧ za = nI ab.2.1.length ∧ si_ok ab.1 ∧ si_ln ab.1 f1 ∧ si_okp ab.2.1 ∧ si_ln ab.2.1 fa ∧ (∀ k, k < 23 → fd k = ab.2.2.1 k) ∧ si_LDm ab.2.2.2 zt zn ze ft fp fr
set_option maxHeartbeats 4000000 in
set_option maxRecDepth 100000 in
theorem bX_write (l : Launch) (g : si_G) (x0 : Nat) (ab : si_AB) (ws : va_W) (k : Nat) (hk : k < 2 ^ 31) (h : si_XR g x0 ab ws) : si_Mi (S := va_W) l g vwCl zyX_write zwX_write ({ frames := 1, cells := 0, slots := 0, locals := 21 } : Room) [.ref x0, .int (nI k)] ws (fun r u => ∃ ab', st_write ab k r ab' ∧ si_XR g x0 ab' u) (fun u => u) := by
  obtain ⟨wr, pa, dk, ld⟩ := ab
  obtain ⟨xw, xwa, xp, xpa, xd, xda, xe, xea, xb, b1, b2, b3, b4, xl, lt, lta, lz, lsr, lsp, xt, tt, tta, tz, tsr, tsp, s1, s2, lsz, tsz, f1, f2, fc, fo, fn, ff, lf, lfr, lfp, tf, tfr, tfp, fw, fe, ba, lr, la, tr, ta, rfl, hz1, hz2, hok, hf1, hpa, hf2, hdk, hld⟩ := h
  have hz1 : s1 = wr.length := hz1
  have hz2 : s2 = pa.length := hz2
  subst hz1 hz2
  have hok : si_ok wr := hok
  have hpa : si_okp pa := hpa
  have hf1 : si_ln wr f1 := hf1
  have hf2 : si_ln pa f2 := hf2
  have hdk : ∀ k, k < 23 → fw k = dk k := hdk
  refine (cX_write l g x0 xw xp xd xe xb xl xt xwa f1 wr.length (nI k) hok.1).lift (wr := [(xp, .inr (2, [.ref xpa, .int (nI pa.length)])), (xpa, .inl (g.2.1, 20, .inl f2)), (xd, .inr (1, [.ref xda])), (xda, .inl (g.2.2, 23, .inr (.inl fw))), (xe, .inr (1, [.ref xea])), (xea, .inl (g.2.2, 23, .inr (.inl fe))), (xb, .inr (0, [.ref b1, .ref b2, .ref b3, .ref b4, .int ba])), (b1, .inl (g.2.1, 61, .inl fc)), (b2, .inl (g.2.1, 61, .inl fo)), (b3, .inl (g.2.1, 61, .inl fn)), (b4, .inl (g.2.1, 61, .inl ff)), (xl, .inr (3, [.ref lt, .ref lz, .int lr])), (lt, .inr (2, [.ref lta, .int (nI lsz)])), (lta, .inl (g.2.1, 60, .inl lf)), (lz, .inr (4, [.ref lsr, .ref lsp, .int la])), (lsr, .inl (g.2.1, 61, .inl lfr)), (lsp, .inl (g.2.1, 61, .inl lfp)), (xt, .inr (3, [.ref tt, .ref tz, .int tr])), (tt, .inr (2, [.ref tta, .int (nI tsz)])), (tta, .inl (g.2.1, 60, .inl tf)), (tz, .inr (4, [.ref tsr, .ref tsp, .int ta])), (tsr, .inl (g.2.1, 61, .inl tfr)), (tsp, .inl (g.2.1, 61, .inl tfp))]) [0, 1, 2] [3, 4, 5, 6, 7, 8, 9, 10, 11, 12, 13, 14, 15, 16, 17, 18, 19, 20, 21, 22, 23, 24, 25] rfl rfl (by decide) (by decide) (fun r u hq => ?_)
  obtain ⟨f3, z3⟩ := u
  obtain ⟨hr, ht, hf⟩ := hq
  cases hd : decide (si_ch (nI k) ∧ wr.length < 60) with
  | true =>
    obtain ⟨e1, e2⟩ := ht hd
    have e1 : f3 = _ := e1
    have e2 : z3 = _ := e2
    subst e1 e2
    have hc := of_decide_eq_true hd
    have hc2 := (si_ch_n hk).mp hc.1
    have hlen : wr.length + 1 = (wr ++ [k]).length := by simp
    exact ⟨_, ⟨(wr ++ [k], pa, dk, ld), ⟨hr, (if_pos hd).symm⟩, xw, xwa, xp, xpa, xd, xda, xe, xea, xb, b1, b2, b3, b4, xl, lt, lta, lz, lsr, lsp, xt, tt, tta, tz, tsr, tsp, wr.length + 1, pa.length, lsz, tsz, upd f1 wr.length (nI k), f2, fc, fo, fn, ff, lf, lfr, lfp, tf, tfr, tfp, fw, fe, ba, lr, la, tr, ta, rfl, hlen, rfl, si_ok_app hok hc.2 hc2, si_ln_app hf1, hpa, hf2, hdk, hld⟩, fun H A hP hD => ⟨hP.sub [23, 24, 25, 0, 1, 2, 3, 4, 5, 6, 7, 8, 9, 10, 11, 12, 13, 14, 15, 16, 17, 18, 19, 20, 21, 22] rfl, hD.sub [23, 24, 25, 0, 1, 2, 3, 4, 5, 6, 7, 8, 9, 10, 11, 12, 13, 14, 15, 16, 17, 18, 19, 20, 21, 22] (by decide) rfl⟩⟩
  | false =>
    obtain ⟨e1, e2⟩ := hf hd
    have e1 : f1 = f3 := e1.symm
    have e2 : z3 = _ := e2
    subst e1 e2
    exact ⟨_, ⟨(wr, pa, dk, ld), ⟨hr, (if_neg (by rw [hd]; decide)).symm⟩, xw, xwa, xp, xpa, xd, xda, xe, xea, xb, b1, b2, b3, b4, xl, lt, lta, lz, lsr, lsp, xt, tt, tta, tz, tsr, tsp, wr.length, pa.length, lsz, tsz, f1, f2, fc, fo, fn, ff, lf, lfr, lfp, tf, tfr, tfp, fw, fe, ba, lr, la, tr, ta, rfl, rfl, rfl, hok, hf1, hpa, hf2, hdk, hld⟩, fun H A hP hD => ⟨hP.sub [23, 24, 25, 0, 1, 2, 3, 4, 5, 6, 7, 8, 9, 10, 11, 12, 13, 14, 15, 16, 17, 18, 19, 20, 21, 22] rfl, hD.sub [23, 24, 25, 0, 1, 2, 3, 4, 5, 6, 7, 8, 9, 10, 11, 12, 13, 14, 15, 16, 17, 18, 19, 20, 21, 22] (by decide) rfl⟩⟩
set_option maxHeartbeats 4000000 in
set_option maxRecDepth 100000 in
theorem bX_ask (l : Launch) (g : si_G) (x0 : Nat) (ab : si_AB) (ws : va_W) (k : Nat) (hk : k < 2 ^ 31) (h : si_XR g x0 ab ws) : si_Mi (S := va_W) l g vwCl zyX_ask zwX_ask ({ frames := 1, cells := 0, slots := 0, locals := 21 } : Room) [.ref x0, .int (nI k)] ws (fun r u => ∃ ab', st_ask ab k r ab' ∧ si_XR g x0 ab' u) (fun u => u) := by
  obtain ⟨wr, pa, dk, ld⟩ := ab
  obtain ⟨xw, xwa, xp, xpa, xd, xda, xe, xea, xb, b1, b2, b3, b4, xl, lt, lta, lz, lsr, lsp, xt, tt, tta, tz, tsr, tsp, s1, s2, lsz, tsz, f1, f2, fc, fo, fn, ff, lf, lfr, lfp, tf, tfr, tfp, fw, fe, ba, lr, la, tr, ta, rfl, hz1, hz2, hok, hf1, hpa, hf2, hdk, hld⟩ := h
  have hz1 : s1 = wr.length := hz1
  have hz2 : s2 = pa.length := hz2
  subst hz1 hz2
  have hok : si_ok wr := hok
  have hpa : si_okp pa := hpa
  have hf1 : si_ln wr f1 := hf1
  have hf2 : si_ln pa f2 := hf2
  have hdk : ∀ k, k < 23 → fw k = dk k := hdk
  refine (cX_ask l g x0 xw xp xd xe xb xl xt xpa f2 pa.length (nI k) hpa.1).lift (wr := [(xw, .inr (2, [.ref xwa, .int (nI wr.length)])), (xwa, .inl (g.2.1, 60, .inl f1)), (xd, .inr (1, [.ref xda])), (xda, .inl (g.2.2, 23, .inr (.inl fw))), (xe, .inr (1, [.ref xea])), (xea, .inl (g.2.2, 23, .inr (.inl fe))), (xb, .inr (0, [.ref b1, .ref b2, .ref b3, .ref b4, .int ba])), (b1, .inl (g.2.1, 61, .inl fc)), (b2, .inl (g.2.1, 61, .inl fo)), (b3, .inl (g.2.1, 61, .inl fn)), (b4, .inl (g.2.1, 61, .inl ff)), (xl, .inr (3, [.ref lt, .ref lz, .int lr])), (lt, .inr (2, [.ref lta, .int (nI lsz)])), (lta, .inl (g.2.1, 60, .inl lf)), (lz, .inr (4, [.ref lsr, .ref lsp, .int la])), (lsr, .inl (g.2.1, 61, .inl lfr)), (lsp, .inl (g.2.1, 61, .inl lfp)), (xt, .inr (3, [.ref tt, .ref tz, .int tr])), (tt, .inr (2, [.ref tta, .int (nI tsz)])), (tta, .inl (g.2.1, 60, .inl tf)), (tz, .inr (4, [.ref tsr, .ref tsp, .int ta])), (tsr, .inl (g.2.1, 61, .inl tfr)), (tsp, .inl (g.2.1, 61, .inl tfp))]) [0, 3, 4] [1, 2, 5, 6, 7, 8, 9, 10, 11, 12, 13, 14, 15, 16, 17, 18, 19, 20, 21, 22, 23, 24, 25] rfl rfl (by decide) (by decide) (fun r u hq => ?_)
  obtain ⟨f3, z3⟩ := u
  obtain ⟨hr, ht, hf⟩ := hq
  cases hd : decide (si_ch (nI k) ∧ pa.length < 20) with
  | true =>
    obtain ⟨e1, e2⟩ := ht hd
    have e1 : f3 = _ := e1
    have e2 : z3 = _ := e2
    subst e1 e2
    have hc := of_decide_eq_true hd
    have hc2 := (si_ch_n hk).mp hc.1
    have hlen : pa.length + 1 = (pa ++ [k]).length := by simp
    exact ⟨_, ⟨(wr, pa ++ [k], dk, ld), ⟨hr, (if_pos hd).symm⟩, xw, xwa, xp, xpa, xd, xda, xe, xea, xb, b1, b2, b3, b4, xl, lt, lta, lz, lsr, lsp, xt, tt, tta, tz, tsr, tsp, wr.length, pa.length + 1, lsz, tsz, f1, upd f2 pa.length (nI k), fc, fo, fn, ff, lf, lfr, lfp, tf, tfr, tfp, fw, fe, ba, lr, la, tr, ta, rfl, rfl, hlen, hok, hf1, si_okp_app hpa hc.2 hc2, si_ln_app hf2, hdk, hld⟩, fun H A hP hD => ⟨hP.sub [23, 0, 1, 24, 25, 2, 3, 4, 5, 6, 7, 8, 9, 10, 11, 12, 13, 14, 15, 16, 17, 18, 19, 20, 21, 22] rfl, hD.sub [23, 0, 1, 24, 25, 2, 3, 4, 5, 6, 7, 8, 9, 10, 11, 12, 13, 14, 15, 16, 17, 18, 19, 20, 21, 22] (by decide) rfl⟩⟩
  | false =>
    obtain ⟨e1, e2⟩ := hf hd
    have e1 : f2 = f3 := e1.symm
    have e2 : z3 = _ := e2
    subst e1 e2
    exact ⟨_, ⟨(wr, pa, dk, ld), ⟨hr, (if_neg (by rw [hd]; decide)).symm⟩, xw, xwa, xp, xpa, xd, xda, xe, xea, xb, b1, b2, b3, b4, xl, lt, lta, lz, lsr, lsp, xt, tt, tta, tz, tsr, tsp, wr.length, pa.length, lsz, tsz, f1, f2, fc, fo, fn, ff, lf, lfr, lfp, tf, tfr, tfp, fw, fe, ba, lr, la, tr, ta, rfl, rfl, rfl, hok, hf1, hpa, hf2, hdk, hld⟩, fun H A hP hD => ⟨hP.sub [23, 0, 1, 24, 25, 2, 3, 4, 5, 6, 7, 8, 9, 10, 11, 12, 13, 14, 15, 16, 17, 18, 19, 20, 21, 22] rfl, hD.sub [23, 0, 1, 24, 25, 2, 3, 4, 5, 6, 7, 8, 9, 10, 11, 12, 13, 14, 15, 16, 17, 18, 19, 20, 21, 22] (by decide) rfl⟩⟩
set_option maxHeartbeats 4000000 in
set_option maxRecDepth 100000 in
theorem bM_write (l : Launch) (g : si_G) (y0 : Nat) (ab : si_AB) (ws : va_W) (k : Nat) (hk : k < 2 ^ 31) (h : si_MR g y0 ab ws) : si_Mi (S := va_W) l g vwCl zyM_write zwM_write ({ frames := 0, cells := 0, slots := 0, locals := 0 } : Room) [.ref y0, .int (nI k)] ws (fun r u => ∃ ab', st_write ab k r ab' ∧ si_MR g y0 ab' u) (fun u => u) := by
  obtain ⟨wr, pa, dk, ld⟩ := ab
  obtain ⟨mW, mD, mT, mP, mR, mA, mK, mO, mB, mI, mN, mH, mC, zs, zt, zn, ze, za, zm, f1, ft, fp, fr, fa, fk, fo, fb, fn, fh, fc, fd, fi, rfl, hz1, hz2, hok, hf1, hpa, hf2, hdk, hld⟩ := h
  have hz1 : zs = nI wr.length := hz1
  have hz2 : za = nI pa.length := hz2
  subst hz1 hz2
  have hok : si_ok wr := hok
  have hpa : si_okp pa := hpa
  have hf1 : si_ln wr f1 := hf1
  have hf2 : si_ln pa fa := hf2
  have hdk : ∀ k, k < 23 → fd k = dk k := hdk
  refine (cM_write l g y0 mW mD mT mP mR mA mK mO mB mI mN mH mC zm zt zn ze (nI pa.length) zm f1 wr.length (nI k) hok.1).lift (wr := [(mD, .inl (g.2.2, 23, .inr (.inl fd))), (mT, .inl (g.2.1, 61, .inl ft)), (mP, .inl (g.2.1, 61, .inl fp)), (mR, .inl (g.2.1, 61, .inl fr)), (mA, .inl (g.2.1, 20, .inl fa)), (mK, .inl (g.2.1, 61, .inl fk)), (mO, .inl (g.2.1, 61, .inl fo)), (mB, .inl (g.2.1, 61, .inl fb)), (mI, .inl (g.2.2, 23, .inr (.inl fi))), (mN, .inl (g.2.1, 61, .inl fn)), (mH, .inl (g.2.1, 61, .inl fh)), (mC, .inl (g.2.1, 61, .inl fc))]) [0, 1] [2, 3, 4, 5, 6, 7, 8, 9, 10, 11, 12, 13] rfl rfl (by decide) (by decide) (fun r u hq => ?_)
  obtain ⟨f3, z3⟩ := u
  obtain ⟨hr, ht, hf⟩ := hq
  cases hd : decide (si_ch (nI k) ∧ wr.length < 60) with
  | true =>
    obtain ⟨e1, e2⟩ := ht hd
    have e1 : f3 = _ := e1
    have e2 : z3 = _ := e2
    subst e1 e2
    have hc := of_decide_eq_true hd
    have hc2 := (si_ch_n hk).mp hc.1
    have hlen : wr.length + 1 = (wr ++ [k]).length := by simp
    exact ⟨_, ⟨(wr ++ [k], pa, dk, ld), ⟨hr, (if_pos hd).symm⟩, mW, mD, mT, mP, mR, mA, mK, mO, mB, mI, mN, mH, mC, nI (wr.length + 1), zt, zn, ze, nI pa.length, zm, upd f1 wr.length (nI k), ft, fp, fr, fa, fk, fo, fb, fn, fh, fc, fd, fi, rfl, by rw [hlen], rfl, si_ok_app hok hc.2 hc2, si_ln_app hf1, hpa, hf2, hdk, hld⟩, fun H A hP hD => ⟨hP.sub [12, 13, 0, 1, 2, 3, 4, 5, 6, 7, 8, 9, 10, 11] rfl, hD.sub [12, 13, 0, 1, 2, 3, 4, 5, 6, 7, 8, 9, 10, 11] (by decide) rfl⟩⟩
  | false =>
    obtain ⟨e1, e2⟩ := hf hd
    have e1 : f1 = f3 := e1.symm
    have e2 : z3 = _ := e2
    subst e1 e2
    exact ⟨_, ⟨(wr, pa, dk, ld), ⟨hr, (if_neg (by rw [hd]; decide)).symm⟩, mW, mD, mT, mP, mR, mA, mK, mO, mB, mI, mN, mH, mC, nI wr.length, zt, zn, ze, nI pa.length, zm, f1, ft, fp, fr, fa, fk, fo, fb, fn, fh, fc, fd, fi, rfl, rfl, rfl, hok, hf1, hpa, hf2, hdk, hld⟩, fun H A hP hD => ⟨hP.sub [12, 13, 0, 1, 2, 3, 4, 5, 6, 7, 8, 9, 10, 11] rfl, hD.sub [12, 13, 0, 1, 2, 3, 4, 5, 6, 7, 8, 9, 10, 11] (by decide) rfl⟩⟩
set_option maxHeartbeats 4000000 in
set_option maxRecDepth 100000 in
theorem bM_ask (l : Launch) (g : si_G) (y0 : Nat) (ab : si_AB) (ws : va_W) (k : Nat) (hk : k < 2 ^ 31) (h : si_MR g y0 ab ws) : si_Mi (S := va_W) l g vwCl zyM_ask zwM_ask ({ frames := 0, cells := 0, slots := 0, locals := 0 } : Room) [.ref y0, .int (nI k)] ws (fun r u => ∃ ab', st_ask ab k r ab' ∧ si_MR g y0 ab' u) (fun u => u) := by
  obtain ⟨wr, pa, dk, ld⟩ := ab
  obtain ⟨mW, mD, mT, mP, mR, mA, mK, mO, mB, mI, mN, mH, mC, zs, zt, zn, ze, za, zm, f1, ft, fp, fr, fa, fk, fo, fb, fn, fh, fc, fd, fi, rfl, hz1, hz2, hok, hf1, hpa, hf2, hdk, hld⟩ := h
  have hz1 : zs = nI wr.length := hz1
  have hz2 : za = nI pa.length := hz2
  subst hz1 hz2
  have hok : si_ok wr := hok
  have hpa : si_okp pa := hpa
  have hf1 : si_ln wr f1 := hf1
  have hf2 : si_ln pa fa := hf2
  have hdk : ∀ k, k < 23 → fd k = dk k := hdk
  refine (cM_ask l g y0 mW mD mT mP mR mA mK mO mB mI mN mH mC (nI wr.length) zt zn ze zm zm fa pa.length (nI k) hpa.1).lift (wr := [(mW, .inl (g.2.1, 60, .inl f1)), (mD, .inl (g.2.2, 23, .inr (.inl fd))), (mT, .inl (g.2.1, 61, .inl ft)), (mP, .inl (g.2.1, 61, .inl fp)), (mR, .inl (g.2.1, 61, .inl fr)), (mK, .inl (g.2.1, 61, .inl fk)), (mO, .inl (g.2.1, 61, .inl fo)), (mB, .inl (g.2.1, 61, .inl fb)), (mI, .inl (g.2.2, 23, .inr (.inl fi))), (mN, .inl (g.2.1, 61, .inl fn)), (mH, .inl (g.2.1, 61, .inl fh)), (mC, .inl (g.2.1, 61, .inl fc))]) [0, 6] [1, 2, 3, 4, 5, 7, 8, 9, 10, 11, 12, 13] rfl rfl (by decide) (by decide) (fun r u hq => ?_)
  obtain ⟨f3, z3⟩ := u
  obtain ⟨hr, ht, hf⟩ := hq
  cases hd : decide (si_ch (nI k) ∧ pa.length < 20) with
  | true =>
    obtain ⟨e1, e2⟩ := ht hd
    have e1 : f3 = _ := e1
    have e2 : z3 = _ := e2
    subst e1 e2
    have hc := of_decide_eq_true hd
    have hc2 := (si_ch_n hk).mp hc.1
    have hlen : pa.length + 1 = (pa ++ [k]).length := by simp
    exact ⟨_, ⟨(wr, pa ++ [k], dk, ld), ⟨hr, (if_pos hd).symm⟩, mW, mD, mT, mP, mR, mA, mK, mO, mB, mI, mN, mH, mC, nI wr.length, zt, zn, ze, nI (pa.length + 1), zm, f1, ft, fp, fr, upd fa pa.length (nI k), fk, fo, fb, fn, fh, fc, fd, fi, rfl, rfl, by rw [hlen], hok, hf1, si_okp_app hpa hc.2 hc2, si_ln_app hf2, hdk, hld⟩, fun H A hP hD => ⟨hP.sub [12, 0, 1, 2, 3, 4, 13, 5, 6, 7, 8, 9, 10, 11] rfl, hD.sub [12, 0, 1, 2, 3, 4, 13, 5, 6, 7, 8, 9, 10, 11] (by decide) rfl⟩⟩
  | false =>
    obtain ⟨e1, e2⟩ := hf hd
    have e1 : fa = f3 := e1.symm
    have e2 : z3 = _ := e2
    subst e1 e2
    exact ⟨_, ⟨(wr, pa, dk, ld), ⟨hr, (if_neg (by rw [hd]; decide)).symm⟩, mW, mD, mT, mP, mR, mA, mK, mO, mB, mI, mN, mH, mC, nI wr.length, zt, zn, ze, nI pa.length, zm, f1, ft, fp, fr, fa, fk, fo, fb, fn, fh, fc, fd, fi, rfl, rfl, rfl, hok, hf1, hpa, hf2, hdk, hld⟩, fun H A hP hD => ⟨hP.sub [12, 0, 1, 2, 3, 4, 13, 5, 6, 7, 8, 9, 10, 11] rfl, hD.sub [12, 0, 1, 2, 3, 4, 13, 5, 6, 7, 8, 9, 10, 11] (by decide) rfl⟩⟩
set_option maxHeartbeats 4000000 in
set_option maxRecDepth 100000 in
theorem bX_erase (l : Launch) (g : si_G) (x0 : Nat) (ab : si_AB) (ws : va_W)  (h : si_XR g x0 ab ws) : si_Mv (S := va_W) l g vwCl zyX_erase zwX_erase ({ frames := 1, cells := 0, slots := 0, locals := 20 } : Room) [.ref x0] ws (fun u => ∃ ab', st_erase ab ab' ∧ si_XR g x0 ab' u) (fun u => u) := by
  obtain ⟨wr, pa, dk, ld⟩ := ab
  obtain ⟨xw, xwa, xp, xpa, xd, xda, xe, xea, xb, b1, b2, b3, b4, xl, lt, lta, lz, lsr, lsp, xt, tt, tta, tz, tsr, tsp, s1, s2, lsz, tsz, f1, f2, fc, fo, fn, ff, lf, lfr, lfp, tf, tfr, tfp, fw, fe, ba, lr, la, tr, ta, rfl, hz1, hz2, hok, hf1, hpa, hf2, hdk, hld⟩ := h
  have hz1 : s1 = wr.length := hz1
  have hz2 : s2 = pa.length := hz2
  subst hz1 hz2
  have hok : si_ok wr := hok
  have hpa : si_okp pa := hpa
  have hf1 : si_ln wr f1 := hf1
  have hf2 : si_ln pa f2 := hf2
  have hdk : ∀ k, k < 23 → fw k = dk k := hdk
  refine (cX_erase l g x0 xw xp xd xe xb xl xt xwa f1 wr.length).lift (wr := [(xp, .inr (2, [.ref xpa, .int (nI pa.length)])), (xpa, .inl (g.2.1, 20, .inl f2)), (xd, .inr (1, [.ref xda])), (xda, .inl (g.2.2, 23, .inr (.inl fw))), (xe, .inr (1, [.ref xea])), (xea, .inl (g.2.2, 23, .inr (.inl fe))), (xb, .inr (0, [.ref b1, .ref b2, .ref b3, .ref b4, .int ba])), (b1, .inl (g.2.1, 61, .inl fc)), (b2, .inl (g.2.1, 61, .inl fo)), (b3, .inl (g.2.1, 61, .inl fn)), (b4, .inl (g.2.1, 61, .inl ff)), (xl, .inr (3, [.ref lt, .ref lz, .int lr])), (lt, .inr (2, [.ref lta, .int (nI lsz)])), (lta, .inl (g.2.1, 60, .inl lf)), (lz, .inr (4, [.ref lsr, .ref lsp, .int la])), (lsr, .inl (g.2.1, 61, .inl lfr)), (lsp, .inl (g.2.1, 61, .inl lfp)), (xt, .inr (3, [.ref tt, .ref tz, .int tr])), (tt, .inr (2, [.ref tta, .int (nI tsz)])), (tta, .inl (g.2.1, 60, .inl tf)), (tz, .inr (4, [.ref tsr, .ref tsp, .int ta])), (tsr, .inl (g.2.1, 61, .inl tfr)), (tsp, .inl (g.2.1, 61, .inl tfp))]) [0, 1, 2] [3, 4, 5, 6, 7, 8, 9, 10, 11, 12, 13, 14, 15, 16, 17, 18, 19, 20, 21, 22, 23, 24, 25] rfl rfl (by decide) (by decide) (fun u hq => ?_)
  exact ⟨_, ⟨([], pa, dk, ld), rfl, xw, xwa, xp, xpa, xd, xda, xe, xea, xb, b1, b2, b3, b4, xl, lt, lta, lz, lsr, lsp, xt, tt, tta, tz, tsr, tsp, 0, pa.length, lsz, tsz, f1, f2, fc, fo, fn, ff, lf, lfr, lfp, tf, tfr, tfp, fw, fe, ba, lr, la, tr, ta, rfl, rfl, rfl, ⟨Nat.zero_le _, fun c hc => by cases hc⟩, fun i hi => absurd hi (Nat.not_lt_zero _), hpa, hf2, hdk, hld⟩, fun H A hP hD => ⟨hP.sub [23, 24, 25, 0, 1, 2, 3, 4, 5, 6, 7, 8, 9, 10, 11, 12, 13, 14, 15, 16, 17, 18, 19, 20, 21, 22] rfl, hD.sub [23, 24, 25, 0, 1, 2, 3, 4, 5, 6, 7, 8, 9, 10, 11, 12, 13, 14, 15, 16, 17, 18, 19, 20, 21, 22] (by decide) rfl⟩⟩
set_option maxHeartbeats 4000000 in
set_option maxRecDepth 100000 in
theorem bM_erase (l : Launch) (g : si_G) (y0 : Nat) (ab : si_AB) (ws : va_W)  (h : si_MR g y0 ab ws) : si_Mv (S := va_W) l g vwCl zyM_erase zwM_erase ({ frames := 0, cells := 0, slots := 0, locals := 0 } : Room) [.ref y0] ws (fun u => ∃ ab', st_erase ab ab' ∧ si_MR g y0 ab' u) (fun u => u) := by
  obtain ⟨wr, pa, dk, ld⟩ := ab
  obtain ⟨mW, mD, mT, mP, mR, mA, mK, mO, mB, mI, mN, mH, mC, zs, zt, zn, ze, za, zm, f1, ft, fp, fr, fa, fk, fo, fb, fn, fh, fc, fd, fi, rfl, hz1, hz2, hok, hf1, hpa, hf2, hdk, hld⟩ := h
  have hz1 : zs = nI wr.length := hz1
  have hz2 : za = nI pa.length := hz2
  subst hz1 hz2
  have hok : si_ok wr := hok
  have hpa : si_okp pa := hpa
  have hf1 : si_ln wr f1 := hf1
  have hf2 : si_ln pa fa := hf2
  have hdk : ∀ k, k < 23 → fd k = dk k := hdk
  refine (cM_erase l g y0 mW mD mT mP mR mA mK mO mB mI mN mH mC (nI wr.length) zt zn ze (nI pa.length) zm).lift (wr := [(mW, .inl (g.2.1, 60, .inl f1)), (mD, .inl (g.2.2, 23, .inr (.inl fd))), (mT, .inl (g.2.1, 61, .inl ft)), (mP, .inl (g.2.1, 61, .inl fp)), (mR, .inl (g.2.1, 61, .inl fr)), (mA, .inl (g.2.1, 20, .inl fa)), (mK, .inl (g.2.1, 61, .inl fk)), (mO, .inl (g.2.1, 61, .inl fo)), (mB, .inl (g.2.1, 61, .inl fb)), (mI, .inl (g.2.2, 23, .inr (.inl fi))), (mN, .inl (g.2.1, 61, .inl fn)), (mH, .inl (g.2.1, 61, .inl fh)), (mC, .inl (g.2.1, 61, .inl fc))]) [0] [1, 2, 3, 4, 5, 6, 7, 8, 9, 10, 11, 12, 13] rfl rfl (by decide) (by decide) (fun u hq => ?_)
  exact ⟨_, ⟨([], pa, dk, ld), rfl, mW, mD, mT, mP, mR, mA, mK, mO, mB, mI, mN, mH, mC, nI 0, zt, zn, ze, nI pa.length, zm, f1, ft, fp, fr, fa, fk, fo, fb, fn, fh, fc, fd, fi, rfl, rfl, rfl, ⟨Nat.zero_le _, fun c hc => by cases hc⟩, fun i hi => absurd hi (Nat.not_lt_zero _), hpa, hf2, hdk, hld⟩, fun H A hP hD => ⟨hP.sub [13, 0, 1, 2, 3, 4, 5, 6, 7, 8, 9, 10, 11, 12] rfl, hD.sub [13, 0, 1, 2, 3, 4, 5, 6, 7, 8, 9, 10, 11, 12] (by decide) rfl⟩⟩
set_option maxHeartbeats 4000000 in
set_option maxRecDepth 100000 in
theorem bX_back (l : Launch) (g : si_G) (x0 : Nat) (ab : si_AB) (ws : va_W)  (h : si_XR g x0 ab ws) : si_Mi (S := va_W) l g vwCl zyX_back zwX_back ({ frames := 1, cells := 0, slots := 0, locals := 20 } : Room) [.ref x0] ws (fun r u => ∃ ab', st_back ab r ab' ∧ si_XR g x0 ab' u) (fun u => u) := by
  obtain ⟨wr, pa, dk, ld⟩ := ab
  obtain ⟨xw, xwa, xp, xpa, xd, xda, xe, xea, xb, b1, b2, b3, b4, xl, lt, lta, lz, lsr, lsp, xt, tt, tta, tz, tsr, tsp, s1, s2, lsz, tsz, f1, f2, fc, fo, fn, ff, lf, lfr, lfp, tf, tfr, tfp, fw, fe, ba, lr, la, tr, ta, rfl, hz1, hz2, hok, hf1, hpa, hf2, hdk, hld⟩ := h
  have hz1 : s1 = wr.length := hz1
  have hz2 : s2 = pa.length := hz2
  subst hz1 hz2
  have hok : si_ok wr := hok
  have hpa : si_okp pa := hpa
  have hf1 : si_ln wr f1 := hf1
  have hf2 : si_ln pa f2 := hf2
  have hdk : ∀ k, k < 23 → fw k = dk k := hdk
  refine (cX_back l g x0 xw xp xd xe xb xl xt xpa f2 pa.length hpa.1).lift (wr := [(xw, .inr (2, [.ref xwa, .int (nI wr.length)])), (xwa, .inl (g.2.1, 60, .inl f1)), (xd, .inr (1, [.ref xda])), (xda, .inl (g.2.2, 23, .inr (.inl fw))), (xe, .inr (1, [.ref xea])), (xea, .inl (g.2.2, 23, .inr (.inl fe))), (xb, .inr (0, [.ref b1, .ref b2, .ref b3, .ref b4, .int ba])), (b1, .inl (g.2.1, 61, .inl fc)), (b2, .inl (g.2.1, 61, .inl fo)), (b3, .inl (g.2.1, 61, .inl fn)), (b4, .inl (g.2.1, 61, .inl ff)), (xl, .inr (3, [.ref lt, .ref lz, .int lr])), (lt, .inr (2, [.ref lta, .int (nI lsz)])), (lta, .inl (g.2.1, 60, .inl lf)), (lz, .inr (4, [.ref lsr, .ref lsp, .int la])), (lsr, .inl (g.2.1, 61, .inl lfr)), (lsp, .inl (g.2.1, 61, .inl lfp)), (xt, .inr (3, [.ref tt, .ref tz, .int tr])), (tt, .inr (2, [.ref tta, .int (nI tsz)])), (tta, .inl (g.2.1, 60, .inl tf)), (tz, .inr (4, [.ref tsr, .ref tsp, .int ta])), (tsr, .inl (g.2.1, 61, .inl tfr)), (tsp, .inl (g.2.1, 61, .inl tfp))]) [0, 3, 4] [1, 2, 5, 6, 7, 8, 9, 10, 11, 12, 13, 14, 15, 16, 17, 18, 19, 20, 21, 22, 23, 24, 25] rfl rfl (by decide) (by decide) (fun r u hq => ?_)
  rcases hq with ⟨hr, hne, e⟩ | ⟨hr, h0, e⟩
  · have e : u = pa.length - 1 := e
    subst e
    have hlen : pa.length - 1 = (pa.take (pa.length - 1)).length := by rw [List.length_take]; omega
    exact ⟨_, ⟨(wr, pa.take (pa.length - 1), dk, ld), Or.inl ⟨hr, hne, rfl⟩, xw, xwa, xp, xpa, xd, xda, xe, xea, xb, b1, b2, b3, b4, xl, lt, lta, lz, lsr, lsp, xt, tt, tta, tz, tsr, tsp, wr.length, pa.length - 1, lsz, tsz, f1, f2, fc, fo, fn, ff, lf, lfr, lfp, tf, tfr, tfp, fw, fe, ba, lr, la, tr, ta, rfl, rfl, hlen, hok, hf1, si_okp_take _ hpa, si_ln_take _ hf2, hdk, hld⟩, fun H A hP hD => ⟨hP.sub [23, 0, 1, 24, 25, 2, 3, 4, 5, 6, 7, 8, 9, 10, 11, 12, 13, 14, 15, 16, 17, 18, 19, 20, 21, 22] rfl, hD.sub [23, 0, 1, 24, 25, 2, 3, 4, 5, 6, 7, 8, 9, 10, 11, 12, 13, 14, 15, 16, 17, 18, 19, 20, 21, 22] (by decide) rfl⟩⟩
  · have e : u = 0 := e
    subst e
    exact ⟨_, ⟨(wr, pa, dk, ld), Or.inr ⟨hr, h0, rfl⟩, xw, xwa, xp, xpa, xd, xda, xe, xea, xb, b1, b2, b3, b4, xl, lt, lta, lz, lsr, lsp, xt, tt, tta, tz, tsr, tsp, wr.length, 0, lsz, tsz, f1, f2, fc, fo, fn, ff, lf, lfr, lfp, tf, tfr, tfp, fw, fe, ba, lr, la, tr, ta, rfl, rfl, h0.symm, hok, hf1, hpa, hf2, hdk, hld⟩, fun H A hP hD => ⟨hP.sub [23, 0, 1, 24, 25, 2, 3, 4, 5, 6, 7, 8, 9, 10, 11, 12, 13, 14, 15, 16, 17, 18, 19, 20, 21, 22] rfl, hD.sub [23, 0, 1, 24, 25, 2, 3, 4, 5, 6, 7, 8, 9, 10, 11, 12, 13, 14, 15, 16, 17, 18, 19, 20, 21, 22] (by decide) rfl⟩⟩
set_option maxHeartbeats 4000000 in
set_option maxRecDepth 100000 in
theorem bM_back (l : Launch) (g : si_G) (y0 : Nat) (ab : si_AB) (ws : va_W)  (h : si_MR g y0 ab ws) : si_Mi (S := va_W) l g vwCl zyM_back zwM_back ({ frames := 0, cells := 0, slots := 0, locals := 0 } : Room) [.ref y0] ws (fun r u => ∃ ab', st_back ab r ab' ∧ si_MR g y0 ab' u) (fun u => u) := by
  obtain ⟨wr, pa, dk, ld⟩ := ab
  obtain ⟨mW, mD, mT, mP, mR, mA, mK, mO, mB, mI, mN, mH, mC, zs, zt, zn, ze, za, zm, f1, ft, fp, fr, fa, fk, fo, fb, fn, fh, fc, fd, fi, rfl, hz1, hz2, hok, hf1, hpa, hf2, hdk, hld⟩ := h
  have hz1 : zs = nI wr.length := hz1
  have hz2 : za = nI pa.length := hz2
  subst hz1 hz2
  have hok : si_ok wr := hok
  have hpa : si_okp pa := hpa
  have hf1 : si_ln wr f1 := hf1
  have hf2 : si_ln pa fa := hf2
  have hdk : ∀ k, k < 23 → fd k = dk k := hdk
  refine (cM_back l g y0 mW mD mT mP mR mA mK mO mB mI mN mH mC (nI wr.length) zt zn ze zm zm pa.length hpa.1).lift (wr := [(mW, .inl (g.2.1, 60, .inl f1)), (mD, .inl (g.2.2, 23, .inr (.inl fd))), (mT, .inl (g.2.1, 61, .inl ft)), (mP, .inl (g.2.1, 61, .inl fp)), (mR, .inl (g.2.1, 61, .inl fr)), (mA, .inl (g.2.1, 20, .inl fa)), (mK, .inl (g.2.1, 61, .inl fk)), (mO, .inl (g.2.1, 61, .inl fo)), (mB, .inl (g.2.1, 61, .inl fb)), (mI, .inl (g.2.2, 23, .inr (.inl fi))), (mN, .inl (g.2.1, 61, .inl fn)), (mH, .inl (g.2.1, 61, .inl fh)), (mC, .inl (g.2.1, 61, .inl fc))]) [0] [1, 2, 3, 4, 5, 6, 7, 8, 9, 10, 11, 12, 13] rfl rfl (by decide) (by decide) (fun r u hq => ?_)
  rcases hq with ⟨hr, hne, e⟩ | ⟨hr, h0, e⟩
  · have e : u = pa.length - 1 := e
    subst e
    have hlen : pa.length - 1 = (pa.take (pa.length - 1)).length := by rw [List.length_take]; omega
    exact ⟨_, ⟨(wr, pa.take (pa.length - 1), dk, ld), Or.inl ⟨hr, hne, rfl⟩, mW, mD, mT, mP, mR, mA, mK, mO, mB, mI, mN, mH, mC, nI wr.length, zt, zn, ze, nI (pa.length - 1), zm, f1, ft, fp, fr, fa, fk, fo, fb, fn, fh, fc, fd, fi, rfl, rfl, congrArg nI hlen, hok, hf1, si_okp_take _ hpa, si_ln_take _ hf2, hdk, hld⟩, fun H A hP hD => ⟨hP.sub [13, 0, 1, 2, 3, 4, 5, 6, 7, 8, 9, 10, 11, 12] rfl, hD.sub [13, 0, 1, 2, 3, 4, 5, 6, 7, 8, 9, 10, 11, 12] (by decide) rfl⟩⟩
  · have e : u = 0 := e
    subst e
    exact ⟨_, ⟨(wr, pa, dk, ld), Or.inr ⟨hr, h0, rfl⟩, mW, mD, mT, mP, mR, mA, mK, mO, mB, mI, mN, mH, mC, nI wr.length, zt, zn, ze, nI 0, zm, f1, ft, fp, fr, fa, fk, fo, fb, fn, fh, fc, fd, fi, rfl, rfl, (congrArg nI h0).symm, hok, hf1, hpa, hf2, hdk, hld⟩, fun H A hP hD => ⟨hP.sub [13, 0, 1, 2, 3, 4, 5, 6, 7, 8, 9, 10, 11, 12] rfl, hD.sub [13, 0, 1, 2, 3, 4, 5, 6, 7, 8, 9, 10, 11, 12] (by decide) rfl⟩⟩
set_option maxHeartbeats 4000000 in
set_option maxRecDepth 100000 in
theorem bX_word (l : Launch) (g : si_G) (x0 : Nat) (ab : si_AB) (ws : va_W) (q : Int32) (h : si_XR g x0 ab ws) : si_Ml (S := va_W) l g vwCl zyX_word zwX_word ({ frames := 1, cells := 0, slots := 0, locals := 20 } : Room) [.ref x0, .int q] ws (fun r u => ∃ ab', st_word ab q r ab' ∧ si_XR g x0 ab' u) (fun u => u) := by
  obtain ⟨wr, pa, dk, ld⟩ := ab
  obtain ⟨xw, xwa, xp, xpa, xd, xda, xe, xea, xb, b1, b2, b3, b4, xl, lt, lta, lz, lsr, lsp, xt, tt, tta, tz, tsr, tsp, s1, s2, lsz, tsz, f1, f2, fc, fo, fn, ff, lf, lfr, lfp, tf, tfr, tfp, fw, fe, ba, lr, la, tr, ta, rfl, hz1, hz2, hok, hf1, hpa, hf2, hdk, hld⟩ := h
  have hz1 : s1 = wr.length := hz1
  have hz2 : s2 = pa.length := hz2
  subst hz1 hz2
  have hok : si_ok wr := hok
  have hpa : si_okp pa := hpa
  have hf1 : si_ln wr f1 := hf1
  have hf2 : si_ln pa f2 := hf2
  have hdk : ∀ k, k < 23 → fw k = dk k := hdk
  refine (cX_word l g x0 xw xp xd xe xb xl xt xda fw q).lift (wr := [(xw, .inr (2, [.ref xwa, .int (nI wr.length)])), (xwa, .inl (g.2.1, 60, .inl f1)), (xp, .inr (2, [.ref xpa, .int (nI pa.length)])), (xpa, .inl (g.2.1, 20, .inl f2)), (xe, .inr (1, [.ref xea])), (xea, .inl (g.2.2, 23, .inr (.inl fe))), (xb, .inr (0, [.ref b1, .ref b2, .ref b3, .ref b4, .int ba])), (b1, .inl (g.2.1, 61, .inl fc)), (b2, .inl (g.2.1, 61, .inl fo)), (b3, .inl (g.2.1, 61, .inl fn)), (b4, .inl (g.2.1, 61, .inl ff)), (xl, .inr (3, [.ref lt, .ref lz, .int lr])), (lt, .inr (2, [.ref lta, .int (nI lsz)])), (lta, .inl (g.2.1, 60, .inl lf)), (lz, .inr (4, [.ref lsr, .ref lsp, .int la])), (lsr, .inl (g.2.1, 61, .inl lfr)), (lsp, .inl (g.2.1, 61, .inl lfp)), (xt, .inr (3, [.ref tt, .ref tz, .int tr])), (tt, .inr (2, [.ref tta, .int (nI tsz)])), (tta, .inl (g.2.1, 60, .inl tf)), (tz, .inr (4, [.ref tsr, .ref tsp, .int ta])), (tsr, .inl (g.2.1, 61, .inl tfr)), (tsp, .inl (g.2.1, 61, .inl tfp))]) [0, 5, 6] [1, 2, 3, 4, 7, 8, 9, 10, 11, 12, 13, 14, 15, 16, 17, 18, 19, 20, 21, 22, 23, 24, 25] rfl rfl (by decide) (by decide) (fun r u hq => ?_)
  exact ⟨_, ⟨(wr, pa, dk, ld), ⟨(show r = _ from hq).trans (si_wq_congr hdk q), rfl⟩, xw, xwa, xp, xpa, xd, xda, xe, xea, xb, b1, b2, b3, b4, xl, lt, lta, lz, lsr, lsp, xt, tt, tta, tz, tsr, tsp, wr.length, pa.length, lsz, tsz, f1, f2, fc, fo, fn, ff, lf, lfr, lfp, tf, tfr, tfp, fw, fe, ba, lr, la, tr, ta, rfl, rfl, rfl, hok, hf1, hpa, hf2, hdk, hld⟩, fun H A hP hD => ⟨hP.sub [23, 0, 1, 2, 3, 24, 25, 4, 5, 6, 7, 8, 9, 10, 11, 12, 13, 14, 15, 16, 17, 18, 19, 20, 21, 22] rfl, hD.sub [23, 0, 1, 2, 3, 24, 25, 4, 5, 6, 7, 8, 9, 10, 11, 12, 13, 14, 15, 16, 17, 18, 19, 20, 21, 22] (by decide) rfl⟩⟩
set_option maxHeartbeats 4000000 in
set_option maxRecDepth 100000 in
theorem bM_word (l : Launch) (g : si_G) (y0 : Nat) (ab : si_AB) (ws : va_W) (q : Int32) (h : si_MR g y0 ab ws) : si_Ml (S := va_W) l g vwCl zyM_word zwM_word ({ frames := 0, cells := 0, slots := 0, locals := 0 } : Room) [.ref y0, .int q] ws (fun r u => ∃ ab', st_word ab q r ab' ∧ si_MR g y0 ab' u) (fun u => u) := by
  obtain ⟨wr, pa, dk, ld⟩ := ab
  obtain ⟨mW, mD, mT, mP, mR, mA, mK, mO, mB, mI, mN, mH, mC, zs, zt, zn, ze, za, zm, f1, ft, fp, fr, fa, fk, fo, fb, fn, fh, fc, fd, fi, rfl, hz1, hz2, hok, hf1, hpa, hf2, hdk, hld⟩ := h
  have hz1 : zs = nI wr.length := hz1
  have hz2 : za = nI pa.length := hz2
  subst hz1 hz2
  have hok : si_ok wr := hok
  have hpa : si_okp pa := hpa
  have hf1 : si_ln wr f1 := hf1
  have hf2 : si_ln pa fa := hf2
  have hdk : ∀ k, k < 23 → fd k = dk k := hdk
  refine (cM_word l g y0 mW mD mT mP mR mA mK mO mB mI mN mH mC (nI wr.length) zt zn ze (nI pa.length) zm fd q).lift (wr := [(mW, .inl (g.2.1, 60, .inl f1)), (mT, .inl (g.2.1, 61, .inl ft)), (mP, .inl (g.2.1, 61, .inl fp)), (mR, .inl (g.2.1, 61, .inl fr)), (mA, .inl (g.2.1, 20, .inl fa)), (mK, .inl (g.2.1, 61, .inl fk)), (mO, .inl (g.2.1, 61, .inl fo)), (mB, .inl (g.2.1, 61, .inl fb)), (mI, .inl (g.2.2, 23, .inr (.inl fi))), (mN, .inl (g.2.1, 61, .inl fn)), (mH, .inl (g.2.1, 61, .inl fh)), (mC, .inl (g.2.1, 61, .inl fc))]) [0, 2] [1, 3, 4, 5, 6, 7, 8, 9, 10, 11, 12, 13] rfl rfl (by decide) (by decide) (fun r u hq => ?_)
  exact ⟨_, ⟨(wr, pa, dk, ld), ⟨(show r = _ from hq).trans (si_wq_congr hdk q), rfl⟩, mW, mD, mT, mP, mR, mA, mK, mO, mB, mI, mN, mH, mC, nI wr.length, zt, zn, ze, nI pa.length, zm, f1, ft, fp, fr, fa, fk, fo, fb, fn, fh, fc, fd, fi, rfl, rfl, rfl, hok, hf1, hpa, hf2, hdk, hld⟩, fun H A hP hD => ⟨hP.sub [12, 0, 13, 1, 2, 3, 4, 5, 6, 7, 8, 9, 10, 11] rfl, hD.sub [12, 0, 13, 1, 2, 3, 4, 5, 6, 7, 8, 9, 10, 11] (by decide) rfl⟩⟩
set_option maxHeartbeats 4000000 in
set_option maxRecDepth 100000 in
theorem bX_put (l : Launch) (g : si_G) (x0 : Nat) (ab : si_AB) (ws : va_W) (q : Int32) (x : Int64) (h : si_XR g x0 ab ws) : si_Mi (S := va_W) l g vwCl zyX_put zwX_put ({ frames := 1, cells := 0, slots := 0, locals := 20 } : Room) [.ref x0, .int q, .long x] ws (fun r u => ∃ ab', st_put ab q x r ab' ∧ si_XR g x0 ab' u) (fun u => u) := by
  obtain ⟨wr, pa, dk, ld⟩ := ab
  obtain ⟨xw, xwa, xp, xpa, xd, xda, xe, xea, xb, b1, b2, b3, b4, xl, lt, lta, lz, lsr, lsp, xt, tt, tta, tz, tsr, tsp, s1, s2, lsz, tsz, f1, f2, fc, fo, fn, ff, lf, lfr, lfp, tf, tfr, tfp, fw, fe, ba, lr, la, tr, ta, rfl, hz1, hz2, hok, hf1, hpa, hf2, hdk, hld⟩ := h
  have hz1 : s1 = wr.length := hz1
  have hz2 : s2 = pa.length := hz2
  subst hz1 hz2
  have hok : si_ok wr := hok
  have hpa : si_okp pa := hpa
  have hf1 : si_ln wr f1 := hf1
  have hf2 : si_ln pa f2 := hf2
  have hdk : ∀ k, k < 23 → fw k = dk k := hdk
  refine (cX_put l g x0 xw xp xd xe xb xl xt xda fw q x).lift (wr := [(xw, .inr (2, [.ref xwa, .int (nI wr.length)])), (xwa, .inl (g.2.1, 60, .inl f1)), (xp, .inr (2, [.ref xpa, .int (nI pa.length)])), (xpa, .inl (g.2.1, 20, .inl f2)), (xe, .inr (1, [.ref xea])), (xea, .inl (g.2.2, 23, .inr (.inl fe))), (xb, .inr (0, [.ref b1, .ref b2, .ref b3, .ref b4, .int ba])), (b1, .inl (g.2.1, 61, .inl fc)), (b2, .inl (g.2.1, 61, .inl fo)), (b3, .inl (g.2.1, 61, .inl fn)), (b4, .inl (g.2.1, 61, .inl ff)), (xl, .inr (3, [.ref lt, .ref lz, .int lr])), (lt, .inr (2, [.ref lta, .int (nI lsz)])), (lta, .inl (g.2.1, 60, .inl lf)), (lz, .inr (4, [.ref lsr, .ref lsp, .int la])), (lsr, .inl (g.2.1, 61, .inl lfr)), (lsp, .inl (g.2.1, 61, .inl lfp)), (xt, .inr (3, [.ref tt, .ref tz, .int tr])), (tt, .inr (2, [.ref tta, .int (nI tsz)])), (tta, .inl (g.2.1, 60, .inl tf)), (tz, .inr (4, [.ref tsr, .ref tsp, .int ta])), (tsr, .inl (g.2.1, 61, .inl tfr)), (tsp, .inl (g.2.1, 61, .inl tfp))]) [0, 5, 6] [1, 2, 3, 4, 7, 8, 9, 10, 11, 12, 13, 14, 15, 16, 17, 18, 19, 20, 21, 22, 23, 24, 25] rfl rfl (by decide) (by decide) (fun r u hq => ?_)
  obtain ⟨hr, ht, hf⟩ := hq
  cases hd : si_isW q with
  | true =>
    have e := ht hd
    subst e
    exact ⟨_, ⟨(wr, pa, vp_updL dk q.toNatClampNeg x, ld), ⟨hr, (if_pos hd).symm⟩, xw, xwa, xp, xpa, xd, xda, xe, xea, xb, b1, b2, b3, b4, xl, lt, lta, lz, lsr, lsp, xt, tt, tta, tz, tsr, tsp, wr.length, pa.length, lsz, tsz, f1, f2, fc, fo, fn, ff, lf, lfr, lfp, tf, tfr, tfp, vp_updL fw q.toNatClampNeg x, fe, ba, lr, la, tr, ta, rfl, rfl, rfl, hok, hf1, hpa, hf2, si_upd_congr hdk _ _, hld⟩, fun H A hP hD => ⟨hP.sub [23, 0, 1, 2, 3, 24, 25, 4, 5, 6, 7, 8, 9, 10, 11, 12, 13, 14, 15, 16, 17, 18, 19, 20, 21, 22] rfl, hD.sub [23, 0, 1, 2, 3, 24, 25, 4, 5, 6, 7, 8, 9, 10, 11, 12, 13, 14, 15, 16, 17, 18, 19, 20, 21, 22] (by decide) rfl⟩⟩
  | false =>
    have e : fw = u := (hf hd).symm
    subst e
    exact ⟨_, ⟨(wr, pa, dk, ld), ⟨hr, (if_neg (by rw [hd]; decide)).symm⟩, xw, xwa, xp, xpa, xd, xda, xe, xea, xb, b1, b2, b3, b4, xl, lt, lta, lz, lsr, lsp, xt, tt, tta, tz, tsr, tsp, wr.length, pa.length, lsz, tsz, f1, f2, fc, fo, fn, ff, lf, lfr, lfp, tf, tfr, tfp, fw, fe, ba, lr, la, tr, ta, rfl, rfl, rfl, hok, hf1, hpa, hf2, hdk, hld⟩, fun H A hP hD => ⟨hP.sub [23, 0, 1, 2, 3, 24, 25, 4, 5, 6, 7, 8, 9, 10, 11, 12, 13, 14, 15, 16, 17, 18, 19, 20, 21, 22] rfl, hD.sub [23, 0, 1, 2, 3, 24, 25, 4, 5, 6, 7, 8, 9, 10, 11, 12, 13, 14, 15, 16, 17, 18, 19, 20, 21, 22] (by decide) rfl⟩⟩
set_option maxHeartbeats 4000000 in
set_option maxRecDepth 100000 in
theorem bX_flip (l : Launch) (g : si_G) (x0 : Nat) (ab : si_AB) (ws : va_W) (q q2 : Int32) (h : si_XR g x0 ab ws) : si_Mi (S := va_W) l g vwCl zyX_flip zwX_flip ({ frames := 1, cells := 0, slots := 0, locals := 20 } : Room) [.ref x0, .int q, .int q2] ws (fun r u => ∃ ab', st_flip ab q q2 r ab' ∧ si_XR g x0 ab' u) (fun u => u) := by
  obtain ⟨wr, pa, dk, ld⟩ := ab
  obtain ⟨xw, xwa, xp, xpa, xd, xda, xe, xea, xb, b1, b2, b3, b4, xl, lt, lta, lz, lsr, lsp, xt, tt, tta, tz, tsr, tsp, s1, s2, lsz, tsz, f1, f2, fc, fo, fn, ff, lf, lfr, lfp, tf, tfr, tfp, fw, fe, ba, lr, la, tr, ta, rfl, hz1, hz2, hok, hf1, hpa, hf2, hdk, hld⟩ := h
  have hz1 : s1 = wr.length := hz1
  have hz2 : s2 = pa.length := hz2
  subst hz1 hz2
  have hok : si_ok wr := hok
  have hpa : si_okp pa := hpa
  have hf1 : si_ln wr f1 := hf1
  have hf2 : si_ln pa f2 := hf2
  have hdk : ∀ k, k < 23 → fw k = dk k := hdk
  refine (cX_flip l g x0 xw xp xd xe xb xl xt xda fw q q2).lift (wr := [(xw, .inr (2, [.ref xwa, .int (nI wr.length)])), (xwa, .inl (g.2.1, 60, .inl f1)), (xp, .inr (2, [.ref xpa, .int (nI pa.length)])), (xpa, .inl (g.2.1, 20, .inl f2)), (xe, .inr (1, [.ref xea])), (xea, .inl (g.2.2, 23, .inr (.inl fe))), (xb, .inr (0, [.ref b1, .ref b2, .ref b3, .ref b4, .int ba])), (b1, .inl (g.2.1, 61, .inl fc)), (b2, .inl (g.2.1, 61, .inl fo)), (b3, .inl (g.2.1, 61, .inl fn)), (b4, .inl (g.2.1, 61, .inl ff)), (xl, .inr (3, [.ref lt, .ref lz, .int lr])), (lt, .inr (2, [.ref lta, .int (nI lsz)])), (lta, .inl (g.2.1, 60, .inl lf)), (lz, .inr (4, [.ref lsr, .ref lsp, .int la])), (lsr, .inl (g.2.1, 61, .inl lfr)), (lsp, .inl (g.2.1, 61, .inl lfp)), (xt, .inr (3, [.ref tt, .ref tz, .int tr])), (tt, .inr (2, [.ref tta, .int (nI tsz)])), (tta, .inl (g.2.1, 60, .inl tf)), (tz, .inr (4, [.ref tsr, .ref tsp, .int ta])), (tsr, .inl (g.2.1, 61, .inl tfr)), (tsp, .inl (g.2.1, 61, .inl tfp))]) [0, 5, 6] [1, 2, 3, 4, 7, 8, 9, 10, 11, 12, 13, 14, 15, 16, 17, 18, 19, 20, 21, 22, 23, 24, 25] rfl rfl (by decide) (by decide) (fun r u hq => ?_)
  obtain ⟨hr, ht, hf⟩ := hq
  cases hd : (si_isW q && si_isB q2) with
  | true =>
    have e := ht hd
    subst e
    have hw : si_isW q = true := (Bool.and_eq_true_iff.mp hd).1
    obtain ⟨j, hj, rfl⟩ := si_isW_t hw
    have e9 : fw (nI j).toNatClampNeg = dk (nI j).toNatClampNeg := by rw [nI_clamp (by omega)]; exact hdk j hj
    have hdk2 : ∀ k, k < 23 → vp_updL fw (nI j).toNatClampNeg (fw (nI j).toNatClampNeg ^^^ ((1 : Int64) <<< (q2.toInt64 &&& 63))) k = vp_updL dk (nI j).toNatClampNeg (dk (nI j).toNatClampNeg ^^^ ((1 : Int64) <<< (q2.toInt64 &&& 63))) k := by
      rw [e9]; exact si_upd_congr hdk _ _
    exact ⟨_, ⟨(wr, pa, vp_updL dk (nI j).toNatClampNeg (dk (nI j).toNatClampNeg ^^^ ((1 : Int64) <<< (q2.toInt64 &&& 63))), ld), ⟨hr, (if_pos hd).symm⟩, xw, xwa, xp, xpa, xd, xda, xe, xea, xb, b1, b2, b3, b4, xl, lt, lta, lz, lsr, lsp, xt, tt, tta, tz, tsr, tsp, wr.length, pa.length, lsz, tsz, f1, f2, fc, fo, fn, ff, lf, lfr, lfp, tf, tfr, tfp, vp_updL fw (nI j).toNatClampNeg (fw (nI j).toNatClampNeg ^^^ ((1 : Int64) <<< (q2.toInt64 &&& 63))), fe, ba, lr, la, tr, ta, rfl, rfl, rfl, hok, hf1, hpa, hf2, hdk2, hld⟩, fun H A hP hD => ⟨hP.sub [23, 0, 1, 2, 3, 24, 25, 4, 5, 6, 7, 8, 9, 10, 11, 12, 13, 14, 15, 16, 17, 18, 19, 20, 21, 22] rfl, hD.sub [23, 0, 1, 2, 3, 24, 25, 4, 5, 6, 7, 8, 9, 10, 11, 12, 13, 14, 15, 16, 17, 18, 19, 20, 21, 22] (by decide) rfl⟩⟩
  | false =>
    have e : fw = u := (hf hd).symm
    subst e
    exact ⟨_, ⟨(wr, pa, dk, ld), ⟨hr, (if_neg (by rw [hd]; decide)).symm⟩, xw, xwa, xp, xpa, xd, xda, xe, xea, xb, b1, b2, b3, b4, xl, lt, lta, lz, lsr, lsp, xt, tt, tta, tz, tsr, tsp, wr.length, pa.length, lsz, tsz, f1, f2, fc, fo, fn, ff, lf, lfr, lfp, tf, tfr, tfp, fw, fe, ba, lr, la, tr, ta, rfl, rfl, rfl, hok, hf1, hpa, hf2, hdk, hld⟩, fun H A hP hD => ⟨hP.sub [23, 0, 1, 2, 3, 24, 25, 4, 5, 6, 7, 8, 9, 10, 11, 12, 13, 14, 15, 16, 17, 18, 19, 20, 21, 22] rfl, hD.sub [23, 0, 1, 2, 3, 24, 25, 4, 5, 6, 7, 8, 9, 10, 11, 12, 13, 14, 15, 16, 17, 18, 19, 20, 21, 22] (by decide) rfl⟩⟩
set_option maxHeartbeats 4000000 in
set_option maxRecDepth 100000 in
theorem bM_put (l : Launch) (g : si_G) (y0 : Nat) (ab : si_AB) (ws : va_W) (q : Int32) (x : Int64) (h : si_MR g y0 ab ws) : si_Mi (S := va_W) l g vwCl zyM_put zwM_put ({ frames := 0, cells := 0, slots := 0, locals := 0 } : Room) [.ref y0, .int q, .long x] ws (fun r u => ∃ ab', st_put ab q x r ab' ∧ si_MR g y0 ab' u) (fun u => u) := by
  obtain ⟨wr, pa, dk, ld⟩ := ab
  obtain ⟨mW, mD, mT, mP, mR, mA, mK, mO, mB, mI, mN, mH, mC, zs, zt, zn, ze, za, zm, f1, ft, fp, fr, fa, fk, fo, fb, fn, fh, fc, fd, fi, rfl, hz1, hz2, hok, hf1, hpa, hf2, hdk, hld⟩ := h
  have hz1 : zs = nI wr.length := hz1
  have hz2 : za = nI pa.length := hz2
  subst hz1 hz2
  have hok : si_ok wr := hok
  have hpa : si_okp pa := hpa
  have hf1 : si_ln wr f1 := hf1
  have hf2 : si_ln pa fa := hf2
  have hdk : ∀ k, k < 23 → fd k = dk k := hdk
  refine (cM_put l g y0 mW mD mT mP mR mA mK mO mB mI mN mH mC (nI wr.length) zt zn ze (nI pa.length) zm fd q x).lift (wr := [(mW, .inl (g.2.1, 60, .inl f1)), (mT, .inl (g.2.1, 61, .inl ft)), (mP, .inl (g.2.1, 61, .inl fp)), (mR, .inl (g.2.1, 61, .inl fr)), (mA, .inl (g.2.1, 20, .inl fa)), (mK, .inl (g.2.1, 61, .inl fk)), (mO, .inl (g.2.1, 61, .inl fo)), (mB, .inl (g.2.1, 61, .inl fb)), (mI, .inl (g.2.2, 23, .inr (.inl fi))), (mN, .inl (g.2.1, 61, .inl fn)), (mH, .inl (g.2.1, 61, .inl fh)), (mC, .inl (g.2.1, 61, .inl fc))]) [0, 2] [1, 3, 4, 5, 6, 7, 8, 9, 10, 11, 12, 13] rfl rfl (by decide) (by decide) (fun r u hq => ?_)
  obtain ⟨hr, ht, hf⟩ := hq
  cases hd : si_isW q with
  | true =>
    have e := ht hd
    subst e
    exact ⟨_, ⟨(wr, pa, vp_updL dk q.toNatClampNeg x, ld), ⟨hr, (if_pos hd).symm⟩, mW, mD, mT, mP, mR, mA, mK, mO, mB, mI, mN, mH, mC, nI wr.length, zt, zn, ze, nI pa.length, zm, f1, ft, fp, fr, fa, fk, fo, fb, fn, fh, fc, vp_updL fd q.toNatClampNeg x, fi, rfl, rfl, rfl, hok, hf1, hpa, hf2, si_upd_congr hdk _ _, hld⟩, fun H A hP hD => ⟨hP.sub [12, 0, 13, 1, 2, 3, 4, 5, 6, 7, 8, 9, 10, 11] rfl, hD.sub [12, 0, 13, 1, 2, 3, 4, 5, 6, 7, 8, 9, 10, 11] (by decide) rfl⟩⟩
  | false =>
    have e : fd = u := (hf hd).symm
    subst e
    exact ⟨_, ⟨(wr, pa, dk, ld), ⟨hr, (if_neg (by rw [hd]; decide)).symm⟩, mW, mD, mT, mP, mR, mA, mK, mO, mB, mI, mN, mH, mC, nI wr.length, zt, zn, ze, nI pa.length, zm, f1, ft, fp, fr, fa, fk, fo, fb, fn, fh, fc, fd, fi, rfl, rfl, rfl, hok, hf1, hpa, hf2, hdk, hld⟩, fun H A hP hD => ⟨hP.sub [12, 0, 13, 1, 2, 3, 4, 5, 6, 7, 8, 9, 10, 11] rfl, hD.sub [12, 0, 13, 1, 2, 3, 4, 5, 6, 7, 8, 9, 10, 11] (by decide) rfl⟩⟩
set_option maxHeartbeats 4000000 in
set_option maxRecDepth 100000 in
theorem bM_flip (l : Launch) (g : si_G) (y0 : Nat) (ab : si_AB) (ws : va_W) (q q2 : Int32) (h : si_MR g y0 ab ws) : si_Mi (S := va_W) l g vwCl zyM_flip zwM_flip ({ frames := 0, cells := 0, slots := 0, locals := 0 } : Room) [.ref y0, .int q, .int q2] ws (fun r u => ∃ ab', st_flip ab q q2 r ab' ∧ si_MR g y0 ab' u) (fun u => u) := by
  obtain ⟨wr, pa, dk, ld⟩ := ab
  obtain ⟨mW, mD, mT, mP, mR, mA, mK, mO, mB, mI, mN, mH, mC, zs, zt, zn, ze, za, zm, f1, ft, fp, fr, fa, fk, fo, fb, fn, fh, fc, fd, fi, rfl, hz1, hz2, hok, hf1, hpa, hf2, hdk, hld⟩ := h
  have hz1 : zs = nI wr.length := hz1
  have hz2 : za = nI pa.length := hz2
  subst hz1 hz2
  have hok : si_ok wr := hok
  have hpa : si_okp pa := hpa
  have hf1 : si_ln wr f1 := hf1
  have hf2 : si_ln pa fa := hf2
  have hdk : ∀ k, k < 23 → fd k = dk k := hdk
  refine (cM_flip l g y0 mW mD mT mP mR mA mK mO mB mI mN mH mC (nI wr.length) zt zn ze (nI pa.length) zm fd q q2).lift (wr := [(mW, .inl (g.2.1, 60, .inl f1)), (mT, .inl (g.2.1, 61, .inl ft)), (mP, .inl (g.2.1, 61, .inl fp)), (mR, .inl (g.2.1, 61, .inl fr)), (mA, .inl (g.2.1, 20, .inl fa)), (mK, .inl (g.2.1, 61, .inl fk)), (mO, .inl (g.2.1, 61, .inl fo)), (mB, .inl (g.2.1, 61, .inl fb)), (mI, .inl (g.2.2, 23, .inr (.inl fi))), (mN, .inl (g.2.1, 61, .inl fn)), (mH, .inl (g.2.1, 61, .inl fh)), (mC, .inl (g.2.1, 61, .inl fc))]) [0, 2] [1, 3, 4, 5, 6, 7, 8, 9, 10, 11, 12, 13] rfl rfl (by decide) (by decide) (fun r u hq => ?_)
  obtain ⟨hr, ht, hf⟩ := hq
  cases hd : (si_isW q && si_isB q2) with
  | true =>
    have e := ht hd
    subst e
    have hw : si_isW q = true := (Bool.and_eq_true_iff.mp hd).1
    obtain ⟨j, hj, rfl⟩ := si_isW_t hw
    have e9 : fd (nI j).toNatClampNeg = dk (nI j).toNatClampNeg := by rw [nI_clamp (by omega)]; exact hdk j hj
    have hdk2 : ∀ k, k < 23 → vp_updL fd (nI j).toNatClampNeg (fd (nI j).toNatClampNeg ^^^ ((1 : Int64) <<< (q2.toInt64 &&& 63))) k = vp_updL dk (nI j).toNatClampNeg (dk (nI j).toNatClampNeg ^^^ ((1 : Int64) <<< (q2.toInt64 &&& 63))) k := by
      rw [e9]; exact si_upd_congr hdk _ _
    exact ⟨_, ⟨(wr, pa, vp_updL dk (nI j).toNatClampNeg (dk (nI j).toNatClampNeg ^^^ ((1 : Int64) <<< (q2.toInt64 &&& 63))), ld), ⟨hr, (if_pos hd).symm⟩, mW, mD, mT, mP, mR, mA, mK, mO, mB, mI, mN, mH, mC, nI wr.length, zt, zn, ze, nI pa.length, zm, f1, ft, fp, fr, fa, fk, fo, fb, fn, fh, fc, vp_updL fd (nI j).toNatClampNeg (fd (nI j).toNatClampNeg ^^^ ((1 : Int64) <<< (q2.toInt64 &&& 63))), fi, rfl, rfl, rfl, hok, hf1, hpa, hf2, hdk2, hld⟩, fun H A hP hD => ⟨hP.sub [12, 0, 13, 1, 2, 3, 4, 5, 6, 7, 8, 9, 10, 11] rfl, hD.sub [12, 0, 13, 1, 2, 3, 4, 5, 6, 7, 8, 9, 10, 11] (by decide) rfl⟩⟩
  | false =>
    have e : fd = u := (hf hd).symm
    subst e
    exact ⟨_, ⟨(wr, pa, dk, ld), ⟨hr, (if_neg (by rw [hd]; decide)).symm⟩, mW, mD, mT, mP, mR, mA, mK, mO, mB, mI, mN, mH, mC, nI wr.length, zt, zn, ze, nI pa.length, zm, f1, ft, fp, fr, fa, fk, fo, fb, fn, fh, fc, fd, fi, rfl, rfl, rfl, hok, hf1, hpa, hf2, hdk, hld⟩, fun H A hP hD => ⟨hP.sub [12, 0, 13, 1, 2, 3, 4, 5, 6, 7, 8, 9, 10, 11] rfl, hD.sub [12, 0, 13, 1, 2, 3, 4, 5, 6, 7, 8, 9, 10, 11] (by decide) rfl⟩⟩
