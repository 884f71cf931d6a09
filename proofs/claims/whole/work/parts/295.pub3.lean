/-! The public methods over the whole objects: the questions. Written by wip/draft/p29.py -/
set_option maxHeartbeats 4000000 in
set_option maxRecDepth 100000 in
theorem bX_length (l : Launch) (g : si_G) (x0 : Nat) (ab : si_AB) (ws : va_W)  (h : si_XR g x0 ab ws) : si_Mi (S := va_W) l g vwCl zyX_length zwX_length ({ frames := 1, cells := 0, slots := 0, locals := 20 } : Room) [.ref x0] ws (fun r u => ∃ ab', st_length ab r ab' ∧ si_XR g x0 ab' u) (fun u => u) := by
  obtain ⟨wr, pa, dk, ld⟩ := ab
  obtain ⟨xw, xwa, xp, xpa, xd, xda, xe, xea, xb, b1, b2, b3, b4, xl, lt, lta, lz, lsr, lsp, xt, tt, tta, tz, tsr, tsp, s1, s2, lsz, tsz, f1, f2, fc, fo, fn, ff, lf, lfr, lfp, tf, tfr, tfp, fw, fe, ba, lr, la, tr, ta, rfl, hz1, hz2, hok, hf1, hpa, hf2, hdk, hld⟩ := h
  have hz1 : s1 = wr.length := hz1
  have hz2 : s2 = pa.length := hz2
  subst hz1 hz2
  have hok : si_ok wr := hok
  have hpa : si_okp pa := hpa
  have hf1 : si_ln wr f1 := hf1
  have hf2 : si_ln pa f2 := hf2
  have hdk : ∀ k, k < 23 → fw k = dk k := hdk
  cases ld with
  | none =>
    have hld : lr = -1 := hld
    subst hld
    refine (cX_length_0 l g x0 xw xp xd xe xb xl xt lt lz).lift (wr := [(xw, .inr (2, [.ref xwa, .int (nI wr.length)])), (xwa, .inl (g.2.1, 60, .inl f1)), (xp, .inr (2, [.ref xpa, .int (nI pa.length)])), (xpa, .inl (g.2.1, 20, .inl f2)), (xd, .inr (1, [.ref xda])), (xda, .inl (g.2.2, 23, .inr (.inl fw))), (xe, .inr (1, [.ref xea])), (xea, .inl (g.2.2, 23, .inr (.inl fe))), (xb, .inr (0, [.ref b1, .ref b2, .ref b3, .ref b4, .int ba])), (b1, .inl (g.2.1, 61, .inl fc)), (b2, .inl (g.2.1, 61, .inl fo)), (b3, .inl (g.2.1, 61, .inl fn)), (b4, .inl (g.2.1, 61, .inl ff)), (lt, .inr (2, [.ref lta, .int (nI lsz)])), (lta, .inl (g.2.1, 60, .inl lf)), (lz, .inr (4, [.ref lsr, .ref lsp, .int la])), (lsr, .inl (g.2.1, 61, .inl lfr)), (lsp, .inl (g.2.1, 61, .inl lfp)), (xt, .inr (3, [.ref tt, .ref tz, .int tr])), (tt, .inr (2, [.ref tta, .int (nI tsz)])), (tta, .inl (g.2.1, 60, .inl tf)), (tz, .inr (4, [.ref tsr, .ref tsp, .int ta])), (tsr, .inl (g.2.1, 61, .inl tfr)), (tsp, .inl (g.2.1, 61, .inl tfp))]) [0, 14] [1, 2, 3, 4, 5, 6, 7, 8, 9, 10, 11, 12, 13, 15, 16, 17, 18, 19, 20, 21, 22, 23, 24, 25] rfl rfl (by decide +kernel) (by decide +kernel) (fun r u hq => ?_)
    exact ⟨_, ⟨(wr, pa, dk, none), ⟨hq, rfl⟩, xw, xwa, xp, xpa, xd, xda, xe, xea, xb, b1, b2, b3, b4, xl, lt, lta, lz, lsr, lsp, xt, tt, tta, tz, tsr, tsp, wr.length, pa.length, lsz, tsz, f1, f2, fc, fo, fn, ff, lf, lfr, lfp, tf, tfr, tfp, fw, fe, ba, -1, la, tr, ta, rfl, rfl, rfl, hok, hf1, hpa, hf2, hdk, rfl⟩, fun H A hP hD => ⟨hP.sub [24, 0, 1, 2, 3, 4, 5, 6, 7, 8, 9, 10, 11, 12, 25, 13, 14, 15, 16, 17, 18, 19, 20, 21, 22, 23] rfl, hD.sub [24, 0, 1, 2, 3, 4, 5, 6, 7, 8, 9, 10, 11, 12, 25, 13, 14, 15, 16, 17, 18, 19, 20, 21, 22, 23] (by decide +kernel) rfl⟩⟩
  | some x =>
    obtain ⟨t, sr⟩ := x
    obtain ⟨hok2, hs1, hs2, e1, e2, hlf, hsu⟩ := hld
    have e1 : lr = nI sr := e1
    have e2 : lsz = t.length := e2
    have hok2 : si_ok t := hok2
    have hs1 : 1 ≤ sr := hs1
    have hs2 : sr ≤ 16 := hs2
    have hlf : si_ln t lf := hlf
    have hsu : si_su t lfr lfp := hsu
    subst e1
    subst e2
    refine (cX_length_1 l g x0 xw xp xd xe xb xl xt lt lz lta sr t hs1 hs2).lift (wr := [(xw, .inr (2, [.ref xwa, .int (nI wr.length)])), (xwa, .inl (g.2.1, 60, .inl f1)), (xp, .inr (2, [.ref xpa, .int (nI pa.length)])), (xpa, .inl (g.2.1, 20, .inl f2)), (xd, .inr (1, [.ref xda])), (xda, .inl (g.2.2, 23, .inr (.inl fw))), (xe, .inr (1, [.ref xea])), (xea, .inl (g.2.2, 23, .inr (.inl fe))), (xb, .inr (0, [.ref b1, .ref b2, .ref b3, .ref b4, .int ba])), (b1, .inl (g.2.1, 61, .inl fc)), (b2, .inl (g.2.1, 61, .inl fo)), (b3, .inl (g.2.1, 61, .inl fn)), (b4, .inl (g.2.1, 61, .inl ff)), (lta, .inl (g.2.1, 60, .inl lf)), (lz, .inr (4, [.ref lsr, .ref lsp, .int la])), (lsr, .inl (g.2.1, 61, .inl lfr)), (lsp, .inl (g.2.1, 61, .inl lfp)), (xt, .inr (3, [.ref tt, .ref tz, .int tr])), (tt, .inr (2, [.ref tta, .int (nI tsz)])), (tta, .inl (g.2.1, 60, .inl tf)), (tz, .inr (4, [.ref tsr, .ref tsp, .int ta])), (tsr, .inl (g.2.1, 61, .inl tfr)), (tsp, .inl (g.2.1, 61, .inl tfp))]) [0, 14, 15] [1, 2, 3, 4, 5, 6, 7, 8, 9, 10, 11, 12, 13, 16, 17, 18, 19, 20, 21, 22, 23, 24, 25] rfl rfl (by decide +kernel) (by decide +kernel) (fun r u hq => ?_)
    exact ⟨_, ⟨(wr, pa, dk, some (t, sr)), ⟨hq, rfl⟩, xw, xwa, xp, xpa, xd, xda, xe, xea, xb, b1, b2, b3, b4, xl, lt, lta, lz, lsr, lsp, xt, tt, tta, tz, tsr, tsp, wr.length, pa.length, t.length, tsz, f1, f2, fc, fo, fn, ff, lf, lfr, lfp, tf, tfr, tfp, fw, fe, ba, nI sr, la, tr, ta, rfl, rfl, rfl, hok, hf1, hpa, hf2, hdk, ⟨hok2, hs1, hs2, rfl, rfl, hlf, hsu⟩⟩, fun H A hP hD => ⟨hP.sub [23, 0, 1, 2, 3, 4, 5, 6, 7, 8, 9, 10, 11, 12, 24, 25, 13, 14, 15, 16, 17, 18, 19, 20, 21, 22] rfl, hD.sub [23, 0, 1, 2, 3, 4, 5, 6, 7, 8, 9, 10, 11, 12, 24, 25, 13, 14, 15, 16, 17, 18, 19, 20, 21, 22] (by decide +kernel) rfl⟩⟩
set_option maxHeartbeats 4000000 in
set_option maxRecDepth 100000 in
theorem bM_length (l : Launch) (g : si_G) (y0 : Nat) (ab : si_AB) (ws : va_W)  (h : si_MR g y0 ab ws) : si_Mi (S := va_W) l g vwCl zyM_length zwM_length ({ frames := 0, cells := 0, slots := 0, locals := 0 } : Room) [.ref y0] ws (fun r u => ∃ ab', st_length ab r ab' ∧ si_MR g y0 ab' u) (fun u => u) := by
  obtain ⟨wr, pa, dk, ld⟩ := ab
  obtain ⟨mW, mD, mT, mP, mR, mA, mK, mO, mB, mI, mN, mH, mC, zs, zt, zn, ze, za, zm, f1, ft, fp, fr, fa, fk, fo, fb, fn, fh, fc, fd, fi, rfl, hz1, hz2, hok, hf1, hpa, hf2, hdk, hld⟩ := h
  have hz1 : zs = nI wr.length := hz1
  have hz2 : za = nI pa.length := hz2
  subst hz1 hz2
  have hok : si_ok wr := hok
  have hpa : si_okp pa := hpa
  have hf1 : si_ln wr f1 := hf1
  have hf2 : si_ln pa fa := hf2
  have hdk : ∀ k, k < 23 → fd k = dk k := hdk
  cases ld with
  | none =>
    have hld : zt = nI 0 := hld
    subst hld
    refine (cM_length_0 l g y0 mW mD mT mP mR mA mK mO mB mI mN mH mC (nI wr.length) zn ze (nI pa.length) zm).lift (wr := [(mW, .inl (g.2.1, 60, .inl f1)), (mD, .inl (g.2.2, 23, .inr (.inl fd))), (mT, .inl (g.2.1, 61, .inl ft)), (mP, .inl (g.2.1, 61, .inl fp)), (mR, .inl (g.2.1, 61, .inl fr)), (mA, .inl (g.2.1, 20, .inl fa)), (mK, .inl (g.2.1, 61, .inl fk)), (mO, .inl (g.2.1, 61, .inl fo)), (mB, .inl (g.2.1, 61, .inl fb)), (mI, .inl (g.2.2, 23, .inr (.inl fi))), (mN, .inl (g.2.1, 61, .inl fn)), (mH, .inl (g.2.1, 61, .inl fh)), (mC, .inl (g.2.1, 61, .inl fc))]) [0] [1, 2, 3, 4, 5, 6, 7, 8, 9, 10, 11, 12, 13] rfl rfl (by decide +kernel) (by decide +kernel) (fun r u hq => ?_)
    exact ⟨_, ⟨(wr, pa, dk, none), ⟨hq, rfl⟩, mW, mD, mT, mP, mR, mA, mK, mO, mB, mI, mN, mH, mC, nI wr.length, nI 0, zn, ze, nI pa.length, zm, f1, ft, fp, fr, fa, fk, fo, fb, fn, fh, fc, fd, fi, rfl, rfl, rfl, hok, hf1, hpa, hf2, hdk, rfl⟩, fun H A hP hD => ⟨hP.sub [13, 0, 1, 2, 3, 4, 5, 6, 7, 8, 9, 10, 11, 12] rfl, hD.sub [13, 0, 1, 2, 3, 4, 5, 6, 7, 8, 9, 10, 11, 12] (by decide +kernel) rfl⟩⟩
  | some x =>
    obtain ⟨t, sr⟩ := x
    obtain ⟨hok2, hs1, hs2, e1, e2, e3, hft, hsu⟩ := hld
    have e1 : zt = nI 1 := e1
    have e2 : zn = nI t.length := e2
    have e3 : ze = nI sr := e3
    have hok2 : si_ok t := hok2
    have hs1 : 1 ≤ sr := hs1
    have hs2 : sr ≤ 16 := hs2
    have hft : ∀ i, i < t.length + 1 → ft i = nI (si_g t i) := hft
    have hsu : si_su t fr fp := hsu
    subst e1
    subst e2
    subst e3
    refine (cM_length_1 l g y0 mW mD mT mP mR mA mK mO mB mI mN mH mC (nI wr.length) (nI sr) (nI pa.length) zm t).lift (wr := [(mW, .inl (g.2.1, 60, .inl f1)), (mD, .inl (g.2.2, 23, .inr (.inl fd))), (mT, .inl (g.2.1, 61, .inl ft)), (mP, .inl (g.2.1, 61, .inl fp)), (mR, .inl (g.2.1, 61, .inl fr)), (mA, .inl (g.2.1, 20, .inl fa)), (mK, .inl (g.2.1, 61, .inl fk)), (mO, .inl (g.2.1, 61, .inl fo)), (mB, .inl (g.2.1, 61, .inl fb)), (mI, .inl (g.2.2, 23, .inr (.inl fi))), (mN, .inl (g.2.1, 61, .inl fn)), (mH, .inl (g.2.1, 61, .inl fh)), (mC, .inl (g.2.1, 61, .inl fc))]) [0] [1, 2, 3, 4, 5, 6, 7, 8, 9, 10, 11, 12, 13] rfl rfl (by decide +kernel) (by decide +kernel) (fun r u hq => ?_)
    exact ⟨_, ⟨(wr, pa, dk, some (t, sr)), ⟨hq, rfl⟩, mW, mD, mT, mP, mR, mA, mK, mO, mB, mI, mN, mH, mC, nI wr.length, nI 1, nI t.length, nI sr, nI pa.length, zm, f1, ft, fp, fr, fa, fk, fo, fb, fn, fh, fc, fd, fi, rfl, rfl, rfl, hok, hf1, hpa, hf2, hdk, ⟨hok2, hs1, hs2, rfl, rfl, rfl, hft, hsu⟩⟩, fun H A hP hD => ⟨hP.sub [13, 0, 1, 2, 3, 4, 5, 6, 7, 8, 9, 10, 11, 12] rfl, hD.sub [13, 0, 1, 2, 3, 4, 5, 6, 7, 8, 9, 10, 11, 12] (by decide +kernel) rfl⟩⟩
set_option maxHeartbeats 4000000 in
set_option maxRecDepth 100000 in
theorem bX_rate (l : Launch) (g : si_G) (x0 : Nat) (ab : si_AB) (ws : va_W)  (h : si_XR g x0 ab ws) : si_Mi (S := va_W) l g vwCl zyX_rate zwX_rate ({ frames := 1, cells := 0, slots := 0, locals := 20 } : Room) [.ref x0] ws (fun r u => ∃ ab', st_rate ab r ab' ∧ si_XR g x0 ab' u) (fun u => u) := by
  obtain ⟨wr, pa, dk, ld⟩ := ab
  obtain ⟨xw, xwa, xp, xpa, xd, xda, xe, xea, xb, b1, b2, b3, b4, xl, lt, lta, lz, lsr, lsp, xt, tt, tta, tz, tsr, tsp, s1, s2, lsz, tsz, f1, f2, fc, fo, fn, ff, lf, lfr, lfp, tf, tfr, tfp, fw, fe, ba, lr, la, tr, ta, rfl, hz1, hz2, hok, hf1, hpa, hf2, hdk, hld⟩ := h
  have hz1 : s1 = wr.length := hz1
  have hz2 : s2 = pa.length := hz2
  subst hz1 hz2
  have hok : si_ok wr := hok
  have hpa : si_okp pa := hpa
  have hf1 : si_ln wr f1 := hf1
  have hf2 : si_ln pa f2 := hf2
  have hdk : ∀ k, k < 23 → fw k = dk k := hdk
  cases ld with
  | none =>
    have hld : lr = -1 := hld
    subst hld
    refine (cX_rate_0 l g x0 xw xp xd xe xb xl xt lt lz).lift (wr := [(xw, .inr (2, [.ref xwa, .int (nI wr.length)])), (xwa, .inl (g.2.1, 60, .inl f1)), (xp, .inr (2, [.ref xpa, .int (nI pa.length)])), (xpa, .inl (g.2.1, 20, .inl f2)), (xd, .inr (1, [.ref xda])), (xda, .inl (g.2.2, 23, .inr (.inl fw))), (xe, .inr (1, [.ref xea])), (xea, .inl (g.2.2, 23, .inr (.inl fe))), (xb, .inr (0, [.ref b1, .ref b2, .ref b3, .ref b4, .int ba])), (b1, .inl (g.2.1, 61, .inl fc)), (b2, .inl (g.2.1, 61, .inl fo)), (b3, .inl (g.2.1, 61, .inl fn)), (b4, .inl (g.2.1, 61, .inl ff)), (lt, .inr (2, [.ref lta, .int (nI lsz)])), (lta, .inl (g.2.1, 60, .inl lf)), (lz, .inr (4, [.ref lsr, .ref lsp, .int la])), (lsr, .inl (g.2.1, 61, .inl lfr)), (lsp, .inl (g.2.1, 61, .inl lfp)), (xt, .inr (3, [.ref tt, .ref tz, .int tr])), (tt, .inr (2, [.ref tta, .int (nI tsz)])), (tta, .inl (g.2.1, 60, .inl tf)), (tz, .inr (4, [.ref tsr, .ref tsp, .int ta])), (tsr, .inl (g.2.1, 61, .inl tfr)), (tsp, .inl (g.2.1, 61, .inl tfp))]) [0, 14] [1, 2, 3, 4, 5, 6, 7, 8, 9, 10, 11, 12, 13, 15, 16, 17, 18, 19, 20, 21, 22, 23, 24, 25] rfl rfl (by decide +kernel) (by decide +kernel) (fun r u hq => ?_)
    exact ⟨_, ⟨(wr, pa, dk, none), ⟨hq, rfl⟩, xw, xwa, xp, xpa, xd, xda, xe, xea, xb, b1, b2, b3, b4, xl, lt, lta, lz, lsr, lsp, xt, tt, tta, tz, tsr, tsp, wr.length, pa.length, lsz, tsz, f1, f2, fc, fo, fn, ff, lf, lfr, lfp, tf, tfr, tfp, fw, fe, ba, -1, la, tr, ta, rfl, rfl, rfl, hok, hf1, hpa, hf2, hdk, rfl⟩, fun H A hP hD => ⟨hP.sub [24, 0, 1, 2, 3, 4, 5, 6, 7, 8, 9, 10, 11, 12, 25, 13, 14, 15, 16, 17, 18, 19, 20, 21, 22, 23] rfl, hD.sub [24, 0, 1, 2, 3, 4, 5, 6, 7, 8, 9, 10, 11, 12, 25, 13, 14, 15, 16, 17, 18, 19, 20, 21, 22, 23] (by decide +kernel) rfl⟩⟩
  | some x =>
    obtain ⟨t, sr⟩ := x
    obtain ⟨hok2, hs1, hs2, e1, e2, hlf, hsu⟩ := hld
    have e1 : lr = nI sr := e1
    have e2 : lsz = t.length := e2
    have hok2 : si_ok t := hok2
    have hs1 : 1 ≤ sr := hs1
    have hs2 : sr ≤ 16 := hs2
    have hlf : si_ln t lf := hlf
    have hsu : si_su t lfr lfp := hsu
    subst e1
    subst e2
    refine (cX_rate_1 l g x0 xw xp xd xe xb xl xt lt lz sr hs1 hs2).lift (wr := [(xw, .inr (2, [.ref xwa, .int (nI wr.length)])), (xwa, .inl (g.2.1, 60, .inl f1)), (xp, .inr (2, [.ref xpa, .int (nI pa.length)])), (xpa, .inl (g.2.1, 20, .inl f2)), (xd, .inr (1, [.ref xda])), (xda, .inl (g.2.2, 23, .inr (.inl fw))), (xe, .inr (1, [.ref xea])), (xea, .inl (g.2.2, 23, .inr (.inl fe))), (xb, .inr (0, [.ref b1, .ref b2, .ref b3, .ref b4, .int ba])), (b1, .inl (g.2.1, 61, .inl fc)), (b2, .inl (g.2.1, 61, .inl fo)), (b3, .inl (g.2.1, 61, .inl fn)), (b4, .inl (g.2.1, 61, .inl ff)), (lt, .inr (2, [.ref lta, .int (nI t.length)])), (lta, .inl (g.2.1, 60, .inl lf)), (lz, .inr (4, [.ref lsr, .ref lsp, .int la])), (lsr, .inl (g.2.1, 61, .inl lfr)), (lsp, .inl (g.2.1, 61, .inl lfp)), (xt, .inr (3, [.ref tt, .ref tz, .int tr])), (tt, .inr (2, [.ref tta, .int (nI tsz)])), (tta, .inl (g.2.1, 60, .inl tf)), (tz, .inr (4, [.ref tsr, .ref tsp, .int ta])), (tsr, .inl (g.2.1, 61, .inl tfr)), (tsp, .inl (g.2.1, 61, .inl tfp))]) [0, 14] [1, 2, 3, 4, 5, 6, 7, 8, 9, 10, 11, 12, 13, 15, 16, 17, 18, 19, 20, 21, 22, 23, 24, 25] rfl rfl (by decide +kernel) (by decide +kernel) (fun r u hq => ?_)
    exact ⟨_, ⟨(wr, pa, dk, some (t, sr)), ⟨hq, rfl⟩, xw, xwa, xp, xpa, xd, xda, xe, xea, xb, b1, b2, b3, b4, xl, lt, lta, lz, lsr, lsp, xt, tt, tta, tz, tsr, tsp, wr.length, pa.length, t.length, tsz, f1, f2, fc, fo, fn, ff, lf, lfr, lfp, tf, tfr, tfp, fw, fe, ba, nI sr, la, tr, ta, rfl, rfl, rfl, hok, hf1, hpa, hf2, hdk, ⟨hok2, hs1, hs2, rfl, rfl, hlf, hsu⟩⟩, fun H A hP hD => ⟨hP.sub [24, 0, 1, 2, 3, 4, 5, 6, 7, 8, 9, 10, 11, 12, 25, 13, 14, 15, 16, 17, 18, 19, 20, 21, 22, 23] rfl, hD.sub [24, 0, 1, 2, 3, 4, 5, 6, 7, 8, 9, 10, 11, 12, 25, 13, 14, 15, 16, 17, 18, 19, 20, 21, 22, 23] (by decide +kernel) rfl⟩⟩
set_option maxHeartbeats 4000000 in
set_option maxRecDepth 100000 in
theorem bM_rate (l : Launch) (g : si_G) (y0 : Nat) (ab : si_AB) (ws : va_W)  (h : si_MR g y0 ab ws) : si_Mi (S := va_W) l g vwCl zyM_rate zwM_rate ({ frames := 0, cells := 0, slots := 0, locals := 0 } : Room) [.ref y0] ws (fun r u => ∃ ab', st_rate ab r ab' ∧ si_MR g y0 ab' u) (fun u => u) := by
  obtain ⟨wr, pa, dk, ld⟩ := ab
  obtain ⟨mW, mD, mT, mP, mR, mA, mK, mO, mB, mI, mN, mH, mC, zs, zt, zn, ze, za, zm, f1, ft, fp, fr, fa, fk, fo, fb, fn, fh, fc, fd, fi, rfl, hz1, hz2, hok, hf1, hpa, hf2, hdk, hld⟩ := h
  have hz1 : zs = nI wr.length := hz1
  have hz2 : za = nI pa.length := hz2
  subst hz1 hz2
  have hok : si_ok wr := hok
  have hpa : si_okp pa := hpa
  have hf1 : si_ln wr f1 := hf1
  have hf2 : si_ln pa fa := hf2
  have hdk : ∀ k, k < 23 → fd k = dk k := hdk
  cases ld with
  | none =>
    have hld : zt = nI 0 := hld
    subst hld
    refine (cM_rate_0 l g y0 mW mD mT mP mR mA mK mO mB mI mN mH mC (nI wr.length) zn ze (nI pa.length) zm).lift (wr := [(mW, .inl (g.2.1, 60, .inl f1)), (mD, .inl (g.2.2, 23, .inr (.inl fd))), (mT, .inl (g.2.1, 61, .inl ft)), (mP, .inl (g.2.1, 61, .inl fp)), (mR, .inl (g.2.1, 61, .inl fr)), (mA, .inl (g.2.1, 20, .inl fa)), (mK, .inl (g.2.1, 61, .inl fk)), (mO, .inl (g.2.1, 61, .inl fo)), (mB, .inl (g.2.1, 61, .inl fb)), (mI, .inl (g.2.2, 23, .inr (.inl fi))), (mN, .inl (g.2.1, 61, .inl fn)), (mH, .inl (g.2.1, 61, .inl fh)), (mC, .inl (g.2.1, 61, .inl fc))]) [0] [1, 2, 3, 4, 5, 6, 7, 8, 9, 10, 11, 12, 13] rfl rfl (by decide +kernel) (by decide +kernel) (fun r u hq => ?_)
    exact ⟨_, ⟨(wr, pa, dk, none), ⟨hq, rfl⟩, mW, mD, mT, mP, mR, mA, mK, mO, mB, mI, mN, mH, mC, nI wr.length, nI 0, zn, ze, nI pa.length, zm, f1, ft, fp, fr, fa, fk, fo, fb, fn, fh, fc, fd, fi, rfl, rfl, rfl, hok, hf1, hpa, hf2, hdk, rfl⟩, fun H A hP hD => ⟨hP.sub [13, 0, 1, 2, 3, 4, 5, 6, 7, 8, 9, 10, 11, 12] rfl, hD.sub [13, 0, 1, 2, 3, 4, 5, 6, 7, 8, 9, 10, 11, 12] (by decide +kernel) rfl⟩⟩
  | some x =>
    obtain ⟨t, sr⟩ := x
    obtain ⟨hok2, hs1, hs2, e1, e2, e3, hft, hsu⟩ := hld
    have e1 : zt = nI 1 := e1
    have e2 : zn = nI t.length := e2
    have e3 : ze = nI sr := e3
    have hok2 : si_ok t := hok2
    have hs1 : 1 ≤ sr := hs1
    have hs2 : sr ≤ 16 := hs2
    have hft : ∀ i, i < t.length + 1 → ft i = nI (si_g t i) := hft
    have hsu : si_su t fr fp := hsu
    subst e1
    subst e2
    subst e3
    refine (cM_rate_1 l g y0 mW mD mT mP mR mA mK mO mB mI mN mH mC (nI wr.length) (nI sr) (nI pa.length) zm t).lift (wr := [(mW, .inl (g.2.1, 60, .inl f1)), (mD, .inl (g.2.2, 23, .inr (.inl fd))), (mT, .inl (g.2.1, 61, .inl ft)), (mP, .inl (g.2.1, 61, .inl fp)), (mR, .inl (g.2.1, 61, .inl fr)), (mA, .inl (g.2.1, 20, .inl fa)), (mK, .inl (g.2.1, 61, .inl fk)), (mO, .inl (g.2.1, 61, .inl fo)), (mB, .inl (g.2.1, 61, .inl fb)), (mI, .inl (g.2.2, 23, .inr (.inl fi))), (mN, .inl (g.2.1, 61, .inl fn)), (mH, .inl (g.2.1, 61, .inl fh)), (mC, .inl (g.2.1, 61, .inl fc))]) [0] [1, 2, 3, 4, 5, 6, 7, 8, 9, 10, 11, 12, 13] rfl rfl (by decide +kernel) (by decide +kernel) (fun r u hq => ?_)
    exact ⟨_, ⟨(wr, pa, dk, some (t, sr)), ⟨hq, rfl⟩, mW, mD, mT, mP, mR, mA, mK, mO, mB, mI, mN, mH, mC, nI wr.length, nI 1, nI t.length, nI sr, nI pa.length, zm, f1, ft, fp, fr, fa, fk, fo, fb, fn, fh, fc, fd, fi, rfl, rfl, rfl, hok, hf1, hpa, hf2, hdk, ⟨hok2, hs1, hs2, rfl, rfl, rfl, hft, hsu⟩⟩, fun H A hP hD => ⟨hP.sub [13, 0, 1, 2, 3, 4, 5, 6, 7, 8, 9, 10, 11, 12] rfl, hD.sub [13, 0, 1, 2, 3, 4, 5, 6, 7, 8, 9, 10, 11, 12] (by decide +kernel) rfl⟩⟩
set_option maxHeartbeats 4000000 in
set_option maxRecDepth 100000 in
theorem bX_charAt (l : Launch) (g : si_G) (x0 : Nat) (ab : si_AB) (ws : va_W) (q : Int32) (h : si_XR g x0 ab ws) : si_Mi (S := va_W) l g vwCl zyX_charAt zwX_charAt ({ frames := 2, cells := 0, slots := 0, locals := 41 } : Room) [.ref x0, .int q] ws (fun r u => ∃ ab', st_charAt ab q r ab' ∧ si_XR g x0 ab' u) (fun u => u) := by
  obtain ⟨wr, pa, dk, ld⟩ := ab
  obtain ⟨xw, xwa, xp, xpa, xd, xda, xe, xea, xb, b1, b2, b3, b4, xl, lt, lta, lz, lsr, lsp, xt, tt, tta, tz, tsr, tsp, s1, s2, lsz, tsz, f1, f2, fc, fo, fn, ff, lf, lfr, lfp, tf, tfr, tfp, fw, fe, ba, lr, la, tr, ta, rfl, hz1, hz2, hok, hf1, hpa, hf2, hdk, hld⟩ := h
  have hz1 : s1 = wr.length := hz1
  have hz2 : s2 = pa.length := hz2
  subst hz1 hz2
  have hok : si_ok wr := hok
  have hpa : si_okp pa := hpa
  have hf1 : si_ln wr f1 := hf1
  have hf2 : si_ln pa f2 := hf2
  have hdk : ∀ k, k < 23 → fw k = dk k := hdk
  cases ld with
  | none =>
    have hld : lr = -1 := hld
    subst hld
    refine (cX_charAt_0 l g x0 xw xp xd xe xb xl xt lt lz q).lift (wr := [(xw, .inr (2, [.ref xwa, .int (nI wr.length)])), (xwa, .inl (g.2.1, 60, .inl f1)), (xp, .inr (2, [.ref xpa, .int (nI pa.length)])), (xpa, .inl (g.2.1, 20, .inl f2)), (xd, .inr (1, [.ref xda])), (xda, .inl (g.2.2, 23, .inr (.inl fw))), (xe, .inr (1, [.ref xea])), (xea, .inl (g.2.2, 23, .inr (.inl fe))), (xb, .inr (0, [.ref b1, .ref b2, .ref b3, .ref b4, .int ba])), (b1, .inl (g.2.1, 61, .inl fc)), (b2, .inl (g.2.1, 61, .inl fo)), (b3, .inl (g.2.1, 61, .inl fn)), (b4, .inl (g.2.1, 61, .inl ff)), (lt, .inr (2, [.ref lta, .int (nI lsz)])), (lta, .inl (g.2.1, 60, .inl lf)), (lz, .inr (4, [.ref lsr, .ref lsp, .int la])), (lsr, .inl (g.2.1, 61, .inl lfr)), (lsp, .inl (g.2.1, 61, .inl lfp)), (xt, .inr (3, [.ref tt, .ref tz, .int tr])), (tt, .inr (2, [.ref tta, .int (nI tsz)])), (tta, .inl (g.2.1, 60, .inl tf)), (tz, .inr (4, [.ref tsr, .ref tsp, .int ta])), (tsr, .inl (g.2.1, 61, .inl tfr)), (tsp, .inl (g.2.1, 61, .inl tfp))]) [0, 14] [1, 2, 3, 4, 5, 6, 7, 8, 9, 10, 11, 12, 13, 15, 16, 17, 18, 19, 20, 21, 22, 23, 24, 25] rfl rfl (by decide +kernel) (by decide +kernel) (fun r u hq => ?_)
    exact ⟨_, ⟨(wr, pa, dk, none), ⟨hq, rfl⟩, xw, xwa, xp, xpa, xd, xda, xe, xea, xb, b1, b2, b3, b4, xl, lt, lta, lz, lsr, lsp, xt, tt, tta, tz, tsr, tsp, wr.length, pa.length, lsz, tsz, f1, f2, fc, fo, fn, ff, lf, lfr, lfp, tf, tfr, tfp, fw, fe, ba, -1, la, tr, ta, rfl, rfl, rfl, hok, hf1, hpa, hf2, hdk, rfl⟩, fun H A hP hD => ⟨hP.sub [24, 0, 1, 2, 3, 4, 5, 6, 7, 8, 9, 10, 11, 12, 25, 13, 14, 15, 16, 17, 18, 19, 20, 21, 22, 23] rfl, hD.sub [24, 0, 1, 2, 3, 4, 5, 6, 7, 8, 9, 10, 11, 12, 25, 13, 14, 15, 16, 17, 18, 19, 20, 21, 22, 23] (by decide +kernel) rfl⟩⟩
  | some x =>
    obtain ⟨t, sr⟩ := x
    obtain ⟨hok2, hs1, hs2, e1, e2, hlf, hsu⟩ := hld
    have e1 : lr = nI sr := e1
    have e2 : lsz = t.length := e2
    have hok2 : si_ok t := hok2
    have hs1 : 1 ≤ sr := hs1
    have hs2 : sr ≤ 16 := hs2
    have hlf : si_ln t lf := hlf
    have hsu : si_su t lfr lfp := hsu
    subst e1
    subst e2
    refine (cX_charAt_1 l g x0 xw xp xd xe xb xl xt lt lz lta sr lf t q hs1 hs2 hok2 hlf).lift (wr := [(xw, .inr (2, [.ref xwa, .int (nI wr.length)])), (xwa, .inl (g.2.1, 60, .inl f1)), (xp, .inr (2, [.ref xpa, .int (nI pa.length)])), (xpa, .inl (g.2.1, 20, .inl f2)), (xd, .inr (1, [.ref xda])), (xda, .inl (g.2.2, 23, .inr (.inl fw))), (xe, .inr (1, [.ref xea])), (xea, .inl (g.2.2, 23, .inr (.inl fe))), (xb, .inr (0, [.ref b1, .ref b2, .ref b3, .ref b4, .int ba])), (b1, .inl (g.2.1, 61, .inl fc)), (b2, .inl (g.2.1, 61, .inl fo)), (b3, .inl (g.2.1, 61, .inl fn)), (b4, .inl (g.2.1, 61, .inl ff)), (lz, .inr (4, [.ref lsr, .ref lsp, .int la])), (lsr, .inl (g.2.1, 61, .inl lfr)), (lsp, .inl (g.2.1, 61, .inl lfp)), (xt, .inr (3, [.ref tt, .ref tz, .int tr])), (tt, .inr (2, [.ref tta, .int (nI tsz)])), (tta, .inl (g.2.1, 60, .inl tf)), (tz, .inr (4, [.ref tsr, .ref tsp, .int ta])), (tsr, .inl (g.2.1, 61, .inl tfr)), (tsp, .inl (g.2.1, 61, .inl tfp))]) [0, 14, 15, 16] [1, 2, 3, 4, 5, 6, 7, 8, 9, 10, 11, 12, 13, 17, 18, 19, 20, 21, 22, 23, 24, 25] rfl rfl (by decide +kernel) (by decide +kernel) (fun r u hq => ?_)
    exact ⟨_, ⟨(wr, pa, dk, some (t, sr)), ⟨hq, rfl⟩, xw, xwa, xp, xpa, xd, xda, xe, xea, xb, b1, b2, b3, b4, xl, lt, lta, lz, lsr, lsp, xt, tt, tta, tz, tsr, tsp, wr.length, pa.length, t.length, tsz, f1, f2, fc, fo, fn, ff, lf, lfr, lfp, tf, tfr, tfp, fw, fe, ba, nI sr, la, tr, ta, rfl, rfl, rfl, hok, hf1, hpa, hf2, hdk, ⟨hok2, hs1, hs2, rfl, rfl, hlf, hsu⟩⟩, fun H A hP hD => ⟨hP.sub [22, 0, 1, 2, 3, 4, 5, 6, 7, 8, 9, 10, 11, 12, 23, 24, 25, 13, 14, 15, 16, 17, 18, 19, 20, 21] rfl, hD.sub [22, 0, 1, 2, 3, 4, 5, 6, 7, 8, 9, 10, 11, 12, 23, 24, 25, 13, 14, 15, 16, 17, 18, 19, 20, 21] (by decide +kernel) rfl⟩⟩
set_option maxHeartbeats 4000000 in
set_option maxRecDepth 100000 in
theorem bM_charAt (l : Launch) (g : si_G) (y0 : Nat) (ab : si_AB) (ws : va_W) (q : Int32) (h : si_MR g y0 ab ws) : si_Mi (S := va_W) l g vwCl zyM_charAt zwM_charAt ({ frames := 1, cells := 0, slots := 0, locals := 21 } : Room) [.ref y0, .int q] ws (fun r u => ∃ ab', st_charAt ab q r ab' ∧ si_MR g y0 ab' u) (fun u => u) := by
  obtain ⟨wr, pa, dk, ld⟩ := ab
  obtain ⟨mW, mD, mT, mP, mR, mA, mK, mO, mB, mI, mN, mH, mC, zs, zt, zn, ze, za, zm, f1, ft, fp, fr, fa, fk, fo, fb, fn, fh, fc, fd, fi, rfl, hz1, hz2, hok, hf1, hpa, hf2, hdk, hld⟩ := h
  have hz1 : zs = nI wr.length := hz1
  have hz2 : za = nI pa.length := hz2
  subst hz1 hz2
  have hok : si_ok wr := hok
  have hpa : si_okp pa := hpa
  have hf1 : si_ln wr f1 := hf1
  have hf2 : si_ln pa fa := hf2
  have hdk : ∀ k, k < 23 → fd k = dk k := hdk
  cases ld with
  | none =>
    have hld : zt = nI 0 := hld
    subst hld
    refine (cM_charAt_0 l g y0 mW mD mT mP mR mA mK mO mB mI mN mH mC (nI wr.length) zn ze (nI pa.length) zm q).lift (wr := [(mW, .inl (g.2.1, 60, .inl f1)), (mD, .inl (g.2.2, 23, .inr (.inl fd))), (mT, .inl (g.2.1, 61, .inl ft)), (mP, .inl (g.2.1, 61, .inl fp)), (mR, .inl (g.2.1, 61, .inl fr)), (mA, .inl (g.2.1, 20, .inl fa)), (mK, .inl (g.2.1, 61, .inl fk)), (mO, .inl (g.2.1, 61, .inl fo)), (mB, .inl (g.2.1, 61, .inl fb)), (mI, .inl (g.2.2, 23, .inr (.inl fi))), (mN, .inl (g.2.1, 61, .inl fn)), (mH, .inl (g.2.1, 61, .inl fh)), (mC, .inl (g.2.1, 61, .inl fc))]) [0] [1, 2, 3, 4, 5, 6, 7, 8, 9, 10, 11, 12, 13] rfl rfl (by decide +kernel) (by decide +kernel) (fun r u hq => ?_)
    exact ⟨_, ⟨(wr, pa, dk, none), ⟨hq, rfl⟩, mW, mD, mT, mP, mR, mA, mK, mO, mB, mI, mN, mH, mC, nI wr.length, nI 0, zn, ze, nI pa.length, zm, f1, ft, fp, fr, fa, fk, fo, fb, fn, fh, fc, fd, fi, rfl, rfl, rfl, hok, hf1, hpa, hf2, hdk, rfl⟩, fun H A hP hD => ⟨hP.sub [13, 0, 1, 2, 3, 4, 5, 6, 7, 8, 9, 10, 11, 12] rfl, hD.sub [13, 0, 1, 2, 3, 4, 5, 6, 7, 8, 9, 10, 11, 12] (by decide +kernel) rfl⟩⟩
  | some x =>
    obtain ⟨t, sr⟩ := x
    obtain ⟨hok2, hs1, hs2, e1, e2, e3, hft, hsu⟩ := hld
    have e1 : zt = nI 1 := e1
    have e2 : zn = nI t.length := e2
    have e3 : ze = nI sr := e3
    have hok2 : si_ok t := hok2
    have hs1 : 1 ≤ sr := hs1
    have hs2 : sr ≤ 16 := hs2
    have hft : ∀ i, i < t.length + 1 → ft i = nI (si_g t i) := hft
    have hsu : si_su t fr fp := hsu
    subst e1
    subst e2
    subst e3
    refine (cM_charAt_1 l g y0 mW mD mT mP mR mA mK mO mB mI mN mH mC (nI wr.length) (nI sr) (nI pa.length) zm t ft q hok2.1 hft).lift (wr := [(mW, .inl (g.2.1, 60, .inl f1)), (mD, .inl (g.2.2, 23, .inr (.inl fd))), (mP, .inl (g.2.1, 61, .inl fp)), (mR, .inl (g.2.1, 61, .inl fr)), (mA, .inl (g.2.1, 20, .inl fa)), (mK, .inl (g.2.1, 61, .inl fk)), (mO, .inl (g.2.1, 61, .inl fo)), (mB, .inl (g.2.1, 61, .inl fb)), (mI, .inl (g.2.2, 23, .inr (.inl fi))), (mN, .inl (g.2.1, 61, .inl fn)), (mH, .inl (g.2.1, 61, .inl fh)), (mC, .inl (g.2.1, 61, .inl fc))]) [0, 3] [1, 2, 4, 5, 6, 7, 8, 9, 10, 11, 12, 13] rfl rfl (by decide +kernel) (by decide +kernel) (fun r u hq => ?_)
    exact ⟨_, ⟨(wr, pa, dk, some (t, sr)), ⟨hq, rfl⟩, mW, mD, mT, mP, mR, mA, mK, mO, mB, mI, mN, mH, mC, nI wr.length, nI 1, nI t.length, nI sr, nI pa.length, zm, f1, ft, fp, fr, fa, fk, fo, fb, fn, fh, fc, fd, fi, rfl, rfl, rfl, hok, hf1, hpa, hf2, hdk, ⟨hok2, hs1, hs2, rfl, rfl, rfl, hft, hsu⟩⟩, fun H A hP hD => ⟨hP.sub [12, 0, 1, 13, 2, 3, 4, 5, 6, 7, 8, 9, 10, 11] rfl, hD.sub [12, 0, 1, 13, 2, 3, 4, 5, 6, 7, 8, 9, 10, 11] (by decide +kernel) rfl⟩⟩
set_option maxHeartbeats 4000000 in
set_option maxRecDepth 100000 in
theorem bX_rowOf (l : Launch) (g : si_G) (x0 : Nat) (ab : si_AB) (ws : va_W) (q : Int32) (h : si_XR g x0 ab ws) : si_Mi (S := va_W) l g vwCl zyX_rowOf zwX_rowOf ({ frames := 2, cells := 0, slots := 0, locals := 41 } : Room) [.ref x0, .int q] ws (fun r u => ∃ ab', st_rowOf ab q r ab' ∧ si_XR g x0 ab' u) (fun u => u) := by
  obtain ⟨wr, pa, dk, ld⟩ := ab
  obtain ⟨xw, xwa, xp, xpa, xd, xda, xe, xea, xb, b1, b2, b3, b4, xl, lt, lta, lz, lsr, lsp, xt, tt, tta, tz, tsr, tsp, s1, s2, lsz, tsz, f1, f2, fc, fo, fn, ff, lf, lfr, lfp, tf, tfr, tfp, fw, fe, ba, lr, la, tr, ta, rfl, hz1, hz2, hok, hf1, hpa, hf2, hdk, hld⟩ := h
  have hz1 : s1 = wr.length := hz1
  have hz2 : s2 = pa.length := hz2
  subst hz1 hz2
  have hok : si_ok wr := hok
  have hpa : si_okp pa := hpa
  have hf1 : si_ln wr f1 := hf1
  have hf2 : si_ln pa f2 := hf2
  have hdk : ∀ k, k < 23 → fw k = dk k := hdk
  cases ld with
  | none =>
    have hld : lr = -1 := hld
    subst hld
    refine (cX_rowOf_0 l g x0 xw xp xd xe xb xl xt lt lz q).lift (wr := [(xw, .inr (2, [.ref xwa, .int (nI wr.length)])), (xwa, .inl (g.2.1, 60, .inl f1)), (xp, .inr (2, [.ref xpa, .int (nI pa.length)])), (xpa, .inl (g.2.1, 20, .inl f2)), (xd, .inr (1, [.ref xda])), (xda, .inl (g.2.2, 23, .inr (.inl fw))), (xe, .inr (1, [.ref xea])), (xea, .inl (g.2.2, 23, .inr (.inl fe))), (xb, .inr (0, [.ref b1, .ref b2, .ref b3, .ref b4, .int ba])), (b1, .inl (g.2.1, 61, .inl fc)), (b2, .inl (g.2.1, 61, .inl fo)), (b3, .inl (g.2.1, 61, .inl fn)), (b4, .inl (g.2.1, 61, .inl ff)), (lt, .inr (2, [.ref lta, .int (nI lsz)])), (lta, .inl (g.2.1, 60, .inl lf)), (lz, .inr (4, [.ref lsr, .ref lsp, .int la])), (lsr, .inl (g.2.1, 61, .inl lfr)), (lsp, .inl (g.2.1, 61, .inl lfp)), (xt, .inr (3, [.ref tt, .ref tz, .int tr])), (tt, .inr (2, [.ref tta, .int (nI tsz)])), (tta, .inl (g.2.1, 60, .inl tf)), (tz, .inr (4, [.ref tsr, .ref tsp, .int ta])), (tsr, .inl (g.2.1, 61, .inl tfr)), (tsp, .inl (g.2.1, 61, .inl tfp))]) [0, 14] [1, 2, 3, 4, 5, 6, 7, 8, 9, 10, 11, 12, 13, 15, 16, 17, 18, 19, 20, 21, 22, 23, 24, 25] rfl rfl (by decide +kernel) (by decide +kernel) (fun r u hq => ?_)
    exact ⟨_, ⟨(wr, pa, dk, none), ⟨hq, rfl⟩, xw, xwa, xp, xpa, xd, xda, xe, xea, xb, b1, b2, b3, b4, xl, lt, lta, lz, lsr, lsp, xt, tt, tta, tz, tsr, tsp, wr.length, pa.length, lsz, tsz, f1, f2, fc, fo, fn, ff, lf, lfr, lfp, tf, tfr, tfp, fw, fe, ba, -1, la, tr, ta, rfl, rfl, rfl, hok, hf1, hpa, hf2, hdk, rfl⟩, fun H A hP hD => ⟨hP.sub [24, 0, 1, 2, 3, 4, 5, 6, 7, 8, 9, 10, 11, 12, 25, 13, 14, 15, 16, 17, 18, 19, 20, 21, 22, 23] rfl, hD.sub [24, 0, 1, 2, 3, 4, 5, 6, 7, 8, 9, 10, 11, 12, 25, 13, 14, 15, 16, 17, 18, 19, 20, 21, 22, 23] (by decide +kernel) rfl⟩⟩
  | some x =>
    obtain ⟨t, sr⟩ := x
    obtain ⟨hok2, hs1, hs2, e1, e2, hlf, hsu⟩ := hld
    have e1 : lr = nI sr := e1
    have e2 : lsz = t.length := e2
    have hok2 : si_ok t := hok2
    have hs1 : 1 ≤ sr := hs1
    have hs2 : sr ≤ 16 := hs2
    have hlf : si_ln t lf := hlf
    have hsu : si_su t lfr lfp := hsu
    subst e1
    subst e2
    refine (cX_rowOf_1 l g x0 xw xp xd xe xb xl xt lt lz lta lsr lsp sr lfr la t q hs1 hs2 hok2 hsu.1).lift (wr := [(xw, .inr (2, [.ref xwa, .int (nI wr.length)])), (xwa, .inl (g.2.1, 60, .inl f1)), (xp, .inr (2, [.ref xpa, .int (nI pa.length)])), (xpa, .inl (g.2.1, 20, .inl f2)), (xd, .inr (1, [.ref xda])), (xda, .inl (g.2.2, 23, .inr (.inl fw))), (xe, .inr (1, [.ref xea])), (xea, .inl (g.2.2, 23, .inr (.inl fe))), (xb, .inr (0, [.ref b1, .ref b2, .ref b3, .ref b4, .int ba])), (b1, .inl (g.2.1, 61, .inl fc)), (b2, .inl (g.2.1, 61, .inl fo)), (b3, .inl (g.2.1, 61, .inl fn)), (b4, .inl (g.2.1, 61, .inl ff)), (lta, .inl (g.2.1, 60, .inl lf)), (lsp, .inl (g.2.1, 61, .inl lfp)), (xt, .inr (3, [.ref tt, .ref tz, .int tr])), (tt, .inr (2, [.ref tta, .int (nI tsz)])), (tta, .inl (g.2.1, 60, .inl tf)), (tz, .inr (4, [.ref tsr, .ref tsp, .int ta])), (tsr, .inl (g.2.1, 61, .inl tfr)), (tsp, .inl (g.2.1, 61, .inl tfp))]) [0, 14, 15, 17, 18] [1, 2, 3, 4, 5, 6, 7, 8, 9, 10, 11, 12, 13, 16, 19, 20, 21, 22, 23, 24, 25] rfl rfl (by decide +kernel) (by decide +kernel) (fun r u hq => ?_)
    exact ⟨_, ⟨(wr, pa, dk, some (t, sr)), ⟨hq, rfl⟩, xw, xwa, xp, xpa, xd, xda, xe, xea, xb, b1, b2, b3, b4, xl, lt, lta, lz, lsr, lsp, xt, tt, tta, tz, tsr, tsp, wr.length, pa.length, t.length, tsz, f1, f2, fc, fo, fn, ff, lf, lfr, lfp, tf, tfr, tfp, fw, fe, ba, nI sr, la, tr, ta, rfl, rfl, rfl, hok, hf1, hpa, hf2, hdk, ⟨hok2, hs1, hs2, rfl, rfl, hlf, hsu⟩⟩, fun H A hP hD => ⟨hP.sub [21, 0, 1, 2, 3, 4, 5, 6, 7, 8, 9, 10, 11, 12, 22, 23, 13, 24, 25, 14, 15, 16, 17, 18, 19, 20] rfl, hD.sub [21, 0, 1, 2, 3, 4, 5, 6, 7, 8, 9, 10, 11, 12, 22, 23, 13, 24, 25, 14, 15, 16, 17, 18, 19, 20] (by decide +kernel) rfl⟩⟩
set_option maxHeartbeats 4000000 in
set_option maxRecDepth 100000 in
theorem bM_rowOf (l : Launch) (g : si_G) (y0 : Nat) (ab : si_AB) (ws : va_W) (q : Int32) (h : si_MR g y0 ab ws) : si_Mi (S := va_W) l g vwCl zyM_rowOf zwM_rowOf ({ frames := 1, cells := 0, slots := 0, locals := 21 } : Room) [.ref y0, .int q] ws (fun r u => ∃ ab', st_rowOf ab q r ab' ∧ si_MR g y0 ab' u) (fun u => u) := by
  obtain ⟨wr, pa, dk, ld⟩ := ab
  obtain ⟨mW, mD, mT, mP, mR, mA, mK, mO, mB, mI, mN, mH, mC, zs, zt, zn, ze, za, zm, f1, ft, fp, fr, fa, fk, fo, fb, fn, fh, fc, fd, fi, rfl, hz1, hz2, hok, hf1, hpa, hf2, hdk, hld⟩ := h
  have hz1 : zs = nI wr.length := hz1
  have hz2 : za = nI pa.length := hz2
  subst hz1 hz2
  have hok : si_ok wr := hok
  have hpa : si_okp pa := hpa
  have hf1 : si_ln wr f1 := hf1
  have hf2 : si_ln pa fa := hf2
  have hdk : ∀ k, k < 23 → fd k = dk k := hdk
  cases ld with
  | none =>
    have hld : zt = nI 0 := hld
    subst hld
    refine (cM_rowOf_0 l g y0 mW mD mT mP mR mA mK mO mB mI mN mH mC (nI wr.length) zn ze (nI pa.length) zm q).lift (wr := [(mW, .inl (g.2.1, 60, .inl f1)), (mD, .inl (g.2.2, 23, .inr (.inl fd))), (mT, .inl (g.2.1, 61, .inl ft)), (mP, .inl (g.2.1, 61, .inl fp)), (mR, .inl (g.2.1, 61, .inl fr)), (mA, .inl (g.2.1, 20, .inl fa)), (mK, .inl (g.2.1, 61, .inl fk)), (mO, .inl (g.2.1, 61, .inl fo)), (mB, .inl (g.2.1, 61, .inl fb)), (mI, .inl (g.2.2, 23, .inr (.inl fi))), (mN, .inl (g.2.1, 61, .inl fn)), (mH, .inl (g.2.1, 61, .inl fh)), (mC, .inl (g.2.1, 61, .inl fc))]) [0] [1, 2, 3, 4, 5, 6, 7, 8, 9, 10, 11, 12, 13] rfl rfl (by decide +kernel) (by decide +kernel) (fun r u hq => ?_)
    exact ⟨_, ⟨(wr, pa, dk, none), ⟨hq, rfl⟩, mW, mD, mT, mP, mR, mA, mK, mO, mB, mI, mN, mH, mC, nI wr.length, nI 0, zn, ze, nI pa.length, zm, f1, ft, fp, fr, fa, fk, fo, fb, fn, fh, fc, fd, fi, rfl, rfl, rfl, hok, hf1, hpa, hf2, hdk, rfl⟩, fun H A hP hD => ⟨hP.sub [13, 0, 1, 2, 3, 4, 5, 6, 7, 8, 9, 10, 11, 12] rfl, hD.sub [13, 0, 1, 2, 3, 4, 5, 6, 7, 8, 9, 10, 11, 12] (by decide +kernel) rfl⟩⟩
  | some x =>
    obtain ⟨t, sr⟩ := x
    obtain ⟨hok2, hs1, hs2, e1, e2, e3, hft, hsu⟩ := hld
    have e1 : zt = nI 1 := e1
    have e2 : zn = nI t.length := e2
    have e3 : ze = nI sr := e3
    have hok2 : si_ok t := hok2
    have hs1 : 1 ≤ sr := hs1
    have hs2 : sr ≤ 16 := hs2
    have hft : ∀ i, i < t.length + 1 → ft i = nI (si_g t i) := hft
    have hsu : si_su t fr fp := hsu
    subst e1
    subst e2
    subst e3
    refine (cM_rowOf_1 l g y0 mW mD mT mP mR mA mK mO mB mI mN mH mC (nI wr.length) (nI sr) (nI pa.length) zm t fr q hok2.1 hsu.1).lift (wr := [(mW, .inl (g.2.1, 60, .inl f1)), (mD, .inl (g.2.2, 23, .inr (.inl fd))), (mT, .inl (g.2.1, 61, .inl ft)), (mP, .inl (g.2.1, 61, .inl fp)), (mA, .inl (g.2.1, 20, .inl fa)), (mK, .inl (g.2.1, 61, .inl fk)), (mO, .inl (g.2.1, 61, .inl fo)), (mB, .inl (g.2.1, 61, .inl fb)), (mI, .inl (g.2.2, 23, .inr (.inl fi))), (mN, .inl (g.2.1, 61, .inl fn)), (mH, .inl (g.2.1, 61, .inl fh)), (mC, .inl (g.2.1, 61, .inl fc))]) [0, 5] [1, 2, 3, 4, 6, 7, 8, 9, 10, 11, 12, 13] rfl rfl (by decide +kernel) (by decide +kernel) (fun r u hq => ?_)
    exact ⟨_, ⟨(wr, pa, dk, some (t, sr)), ⟨hq, rfl⟩, mW, mD, mT, mP, mR, mA, mK, mO, mB, mI, mN, mH, mC, nI wr.length, nI 1, nI t.length, nI sr, nI pa.length, zm, f1, ft, fp, fr, fa, fk, fo, fb, fn, fh, fc, fd, fi, rfl, rfl, rfl, hok, hf1, hpa, hf2, hdk, ⟨hok2, hs1, hs2, rfl, rfl, rfl, hft, hsu⟩⟩, fun H A hP hD => ⟨hP.sub [12, 0, 1, 2, 3, 13, 4, 5, 6, 7, 8, 9, 10, 11] rfl, hD.sub [12, 0, 1, 2, 3, 13, 4, 5, 6, 7, 8, 9, 10, 11] (by decide +kernel) rfl⟩⟩
set_option maxHeartbeats 4000000 in
set_option maxRecDepth 100000 in
theorem bX_placeOf (l : Launch) (g : si_G) (x0 : Nat) (ab : si_AB) (ws : va_W) (q : Int32) (h : si_XR g x0 ab ws) : si_Mi (S := va_W) l g vwCl zyX_placeOf zwX_placeOf ({ frames := 2, cells := 0, slots := 0, locals := 41 } : Room) [.ref x0, .int q] ws (fun r u => ∃ ab', st_placeOf ab q r ab' ∧ si_XR g x0 ab' u) (fun u => u) := by
  obtain ⟨wr, pa, dk, ld⟩ := ab
  obtain ⟨xw, xwa, xp, xpa, xd, xda, xe, xea, xb, b1, b2, b3, b4, xl, lt, lta, lz, lsr, lsp, xt, tt, tta, tz, tsr, tsp, s1, s2, lsz, tsz, f1, f2, fc, fo, fn, ff, lf, lfr, lfp, tf, tfr, tfp, fw, fe, ba, lr, la, tr, ta, rfl, hz1, hz2, hok, hf1, hpa, hf2, hdk, hld⟩ := h
  have hz1 : s1 = wr.length := hz1
  have hz2 : s2 = pa.length := hz2
  subst hz1 hz2
  have hok : si_ok wr := hok
  have hpa : si_okp pa := hpa
  have hf1 : si_ln wr f1 := hf1
  have hf2 : si_ln pa f2 := hf2
  have hdk : ∀ k, k < 23 → fw k = dk k := hdk
  cases ld with
  | none =>
    have hld : lr = -1 := hld
    subst hld
    refine (cX_placeOf_0 l g x0 xw xp xd xe xb xl xt lt lz q).lift (wr := [(xw, .inr (2, [.ref xwa, .int (nI wr.length)])), (xwa, .inl (g.2.1, 60, .inl f1)), (xp, .inr (2, [.ref xpa, .int (nI pa.length)])), (xpa, .inl (g.2.1, 20, .inl f2)), (xd, .inr (1, [.ref xda])), (xda, .inl (g.2.2, 23, .inr (.inl fw))), (xe, .inr (1, [.ref xea])), (xea, .inl (g.2.2, 23, .inr (.inl fe))), (xb, .inr (0, [.ref b1, .ref b2, .ref b3, .ref b4, .int ba])), (b1, .inl (g.2.1, 61, .inl fc)), (b2, .inl (g.2.1, 61, .inl fo)), (b3, .inl (g.2.1, 61, .inl fn)), (b4, .inl (g.2.1, 61, .inl ff)), (lt, .inr (2, [.ref lta, .int (nI lsz)])), (lta, .inl (g.2.1, 60, .inl lf)), (lz, .inr (4, [.ref lsr, .ref lsp, .int la])), (lsr, .inl (g.2.1, 61, .inl lfr)), (lsp, .inl (g.2.1, 61, .inl lfp)), (xt, .inr (3, [.ref tt, .ref tz, .int tr])), (tt, .inr (2, [.ref tta, .int (nI tsz)])), (tta, .inl (g.2.1, 60, .inl tf)), (tz, .inr (4, [.ref tsr, .ref tsp, .int ta])), (tsr, .inl (g.2.1, 61, .inl tfr)), (tsp, .inl (g.2.1, 61, .inl tfp))]) [0, 14] [1, 2, 3, 4, 5, 6, 7, 8, 9, 10, 11, 12, 13, 15, 16, 17, 18, 19, 20, 21, 22, 23, 24, 25] rfl rfl (by decide +kernel) (by decide +kernel) (fun r u hq => ?_)
    exact ⟨_, ⟨(wr, pa, dk, none), ⟨hq, rfl⟩, xw, xwa, xp, xpa, xd, xda, xe, xea, xb, b1, b2, b3, b4, xl, lt, lta, lz, lsr, lsp, xt, tt, tta, tz, tsr, tsp, wr.length, pa.length, lsz, tsz, f1, f2, fc, fo, fn, ff, lf, lfr, lfp, tf, tfr, tfp, fw, fe, ba, -1, la, tr, ta, rfl, rfl, rfl, hok, hf1, hpa, hf2, hdk, rfl⟩, fun H A hP hD => ⟨hP.sub [24, 0, 1, 2, 3, 4, 5, 6, 7, 8, 9, 10, 11, 12, 25, 13, 14, 15, 16, 17, 18, 19, 20, 21, 22, 23] rfl, hD.sub [24, 0, 1, 2, 3, 4, 5, 6, 7, 8, 9, 10, 11, 12, 25, 13, 14, 15, 16, 17, 18, 19, 20, 21, 22, 23] (by decide +kernel) rfl⟩⟩
  | some x =>
    obtain ⟨t, sr⟩ := x
    obtain ⟨hok2, hs1, hs2, e1, e2, hlf, hsu⟩ := hld
    have e1 : lr = nI sr := e1
    have e2 : lsz = t.length := e2
    have hok2 : si_ok t := hok2
    have hs1 : 1 ≤ sr := hs1
    have hs2 : sr ≤ 16 := hs2
    have hlf : si_ln t lf := hlf
    have hsu : si_su t lfr lfp := hsu
    subst e1
    subst e2
    refine (cX_placeOf_1 l g x0 xw xp xd xe xb xl xt lt lz lta lsr lsp sr lfp la t q hs1 hs2 hok2 hsu.2).lift (wr := [(xw, .inr (2, [.ref xwa, .int (nI wr.length)])), (xwa, .inl (g.2.1, 60, .inl f1)), (xp, .inr (2, [.ref xpa, .int (nI pa.length)])), (xpa, .inl (g.2.1, 20, .inl f2)), (xd, .inr (1, [.ref xda])), (xda, .inl (g.2.2, 23, .inr (.inl fw))), (xe, .inr (1, [.ref xea])), (xea, .inl (g.2.2, 23, .inr (.inl fe))), (xb, .inr (0, [.ref b1, .ref b2, .ref b3, .ref b4, .int ba])), (b1, .inl (g.2.1, 61, .inl fc)), (b2, .inl (g.2.1, 61, .inl fo)), (b3, .inl (g.2.1, 61, .inl fn)), (b4, .inl (g.2.1, 61, .inl ff)), (lta, .inl (g.2.1, 60, .inl lf)), (lsr, .inl (g.2.1, 61, .inl lfr)), (xt, .inr (3, [.ref tt, .ref tz, .int tr])), (tt, .inr (2, [.ref tta, .int (nI tsz)])), (tta, .inl (g.2.1, 60, .inl tf)), (tz, .inr (4, [.ref tsr, .ref tsp, .int ta])), (tsr, .inl (g.2.1, 61, .inl tfr)), (tsp, .inl (g.2.1, 61, .inl tfp))]) [0, 14, 15, 17, 19] [1, 2, 3, 4, 5, 6, 7, 8, 9, 10, 11, 12, 13, 16, 18, 20, 21, 22, 23, 24, 25] rfl rfl (by decide +kernel) (by decide +kernel) (fun r u hq => ?_)
    exact ⟨_, ⟨(wr, pa, dk, some (t, sr)), ⟨hq, rfl⟩, xw, xwa, xp, xpa, xd, xda, xe, xea, xb, b1, b2, b3, b4, xl, lt, lta, lz, lsr, lsp, xt, tt, tta, tz, tsr, tsp, wr.length, pa.length, t.length, tsz, f1, f2, fc, fo, fn, ff, lf, lfr, lfp, tf, tfr, tfp, fw, fe, ba, nI sr, la, tr, ta, rfl, rfl, rfl, hok, hf1, hpa, hf2, hdk, ⟨hok2, hs1, hs2, rfl, rfl, hlf, hsu⟩⟩, fun H A hP hD => ⟨hP.sub [21, 0, 1, 2, 3, 4, 5, 6, 7, 8, 9, 10, 11, 12, 22, 23, 13, 24, 14, 25, 15, 16, 17, 18, 19, 20] rfl, hD.sub [21, 0, 1, 2, 3, 4, 5, 6, 7, 8, 9, 10, 11, 12, 22, 23, 13, 24, 14, 25, 15, 16, 17, 18, 19, 20] (by decide +kernel) rfl⟩⟩
set_option maxHeartbeats 4000000 in
set_option maxRecDepth 100000 in
theorem bM_placeOf (l : Launch) (g : si_G) (y0 : Nat) (ab : si_AB) (ws : va_W) (q : Int32) (h : si_MR g y0 ab ws) : si_Mi (S := va_W) l g vwCl zyM_placeOf zwM_placeOf ({ frames := 1, cells := 0, slots := 0, locals := 21 } : Room) [.ref y0, .int q] ws (fun r u => ∃ ab', st_placeOf ab q r ab' ∧ si_MR g y0 ab' u) (fun u => u) := by
  obtain ⟨wr, pa, dk, ld⟩ := ab
  obtain ⟨mW, mD, mT, mP, mR, mA, mK, mO, mB, mI, mN, mH, mC, zs, zt, zn, ze, za, zm, f1, ft, fp, fr, fa, fk, fo, fb, fn, fh, fc, fd, fi, rfl, hz1, hz2, hok, hf1, hpa, hf2, hdk, hld⟩ := h
  have hz1 : zs = nI wr.length := hz1
  have hz2 : za = nI pa.length := hz2
  subst hz1 hz2
  have hok : si_ok wr := hok
  have hpa : si_okp pa := hpa
  have hf1 : si_ln wr f1 := hf1
  have hf2 : si_ln pa fa := hf2
  have hdk : ∀ k, k < 23 → fd k = dk k := hdk
  cases ld with
  | none =>
    have hld : zt = nI 0 := hld
    subst hld
    refine (cM_placeOf_0 l g y0 mW mD mT mP mR mA mK mO mB mI mN mH mC (nI wr.length) zn ze (nI pa.length) zm q).lift (wr := [(mW, .inl (g.2.1, 60, .inl f1)), (mD, .inl (g.2.2, 23, .inr (.inl fd))), (mT, .inl (g.2.1, 61, .inl ft)), (mP, .inl (g.2.1, 61, .inl fp)), (mR, .inl (g.2.1, 61, .inl fr)), (mA, .inl (g.2.1, 20, .inl fa)), (mK, .inl (g.2.1, 61, .inl fk)), (mO, .inl (g.2.1, 61, .inl fo)), (mB, .inl (g.2.1, 61, .inl fb)), (mI, .inl (g.2.2, 23, .inr (.inl fi))), (mN, .inl (g.2.1, 61, .inl fn)), (mH, .inl (g.2.1, 61, .inl fh)), (mC, .inl (g.2.1, 61, .inl fc))]) [0] [1, 2, 3, 4, 5, 6, 7, 8, 9, 10, 11, 12, 13] rfl rfl (by decide +kernel) (by decide +kernel) (fun r u hq => ?_)
    exact ⟨_, ⟨(wr, pa, dk, none), ⟨hq, rfl⟩, mW, mD, mT, mP, mR, mA, mK, mO, mB, mI, mN, mH, mC, nI wr.length, nI 0, zn, ze, nI pa.length, zm, f1, ft, fp, fr, fa, fk, fo, fb, fn, fh, fc, fd, fi, rfl, rfl, rfl, hok, hf1, hpa, hf2, hdk, rfl⟩, fun H A hP hD => ⟨hP.sub [13, 0, 1, 2, 3, 4, 5, 6, 7, 8, 9, 10, 11, 12] rfl, hD.sub [13, 0, 1, 2, 3, 4, 5, 6, 7, 8, 9, 10, 11, 12] (by decide +kernel) rfl⟩⟩
  | some x =>
    obtain ⟨t, sr⟩ := x
    obtain ⟨hok2, hs1, hs2, e1, e2, e3, hft, hsu⟩ := hld
    have e1 : zt = nI 1 := e1
    have e2 : zn = nI t.length := e2
    have e3 : ze = nI sr := e3
    have hok2 : si_ok t := hok2
    have hs1 : 1 ≤ sr := hs1
    have hs2 : sr ≤ 16 := hs2
    have hft : ∀ i, i < t.length + 1 → ft i = nI (si_g t i) := hft
    have hsu : si_su t fr fp := hsu
    subst e1
    subst e2
    subst e3
    refine (cM_placeOf_1 l g y0 mW mD mT mP mR mA mK mO mB mI mN mH mC (nI wr.length) (nI sr) (nI pa.length) zm t fp q hok2.1 hsu.2).lift (wr := [(mW, .inl (g.2.1, 60, .inl f1)), (mD, .inl (g.2.2, 23, .inr (.inl fd))), (mT, .inl (g.2.1, 61, .inl ft)), (mR, .inl (g.2.1, 61, .inl fr)), (mA, .inl (g.2.1, 20, .inl fa)), (mK, .inl (g.2.1, 61, .inl fk)), (mO, .inl (g.2.1, 61, .inl fo)), (mB, .inl (g.2.1, 61, .inl fb)), (mI, .inl (g.2.2, 23, .inr (.inl fi))), (mN, .inl (g.2.1, 61, .inl fn)), (mH, .inl (g.2.1, 61, .inl fh)), (mC, .inl (g.2.1, 61, .inl fc))]) [0, 4] [1, 2, 3, 5, 6, 7, 8, 9, 10, 11, 12, 13] rfl rfl (by decide +kernel) (by decide +kernel) (fun r u hq => ?_)
    exact ⟨_, ⟨(wr, pa, dk, some (t, sr)), ⟨hq, rfl⟩, mW, mD, mT, mP, mR, mA, mK, mO, mB, mI, mN, mH, mC, nI wr.length, nI 1, nI t.length, nI sr, nI pa.length, zm, f1, ft, fp, fr, fa, fk, fo, fb, fn, fh, fc, fd, fi, rfl, rfl, rfl, hok, hf1, hpa, hf2, hdk, ⟨hok2, hs1, hs2, rfl, rfl, rfl, hft, hsu⟩⟩, fun H A hP hD => ⟨hP.sub [12, 0, 1, 2, 13, 3, 4, 5, 6, 7, 8, 9, 10, 11] rfl, hD.sub [12, 0, 1, 2, 13, 3, 4, 5, 6, 7, 8, 9, 10, 11] (by decide +kernel) rfl⟩⟩
set_option maxHeartbeats 4000000 in
set_option maxRecDepth 100000 in
theorem bX_count (l : Launch) (g : si_G) (x0 : Nat) (ab : si_AB) (ws : va_W)  (h : si_XR g x0 ab ws) : si_Mi (S := va_W) l g vwCl zyX_count zwX_count ({ frames := 3, cells := 0, slots := 0, locals := 65 } : Room) [.ref x0] ws (fun r u => ∃ ab', st_count ab r ab' ∧ si_XR g x0 ab' u) (fun u => u) := by
  obtain ⟨wr, pa, dk, ld⟩ := ab
  obtain ⟨xw, xwa, xp, xpa, xd, xda, xe, xea, xb, b1, b2, b3, b4, xl, lt, lta, lz, lsr, lsp, xt, tt, tta, tz, tsr, tsp, s1, s2, lsz, tsz, f1, f2, fc, fo, fn, ff, lf, lfr, lfp, tf, tfr, tfp, fw, fe, ba, lr, la, tr, ta, rfl, hz1, hz2, hok, hf1, hpa, hf2, hdk, hld⟩ := h
  have hz1 : s1 = wr.length := hz1
  have hz2 : s2 = pa.length := hz2
  subst hz1 hz2
  have hok : si_ok wr := hok
  have hpa : si_okp pa := hpa
  have hf1 : si_ln wr f1 := hf1
  have hf2 : si_ln pa f2 := hf2
  have hdk : ∀ k, k < 23 → fw k = dk k := hdk
  cases ld with
  | none =>
    have hld : lr = -1 := hld
    subst hld
    refine (cX_count_0 l g x0 xw xp xd xe xb xl xt lt lz).lift (wr := [(xw, .inr (2, [.ref xwa, .int (nI wr.length)])), (xwa, .inl (g.2.1, 60, .inl f1)), (xp, .inr (2, [.ref xpa, .int (nI pa.length)])), (xpa, .inl (g.2.1, 20, .inl f2)), (xd, .inr (1, [.ref xda])), (xda, .inl (g.2.2, 23, .inr (.inl fw))), (xe, .inr (1, [.ref xea])), (xea, .inl (g.2.2, 23, .inr (.inl fe))), (xb, .inr (0, [.ref b1, .ref b2, .ref b3, .ref b4, .int ba])), (b1, .inl (g.2.1, 61, .inl fc)), (b2, .inl (g.2.1, 61, .inl fo)), (b3, .inl (g.2.1, 61, .inl fn)), (b4, .inl (g.2.1, 61, .inl ff)), (lt, .inr (2, [.ref lta, .int (nI lsz)])), (lta, .inl (g.2.1, 60, .inl lf)), (lz, .inr (4, [.ref lsr, .ref lsp, .int la])), (lsr, .inl (g.2.1, 61, .inl lfr)), (lsp, .inl (g.2.1, 61, .inl lfp)), (xt, .inr (3, [.ref tt, .ref tz, .int tr])), (tt, .inr (2, [.ref tta, .int (nI tsz)])), (tta, .inl (g.2.1, 60, .inl tf)), (tz, .inr (4, [.ref tsr, .ref tsp, .int ta])), (tsr, .inl (g.2.1, 61, .inl tfr)), (tsp, .inl (g.2.1, 61, .inl tfp))]) [0, 14] [1, 2, 3, 4, 5, 6, 7, 8, 9, 10, 11, 12, 13, 15, 16, 17, 18, 19, 20, 21, 22, 23, 24, 25] rfl rfl (by decide +kernel) (by decide +kernel) (fun r u hq => ?_)
    exact ⟨_, ⟨(wr, pa, dk, none), ⟨hq, rfl⟩, xw, xwa, xp, xpa, xd, xda, xe, xea, xb, b1, b2, b3, b4, xl, lt, lta, lz, lsr, lsp, xt, tt, tta, tz, tsr, tsp, wr.length, pa.length, lsz, tsz, f1, f2, fc, fo, fn, ff, lf, lfr, lfp, tf, tfr, tfp, fw, fe, ba, -1, la, tr, ta, rfl, rfl, rfl, hok, hf1, hpa, hf2, hdk, rfl⟩, fun H A hP hD => ⟨hP.sub [24, 0, 1, 2, 3, 4, 5, 6, 7, 8, 9, 10, 11, 12, 25, 13, 14, 15, 16, 17, 18, 19, 20, 21, 22, 23] rfl, hD.sub [24, 0, 1, 2, 3, 4, 5, 6, 7, 8, 9, 10, 11, 12, 25, 13, 14, 15, 16, 17, 18, 19, 20, 21, 22, 23] (by decide +kernel) rfl⟩⟩
  | some x =>
    obtain ⟨t, sr⟩ := x
    obtain ⟨hok2, hs1, hs2, e1, e2, hlf, hsu⟩ := hld
    have e1 : lr = nI sr := e1
    have e2 : lsz = t.length := e2
    have hok2 : si_ok t := hok2
    have hs1 : 1 ≤ sr := hs1
    have hs2 : sr ≤ 16 := hs2
    have hlf : si_ln t lf := hlf
    have hsu : si_su t lfr lfp := hsu
    subst e1
    subst e2
    refine (cX_count_1 l g x0 xw xp xd xe xb xl xt lt lz lta xpa sr lf f2 t pa hs1 hs2 hok2 hlf hpa.1 hf2 hpa.2).lift (wr := [(xw, .inr (2, [.ref xwa, .int (nI wr.length)])), (xwa, .inl (g.2.1, 60, .inl f1)), (xd, .inr (1, [.ref xda])), (xda, .inl (g.2.2, 23, .inr (.inl fw))), (xe, .inr (1, [.ref xea])), (xea, .inl (g.2.2, 23, .inr (.inl fe))), (xb, .inr (0, [.ref b1, .ref b2, .ref b3, .ref b4, .int ba])), (b1, .inl (g.2.1, 61, .inl fc)), (b2, .inl (g.2.1, 61, .inl fo)), (b3, .inl (g.2.1, 61, .inl fn)), (b4, .inl (g.2.1, 61, .inl ff)), (lz, .inr (4, [.ref lsr, .ref lsp, .int la])), (lsr, .inl (g.2.1, 61, .inl lfr)), (lsp, .inl (g.2.1, 61, .inl lfp)), (xt, .inr (3, [.ref tt, .ref tz, .int tr])), (tt, .inr (2, [.ref tta, .int (nI tsz)])), (tta, .inl (g.2.1, 60, .inl tf)), (tz, .inr (4, [.ref tsr, .ref tsp, .int ta])), (tsr, .inl (g.2.1, 61, .inl tfr)), (tsp, .inl (g.2.1, 61, .inl tfp))]) [0, 14, 15, 16, 3, 4] [1, 2, 5, 6, 7, 8, 9, 10, 11, 12, 13, 17, 18, 19, 20, 21, 22, 23, 24, 25] rfl rfl (by decide +kernel) (by decide +kernel) (fun r u hq => ?_)
    exact ⟨_, ⟨(wr, pa, dk, some (t, sr)), ⟨hq, rfl⟩, xw, xwa, xp, xpa, xd, xda, xe, xea, xb, b1, b2, b3, b4, xl, lt, lta, lz, lsr, lsp, xt, tt, tta, tz, tsr, tsp, wr.length, pa.length, t.length, tsz, f1, f2, fc, fo, fn, ff, lf, lfr, lfp, tf, tfr, tfp, fw, fe, ba, nI sr, la, tr, ta, rfl, rfl, rfl, hok, hf1, hpa, hf2, hdk, ⟨hok2, hs1, hs2, rfl, rfl, hlf, hsu⟩⟩, fun H A hP hD => ⟨hP.sub [20, 0, 1, 24, 25, 2, 3, 4, 5, 6, 7, 8, 9, 10, 21, 22, 23, 11, 12, 13, 14, 15, 16, 17, 18, 19] rfl, hD.sub [20, 0, 1, 24, 25, 2, 3, 4, 5, 6, 7, 8, 9, 10, 21, 22, 23, 11, 12, 13, 14, 15, 16, 17, 18, 19] (by decide +kernel) rfl⟩⟩
set_option maxHeartbeats 4000000 in
set_option maxRecDepth 100000 in
theorem bM_count (l : Launch) (g : si_G) (y0 : Nat) (ab : si_AB) (ws : va_W)  (h : si_MR g y0 ab ws) : si_Mi (S := va_W) l g vwCl zyM_count zwM_count ({ frames := 1, cells := 0, slots := 0, locals := 22 } : Room) [.ref y0] ws (fun r u => ∃ ab', st_count ab r ab' ∧ si_MR g y0 ab' u) (fun u => u) := by
  obtain ⟨wr, pa, dk, ld⟩ := ab
  obtain ⟨mW, mD, mT, mP, mR, mA, mK, mO, mB, mI, mN, mH, mC, zs, zt, zn, ze, za, zm, f1, ft, fp, fr, fa, fk, fo, fb, fn, fh, fc, fd, fi, rfl, hz1, hz2, hok, hf1, hpa, hf2, hdk, hld⟩ := h
  have hz1 : zs = nI wr.length := hz1
  have hz2 : za = nI pa.length := hz2
  subst hz1 hz2
  have hok : si_ok wr := hok
  have hpa : si_okp pa := hpa
  have hf1 : si_ln wr f1 := hf1
  have hf2 : si_ln pa fa := hf2
  have hdk : ∀ k, k < 23 → fd k = dk k := hdk
  cases ld with
  | none =>
    have hld : zt = nI 0 := hld
    subst hld
    refine (cM_count_0 l g y0 mW mD mT mP mR mA mK mO mB mI mN mH mC (nI wr.length) zn ze (nI pa.length) zm).lift (wr := [(mW, .inl (g.2.1, 60, .inl f1)), (mD, .inl (g.2.2, 23, .inr (.inl fd))), (mT, .inl (g.2.1, 61, .inl ft)), (mP, .inl (g.2.1, 61, .inl fp)), (mR, .inl (g.2.1, 61, .inl fr)), (mA, .inl (g.2.1, 20, .inl fa)), (mK, .inl (g.2.1, 61, .inl fk)), (mO, .inl (g.2.1, 61, .inl fo)), (mB, .inl (g.2.1, 61, .inl fb)), (mI, .inl (g.2.2, 23, .inr (.inl fi))), (mN, .inl (g.2.1, 61, .inl fn)), (mH, .inl (g.2.1, 61, .inl fh)), (mC, .inl (g.2.1, 61, .inl fc))]) [0] [1, 2, 3, 4, 5, 6, 7, 8, 9, 10, 11, 12, 13] rfl rfl (by decide +kernel) (by decide +kernel) (fun r u hq => ?_)
    exact ⟨_, ⟨(wr, pa, dk, none), ⟨hq, rfl⟩, mW, mD, mT, mP, mR, mA, mK, mO, mB, mI, mN, mH, mC, nI wr.length, nI 0, zn, ze, nI pa.length, zm, f1, ft, fp, fr, fa, fk, fo, fb, fn, fh, fc, fd, fi, rfl, rfl, rfl, hok, hf1, hpa, hf2, hdk, rfl⟩, fun H A hP hD => ⟨hP.sub [13, 0, 1, 2, 3, 4, 5, 6, 7, 8, 9, 10, 11, 12] rfl, hD.sub [13, 0, 1, 2, 3, 4, 5, 6, 7, 8, 9, 10, 11, 12] (by decide +kernel) rfl⟩⟩
  | some x =>
    obtain ⟨t, sr⟩ := x
    obtain ⟨hok2, hs1, hs2, e1, e2, e3, hft, hsu⟩ := hld
    have e1 : zt = nI 1 := e1
    have e2 : zn = nI t.length := e2
    have e3 : ze = nI sr := e3
    have hok2 : si_ok t := hok2
    have hs1 : 1 ≤ sr := hs1
    have hs2 : sr ≤ 16 := hs2
    have hft : ∀ i, i < t.length + 1 → ft i = nI (si_g t i) := hft
    have hsu : si_su t fr fp := hsu
    subst e1
    subst e2
    subst e3
    refine (cM_count_1 l g y0 mW mD mT mP mR mA mK mO mB mI mN mH mC (nI wr.length) (nI sr) zm ft fa t pa hok2 hft hpa.1 hf2 hpa.2).lift (wr := [(mW, .inl (g.2.1, 60, .inl f1)), (mD, .inl (g.2.2, 23, .inr (.inl fd))), (mP, .inl (g.2.1, 61, .inl fp)), (mR, .inl (g.2.1, 61, .inl fr)), (mK, .inl (g.2.1, 61, .inl fk)), (mO, .inl (g.2.1, 61, .inl fo)), (mB, .inl (g.2.1, 61, .inl fb)), (mI, .inl (g.2.2, 23, .inr (.inl fi))), (mN, .inl (g.2.1, 61, .inl fn)), (mH, .inl (g.2.1, 61, .inl fh)), (mC, .inl (g.2.1, 61, .inl fc))]) [0, 3, 6] [1, 2, 4, 5, 7, 8, 9, 10, 11, 12, 13] rfl rfl (by decide +kernel) (by decide +kernel) (fun r u hq => ?_)
    exact ⟨_, ⟨(wr, pa, dk, some (t, sr)), ⟨hq, rfl⟩, mW, mD, mT, mP, mR, mA, mK, mO, mB, mI, mN, mH, mC, nI wr.length, nI 1, nI t.length, nI sr, nI pa.length, zm, f1, ft, fp, fr, fa, fk, fo, fb, fn, fh, fc, fd, fi, rfl, rfl, rfl, hok, hf1, hpa, hf2, hdk, ⟨hok2, hs1, hs2, rfl, rfl, rfl, hft, hsu⟩⟩, fun H A hP hD => ⟨hP.sub [11, 0, 1, 12, 2, 3, 13, 4, 5, 6, 7, 8, 9, 10] rfl, hD.sub [11, 0, 1, 12, 2, 3, 13, 4, 5, 6, 7, 8, 9, 10] (by decide +kernel) rfl⟩⟩
set_option maxHeartbeats 4000000 in
set_option maxRecDepth 100000 in
theorem bX_firstRow (l : Launch) (g : si_G) (x0 : Nat) (ab : si_AB) (ws : va_W)  (h : si_XR g x0 ab ws) : si_Mi (S := va_W) l g vwCl zyX_firstRow zwX_firstRow ({ frames := 3, cells := 0, slots := 0, locals := 65 } : Room) [.ref x0] ws (fun r u => ∃ ab', st_firstRow ab r ab' ∧ si_XR g x0 ab' u) (fun u => u) := by
  obtain ⟨wr, pa, dk, ld⟩ := ab
  obtain ⟨xw, xwa, xp, xpa, xd, xda, xe, xea, xb, b1, b2, b3, b4, xl, lt, lta, lz, lsr, lsp, xt, tt, tta, tz, tsr, tsp, s1, s2, lsz, tsz, f1, f2, fc, fo, fn, ff, lf, lfr, lfp, tf, tfr, tfp, fw, fe, ba, lr, la, tr, ta, rfl, hz1, hz2, hok, hf1, hpa, hf2, hdk, hld⟩ := h
  have hz1 : s1 = wr.length := hz1
  have hz2 : s2 = pa.length := hz2
  subst hz1 hz2
  have hok : si_ok wr := hok
  have hpa : si_okp pa := hpa
  have hf1 : si_ln wr f1 := hf1
  have hf2 : si_ln pa f2 := hf2
  have hdk : ∀ k, k < 23 → fw k = dk k := hdk
  cases ld with
  | none =>
    have hld : lr = -1 := hld
    subst hld
    refine (cX_firstRow_0 l g x0 xw xp xd xe xb xl xt lt lz).lift (wr := [(xw, .inr (2, [.ref xwa, .int (nI wr.length)])), (xwa, .inl (g.2.1, 60, .inl f1)), (xp, .inr (2, [.ref xpa, .int (nI pa.length)])), (xpa, .inl (g.2.1, 20, .inl f2)), (xd, .inr (1, [.ref xda])), (xda, .inl (g.2.2, 23, .inr (.inl fw))), (xe, .inr (1, [.ref xea])), (xea, .inl (g.2.2, 23, .inr (.inl fe))), (xb, .inr (0, [.ref b1, .ref b2, .ref b3, .ref b4, .int ba])), (b1, .inl (g.2.1, 61, .inl fc)), (b2, .inl (g.2.1, 61, .inl fo)), (b3, .inl (g.2.1, 61, .inl fn)), (b4, .inl (g.2.1, 61, .inl ff)), (lt, .inr (2, [.ref lta, .int (nI lsz)])), (lta, .inl (g.2.1, 60, .inl lf)), (lz, .inr (4, [.ref lsr, .ref lsp, .int la])), (lsr, .inl (g.2.1, 61, .inl lfr)), (lsp, .inl (g.2.1, 61, .inl lfp)), (xt, .inr (3, [.ref tt, .ref tz, .int tr])), (tt, .inr (2, [.ref tta, .int (nI tsz)])), (tta, .inl (g.2.1, 60, .inl tf)), (tz, .inr (4, [.ref tsr, .ref tsp, .int ta])), (tsr, .inl (g.2.1, 61, .inl tfr)), (tsp, .inl (g.2.1, 61, .inl tfp))]) [0, 14] [1, 2, 3, 4, 5, 6, 7, 8, 9, 10, 11, 12, 13, 15, 16, 17, 18, 19, 20, 21, 22, 23, 24, 25] rfl rfl (by decide +kernel) (by decide +kernel) (fun r u hq => ?_)
    exact ⟨_, ⟨(wr, pa, dk, none), ⟨hq, rfl⟩, xw, xwa, xp, xpa, xd, xda, xe, xea, xb, b1, b2, b3, b4, xl, lt, lta, lz, lsr, lsp, xt, tt, tta, tz, tsr, tsp, wr.length, pa.length, lsz, tsz, f1, f2, fc, fo, fn, ff, lf, lfr, lfp, tf, tfr, tfp, fw, fe, ba, -1, la, tr, ta, rfl, rfl, rfl, hok, hf1, hpa, hf2, hdk, rfl⟩, fun H A hP hD => ⟨hP.sub [24, 0, 1, 2, 3, 4, 5, 6, 7, 8, 9, 10, 11, 12, 25, 13, 14, 15, 16, 17, 18, 19, 20, 21, 22, 23] rfl, hD.sub [24, 0, 1, 2, 3, 4, 5, 6, 7, 8, 9, 10, 11, 12, 25, 13, 14, 15, 16, 17, 18, 19, 20, 21, 22, 23] (by decide +kernel) rfl⟩⟩
  | some x =>
    obtain ⟨t, sr⟩ := x
    obtain ⟨hok2, hs1, hs2, e1, e2, hlf, hsu⟩ := hld
    have e1 : lr = nI sr := e1
    have e2 : lsz = t.length := e2
    have hok2 : si_ok t := hok2
    have hs1 : 1 ≤ sr := hs1
    have hs2 : sr ≤ 16 := hs2
    have hlf : si_ln t lf := hlf
    have hsu : si_su t lfr lfp := hsu
    subst e1
    subst e2
    refine (cX_firstRow_1 l g x0 xw xp xd xe xb xl xt lt lz lta xpa sr lf f2 t pa lsr lsp lfp la hs1 hs2 hok2 hlf hpa.1 hf2 hpa.2 hsu.2).lift (wr := [(xw, .inr (2, [.ref xwa, .int (nI wr.length)])), (xwa, .inl (g.2.1, 60, .inl f1)), (xd, .inr (1, [.ref xda])), (xda, .inl (g.2.2, 23, .inr (.inl fw))), (xe, .inr (1, [.ref xea])), (xea, .inl (g.2.2, 23, .inr (.inl fe))), (xb, .inr (0, [.ref b1, .ref b2, .ref b3, .ref b4, .int ba])), (b1, .inl (g.2.1, 61, .inl fc)), (b2, .inl (g.2.1, 61, .inl fo)), (b3, .inl (g.2.1, 61, .inl fn)), (b4, .inl (g.2.1, 61, .inl ff)), (lsr, .inl (g.2.1, 61, .inl lfr)), (xt, .inr (3, [.ref tt, .ref tz, .int tr])), (tt, .inr (2, [.ref tta, .int (nI tsz)])), (tta, .inl (g.2.1, 60, .inl tf)), (tz, .inr (4, [.ref tsr, .ref tsp, .int ta])), (tsr, .inl (g.2.1, 61, .inl tfr)), (tsp, .inl (g.2.1, 61, .inl tfp))]) [0, 14, 15, 16, 3, 4, 17, 19] [1, 2, 5, 6, 7, 8, 9, 10, 11, 12, 13, 18, 20, 21, 22, 23, 24, 25] rfl rfl (by decide +kernel) (by decide +kernel) (fun r u hq => ?_)
    exact ⟨_, ⟨(wr, pa, dk, some (t, sr)), ⟨hq, rfl⟩, xw, xwa, xp, xpa, xd, xda, xe, xea, xb, b1, b2, b3, b4, xl, lt, lta, lz, lsr, lsp, xt, tt, tta, tz, tsr, tsp, wr.length, pa.length, t.length, tsz, f1, f2, fc, fo, fn, ff, lf, lfr, lfp, tf, tfr, tfp, fw, fe, ba, nI sr, la, tr, ta, rfl, rfl, rfl, hok, hf1, hpa, hf2, hdk, ⟨hok2, hs1, hs2, rfl, rfl, hlf, hsu⟩⟩, fun H A hP hD => ⟨hP.sub [18, 0, 1, 22, 23, 2, 3, 4, 5, 6, 7, 8, 9, 10, 19, 20, 21, 24, 11, 25, 12, 13, 14, 15, 16, 17] rfl, hD.sub [18, 0, 1, 22, 23, 2, 3, 4, 5, 6, 7, 8, 9, 10, 19, 20, 21, 24, 11, 25, 12, 13, 14, 15, 16, 17] (by decide +kernel) rfl⟩⟩
set_option maxHeartbeats 4000000 in
set_option maxRecDepth 100000 in
theorem bM_firstRow (l : Launch) (g : si_G) (y0 : Nat) (ab : si_AB) (ws : va_W)  (h : si_MR g y0 ab ws) : si_Mi (S := va_W) l g vwCl zyM_firstRow zwM_firstRow ({ frames := 1, cells := 0, slots := 0, locals := 22 } : Room) [.ref y0] ws (fun r u => ∃ ab', st_firstRow ab r ab' ∧ si_MR g y0 ab' u) (fun u => u) := by
  obtain ⟨wr, pa, dk, ld⟩ := ab
  obtain ⟨mW, mD, mT, mP, mR, mA, mK, mO, mB, mI, mN, mH, mC, zs, zt, zn, ze, za, zm, f1, ft, fp, fr, fa, fk, fo, fb, fn, fh, fc, fd, fi, rfl, hz1, hz2, hok, hf1, hpa, hf2, hdk, hld⟩ := h
  have hz1 : zs = nI wr.length := hz1
  have hz2 : za = nI pa.length := hz2
  subst hz1 hz2
  have hok : si_ok wr := hok
  have hpa : si_okp pa := hpa
  have hf1 : si_ln wr f1 := hf1
  have hf2 : si_ln pa fa := hf2
  have hdk : ∀ k, k < 23 → fd k = dk k := hdk
  cases ld with
  | none =>
    have hld : zt = nI 0 := hld
    subst hld
    refine (cM_firstRow_0 l g y0 mW mD mT mP mR mA mK mO mB mI mN mH mC (nI wr.length) zn ze (nI pa.length) zm).lift (wr := [(mW, .inl (g.2.1, 60, .inl f1)), (mD, .inl (g.2.2, 23, .inr (.inl fd))), (mT, .inl (g.2.1, 61, .inl ft)), (mP, .inl (g.2.1, 61, .inl fp)), (mR, .inl (g.2.1, 61, .inl fr)), (mA, .inl (g.2.1, 20, .inl fa)), (mK, .inl (g.2.1, 61, .inl fk)), (mO, .inl (g.2.1, 61, .inl fo)), (mB, .inl (g.2.1, 61, .inl fb)), (mI, .inl (g.2.2, 23, .inr (.inl fi))), (mN, .inl (g.2.1, 61, .inl fn)), (mH, .inl (g.2.1, 61, .inl fh)), (mC, .inl (g.2.1, 61, .inl fc))]) [0] [1, 2, 3, 4, 5, 6, 7, 8, 9, 10, 11, 12, 13] rfl rfl (by decide +kernel) (by decide +kernel) (fun r u hq => ?_)
    exact ⟨_, ⟨(wr, pa, dk, none), ⟨hq, rfl⟩, mW, mD, mT, mP, mR, mA, mK, mO, mB, mI, mN, mH, mC, nI wr.length, nI 0, zn, ze, nI pa.length, zm, f1, ft, fp, fr, fa, fk, fo, fb, fn, fh, fc, fd, fi, rfl, rfl, rfl, hok, hf1, hpa, hf2, hdk, rfl⟩, fun H A hP hD => ⟨hP.sub [13, 0, 1, 2, 3, 4, 5, 6, 7, 8, 9, 10, 11, 12] rfl, hD.sub [13, 0, 1, 2, 3, 4, 5, 6, 7, 8, 9, 10, 11, 12] (by decide +kernel) rfl⟩⟩
  | some x =>
    obtain ⟨t, sr⟩ := x
    obtain ⟨hok2, hs1, hs2, e1, e2, e3, hft, hsu⟩ := hld
    have e1 : zt = nI 1 := e1
    have e2 : zn = nI t.length := e2
    have e3 : ze = nI sr := e3
    have hok2 : si_ok t := hok2
    have hs1 : 1 ≤ sr := hs1
    have hs2 : sr ≤ 16 := hs2
    have hft : ∀ i, i < t.length + 1 → ft i = nI (si_g t i) := hft
    have hsu : si_su t fr fp := hsu
    subst e1
    subst e2
    subst e3
    refine (cM_firstRow_1 l g y0 mW mD mT mP mR mA mK mO mB mI mN mH mC (nI wr.length) (nI sr) zm ft fa t pa fr hok2 hft hpa.1 hf2 hpa.2 hsu.1).lift (wr := [(mW, .inl (g.2.1, 60, .inl f1)), (mD, .inl (g.2.2, 23, .inr (.inl fd))), (mP, .inl (g.2.1, 61, .inl fp)), (mK, .inl (g.2.1, 61, .inl fk)), (mO, .inl (g.2.1, 61, .inl fo)), (mB, .inl (g.2.1, 61, .inl fb)), (mI, .inl (g.2.2, 23, .inr (.inl fi))), (mN, .inl (g.2.1, 61, .inl fn)), (mH, .inl (g.2.1, 61, .inl fh)), (mC, .inl (g.2.1, 61, .inl fc))]) [0, 3, 6, 5] [1, 2, 4, 7, 8, 9, 10, 11, 12, 13] rfl rfl (by decide +kernel) (by decide +kernel) (fun r u hq => ?_)
    exact ⟨_, ⟨(wr, pa, dk, some (t, sr)), ⟨hq, rfl⟩, mW, mD, mT, mP, mR, mA, mK, mO, mB, mI, mN, mH, mC, nI wr.length, nI 1, nI t.length, nI sr, nI pa.length, zm, f1, ft, fp, fr, fa, fk, fo, fb, fn, fh, fc, fd, fi, rfl, rfl, rfl, hok, hf1, hpa, hf2, hdk, ⟨hok2, hs1, hs2, rfl, rfl, rfl, hft, hsu⟩⟩, fun H A hP hD => ⟨hP.sub [10, 0, 1, 11, 2, 13, 12, 3, 4, 5, 6, 7, 8, 9] rfl, hD.sub [10, 0, 1, 11, 2, 13, 12, 3, 4, 5, 6, 7, 8, 9] (by decide +kernel) rfl⟩⟩
set_option maxHeartbeats 4000000 in
set_option maxRecDepth 100000 in
theorem bX_locate (l : Launch) (g : si_G) (x0 : Nat) (ab : si_AB) (ws : va_W) (q : Int32) (h : si_XR g x0 ab ws) : si_Mi (S := va_W) l g vwCl zyX_locate zwX_locate ({ frames := 3, cells := 0, slots := 0, locals := 65 } : Room) [.ref x0, .int q] ws (fun r u => ∃ ab', st_locate ab q r ab' ∧ si_XR g x0 ab' u) (fun u => u) := by
  obtain ⟨wr, pa, dk, ld⟩ := ab
  obtain ⟨xw, xwa, xp, xpa, xd, xda, xe, xea, xb, b1, b2, b3, b4, xl, lt, lta, lz, lsr, lsp, xt, tt, tta, tz, tsr, tsp, s1, s2, lsz, tsz, f1, f2, fc, fo, fn, ff, lf, lfr, lfp, tf, tfr, tfp, fw, fe, ba, lr, la, tr, ta, rfl, hz1, hz2, hok, hf1, hpa, hf2, hdk, hld⟩ := h
  have hz1 : s1 = wr.length := hz1
  have hz2 : s2 = pa.length := hz2
  subst hz1 hz2
  have hok : si_ok wr := hok
  have hpa : si_okp pa := hpa
  have hf1 : si_ln wr f1 := hf1
  have hf2 : si_ln pa f2 := hf2
  have hdk : ∀ k, k < 23 → fw k = dk k := hdk
  cases ld with
  | none =>
    have hld : lr = -1 := hld
    subst hld
    refine (cX_locate_0 l g x0 xw xp xd xe xb xl xt lt lz q).lift (wr := [(xw, .inr (2, [.ref xwa, .int (nI wr.length)])), (xwa, .inl (g.2.1, 60, .inl f1)), (xp, .inr (2, [.ref xpa, .int (nI pa.length)])), (xpa, .inl (g.2.1, 20, .inl f2)), (xd, .inr (1, [.ref xda])), (xda, .inl (g.2.2, 23, .inr (.inl fw))), (xe, .inr (1, [.ref xea])), (xea, .inl (g.2.2, 23, .inr (.inl fe))), (xb, .inr (0, [.ref b1, .ref b2, .ref b3, .ref b4, .int ba])), (b1, .inl (g.2.1, 61, .inl fc)), (b2, .inl (g.2.1, 61, .inl fo)), (b3, .inl (g.2.1, 61, .inl fn)), (b4, .inl (g.2.1, 61, .inl ff)), (lt, .inr (2, [.ref lta, .int (nI lsz)])), (lta, .inl (g.2.1, 60, .inl lf)), (lz, .inr (4, [.ref lsr, .ref lsp, .int la])), (lsr, .inl (g.2.1, 61, .inl lfr)), (lsp, .inl (g.2.1, 61, .inl lfp)), (xt, .inr (3, [.ref tt, .ref tz, .int tr])), (tt, .inr (2, [.ref tta, .int (nI tsz)])), (tta, .inl (g.2.1, 60, .inl tf)), (tz, .inr (4, [.ref tsr, .ref tsp, .int ta])), (tsr, .inl (g.2.1, 61, .inl tfr)), (tsp, .inl (g.2.1, 61, .inl tfp))]) [0, 14] [1, 2, 3, 4, 5, 6, 7, 8, 9, 10, 11, 12, 13, 15, 16, 17, 18, 19, 20, 21, 22, 23, 24, 25] rfl rfl (by decide +kernel) (by decide +kernel) (fun r u hq => ?_)
    exact ⟨_, ⟨(wr, pa, dk, none), ⟨hq, rfl⟩, xw, xwa, xp, xpa, xd, xda, xe, xea, xb, b1, b2, b3, b4, xl, lt, lta, lz, lsr, lsp, xt, tt, tta, tz, tsr, tsp, wr.length, pa.length, lsz, tsz, f1, f2, fc, fo, fn, ff, lf, lfr, lfp, tf, tfr, tfp, fw, fe, ba, -1, la, tr, ta, rfl, rfl, rfl, hok, hf1, hpa, hf2, hdk, rfl⟩, fun H A hP hD => ⟨hP.sub [24, 0, 1, 2, 3, 4, 5, 6, 7, 8, 9, 10, 11, 12, 25, 13, 14, 15, 16, 17, 18, 19, 20, 21, 22, 23] rfl, hD.sub [24, 0, 1, 2, 3, 4, 5, 6, 7, 8, 9, 10, 11, 12, 25, 13, 14, 15, 16, 17, 18, 19, 20, 21, 22, 23] (by decide +kernel) rfl⟩⟩
  | some x =>
    obtain ⟨t, sr⟩ := x
    obtain ⟨hok2, hs1, hs2, e1, e2, hlf, hsu⟩ := hld
    have e1 : lr = nI sr := e1
    have e2 : lsz = t.length := e2
    have hok2 : si_ok t := hok2
    have hs1 : 1 ≤ sr := hs1
    have hs2 : sr ≤ 16 := hs2
    have hlf : si_ln t lf := hlf
    have hsu : si_su t lfr lfp := hsu
    subst e1
    subst e2
    refine (cX_locate_1 l g x0 xw xp xd xe xb xl xt lt lz lta xpa sr lf f2 t pa q hs1 hs2 hok2 hlf hpa.1 hf2 hpa.2).lift (wr := [(xw, .inr (2, [.ref xwa, .int (nI wr.length)])), (xwa, .inl (g.2.1, 60, .inl f1)), (xd, .inr (1, [.ref xda])), (xda, .inl (g.2.2, 23, .inr (.inl fw))), (xe, .inr (1, [.ref xea])), (xea, .inl (g.2.2, 23, .inr (.inl fe))), (xb, .inr (0, [.ref b1, .ref b2, .ref b3, .ref b4, .int ba])), (b1, .inl (g.2.1, 61, .inl fc)), (b2, .inl (g.2.1, 61, .inl fo)), (b3, .inl (g.2.1, 61, .inl fn)), (b4, .inl (g.2.1, 61, .inl ff)), (lz, .inr (4, [.ref lsr, .ref lsp, .int la])), (lsr, .inl (g.2.1, 61, .inl lfr)), (lsp, .inl (g.2.1, 61, .inl lfp)), (xt, .inr (3, [.ref tt, .ref tz, .int tr])), (tt, .inr (2, [.ref tta, .int (nI tsz)])), (tta, .inl (g.2.1, 60, .inl tf)), (tz, .inr (4, [.ref tsr, .ref tsp, .int ta])), (tsr, .inl (g.2.1, 61, .inl tfr)), (tsp, .inl (g.2.1, 61, .inl tfp))]) [0, 14, 15, 16, 3, 4] [1, 2, 5, 6, 7, 8, 9, 10, 11, 12, 13, 17, 18, 19, 20, 21, 22, 23, 24, 25] rfl rfl (by decide +kernel) (by decide +kernel) (fun r u hq => ?_)
    exact ⟨_, ⟨(wr, pa, dk, some (t, sr)), ⟨hq, rfl⟩, xw, xwa, xp, xpa, xd, xda, xe, xea, xb, b1, b2, b3, b4, xl, lt, lta, lz, lsr, lsp, xt, tt, tta, tz, tsr, tsp, wr.length, pa.length, t.length, tsz, f1, f2, fc, fo, fn, ff, lf, lfr, lfp, tf, tfr, tfp, fw, fe, ba, nI sr, la, tr, ta, rfl, rfl, rfl, hok, hf1, hpa, hf2, hdk, ⟨hok2, hs1, hs2, rfl, rfl, hlf, hsu⟩⟩, fun H A hP hD => ⟨hP.sub [20, 0, 1, 24, 25, 2, 3, 4, 5, 6, 7, 8, 9, 10, 21, 22, 23, 11, 12, 13, 14, 15, 16, 17, 18, 19] rfl, hD.sub [20, 0, 1, 24, 25, 2, 3, 4, 5, 6, 7, 8, 9, 10, 21, 22, 23, 11, 12, 13, 14, 15, 16, 17, 18, 19] (by decide +kernel) rfl⟩⟩
set_option maxHeartbeats 4000000 in
set_option maxRecDepth 100000 in
theorem bM_locate (l : Launch) (g : si_G) (y0 : Nat) (ab : si_AB) (ws : va_W) (q : Int32) (h : si_MR g y0 ab ws) : si_Mi (S := va_W) l g vwCl zyM_locate zwM_locate ({ frames := 1, cells := 0, slots := 0, locals := 22 } : Room) [.ref y0, .int q] ws (fun r u => ∃ ab', st_locate ab q r ab' ∧ si_MR g y0 ab' u) (fun u => u) := by
  obtain ⟨wr, pa, dk, ld⟩ := ab
  obtain ⟨mW, mD, mT, mP, mR, mA, mK, mO, mB, mI, mN, mH, mC, zs, zt, zn, ze, za, zm, f1, ft, fp, fr, fa, fk, fo, fb, fn, fh, fc, fd, fi, rfl, hz1, hz2, hok, hf1, hpa, hf2, hdk, hld⟩ := h
  have hz1 : zs = nI wr.length := hz1
  have hz2 : za = nI pa.length := hz2
  subst hz1 hz2
  have hok : si_ok wr := hok
  have hpa : si_okp pa := hpa
  have hf1 : si_ln wr f1 := hf1
  have hf2 : si_ln pa fa := hf2
  have hdk : ∀ k, k < 23 → fd k = dk k := hdk
  cases ld with
  | none =>
    have hld : zt = nI 0 := hld
    subst hld
    refine (cM_locate_0 l g y0 mW mD mT mP mR mA mK mO mB mI mN mH mC (nI wr.length) zn ze (nI pa.length) zm q).lift (wr := [(mW, .inl (g.2.1, 60, .inl f1)), (mD, .inl (g.2.2, 23, .inr (.inl fd))), (mT, .inl (g.2.1, 61, .inl ft)), (mP, .inl (g.2.1, 61, .inl fp)), (mR, .inl (g.2.1, 61, .inl fr)), (mA, .inl (g.2.1, 20, .inl fa)), (mK, .inl (g.2.1, 61, .inl fk)), (mO, .inl (g.2.1, 61, .inl fo)), (mB, .inl (g.2.1, 61, .inl fb)), (mI, .inl (g.2.2, 23, .inr (.inl fi))), (mN, .inl (g.2.1, 61, .inl fn)), (mH, .inl (g.2.1, 61, .inl fh)), (mC, .inl (g.2.1, 61, .inl fc))]) [0] [1, 2, 3, 4, 5, 6, 7, 8, 9, 10, 11, 12, 13] rfl rfl (by decide +kernel) (by decide +kernel) (fun r u hq => ?_)
    exact ⟨_, ⟨(wr, pa, dk, none), ⟨hq, rfl⟩, mW, mD, mT, mP, mR, mA, mK, mO, mB, mI, mN, mH, mC, nI wr.length, nI 0, zn, ze, nI pa.length, zm, f1, ft, fp, fr, fa, fk, fo, fb, fn, fh, fc, fd, fi, rfl, rfl, rfl, hok, hf1, hpa, hf2, hdk, rfl⟩, fun H A hP hD => ⟨hP.sub [13, 0, 1, 2, 3, 4, 5, 6, 7, 8, 9, 10, 11, 12] rfl, hD.sub [13, 0, 1, 2, 3, 4, 5, 6, 7, 8, 9, 10, 11, 12] (by decide +kernel) rfl⟩⟩
  | some x =>
    obtain ⟨t, sr⟩ := x
    obtain ⟨hok2, hs1, hs2, e1, e2, e3, hft, hsu⟩ := hld
    have e1 : zt = nI 1 := e1
    have e2 : zn = nI t.length := e2
    have e3 : ze = nI sr := e3
    have hok2 : si_ok t := hok2
    have hs1 : 1 ≤ sr := hs1
    have hs2 : sr ≤ 16 := hs2
    have hft : ∀ i, i < t.length + 1 → ft i = nI (si_g t i) := hft
    have hsu : si_su t fr fp := hsu
    subst e1
    subst e2
    subst e3
    by_cases hq0 : q < 0
    · refine (cM_locate_m l g y0 mW mD mT mP mR mA mK mO mB mI mN mH mC (nI wr.length) (nI sr) zm ft fa t pa q hok2 hft hpa.1 hf2 hpa.2 hq0).lift (wr := [(mW, .inl (g.2.1, 60, .inl f1)), (mD, .inl (g.2.2, 23, .inr (.inl fd))), (mP, .inl (g.2.1, 61, .inl fp)), (mR, .inl (g.2.1, 61, .inl fr)), (mK, .inl (g.2.1, 61, .inl fk)), (mO, .inl (g.2.1, 61, .inl fo)), (mB, .inl (g.2.1, 61, .inl fb)), (mI, .inl (g.2.2, 23, .inr (.inl fi))), (mN, .inl (g.2.1, 61, .inl fn)), (mH, .inl (g.2.1, 61, .inl fh)), (mC, .inl (g.2.1, 61, .inl fc))]) [0, 3, 6] [1, 2, 4, 5, 7, 8, 9, 10, 11, 12, 13] rfl rfl (by decide +kernel) (by decide +kernel) (fun r u hq => ?_)
      exact ⟨_, ⟨(wr, pa, dk, some (t, sr)), ⟨hq, rfl⟩, mW, mD, mT, mP, mR, mA, mK, mO, mB, mI, mN, mH, mC, nI wr.length, nI 1, nI t.length, nI sr, nI pa.length, zm, f1, ft, fp, fr, fa, fk, fo, fb, fn, fh, fc, fd, fi, rfl, rfl, rfl, hok, hf1, hpa, hf2, hdk, ⟨hok2, hs1, hs2, rfl, rfl, rfl, hft, hsu⟩⟩, fun H A hP hD => ⟨hP.sub [11, 0, 1, 12, 2, 3, 13, 4, 5, 6, 7, 8, 9, 10] rfl, hD.sub [11, 0, 1, 12, 2, 3, 13, 4, 5, 6, 7, 8, 9, 10] (by decide +kernel) rfl⟩⟩
    · obtain ⟨j, hj, rfl⟩ := nI_of hq0
      refine (cM_locate_1 l g y0 mW mD mT mP mR mA mK mO mB mI mN mH mC (nI wr.length) (nI sr) zm ft fa t pa j hok2 hft hpa.1 hf2 hpa.2 hj).lift (wr := [(mW, .inl (g.2.1, 60, .inl f1)), (mD, .inl (g.2.2, 23, .inr (.inl fd))), (mP, .inl (g.2.1, 61, .inl fp)), (mR, .inl (g.2.1, 61, .inl fr)), (mK, .inl (g.2.1, 61, .inl fk)), (mO, .inl (g.2.1, 61, .inl fo)), (mB, .inl (g.2.1, 61, .inl fb)), (mI, .inl (g.2.2, 23, .inr (.inl fi))), (mN, .inl (g.2.1, 61, .inl fn)), (mH, .inl (g.2.1, 61, .inl fh)), (mC, .inl (g.2.1, 61, .inl fc))]) [0, 3, 6] [1, 2, 4, 5, 7, 8, 9, 10, 11, 12, 13] rfl rfl (by decide +kernel) (by decide +kernel) (fun r u hq => ?_)
      exact ⟨_, ⟨(wr, pa, dk, some (t, sr)), ⟨hq, rfl⟩, mW, mD, mT, mP, mR, mA, mK, mO, mB, mI, mN, mH, mC, nI wr.length, nI 1, nI t.length, nI sr, nI pa.length, zm, f1, ft, fp, fr, fa, fk, fo, fb, fn, fh, fc, fd, fi, rfl, rfl, rfl, hok, hf1, hpa, hf2, hdk, ⟨hok2, hs1, hs2, rfl, rfl, rfl, hft, hsu⟩⟩, fun H A hP hD => ⟨hP.sub [11, 0, 1, 12, 2, 3, 13, 4, 5, 6, 7, 8, 9, 10] rfl, hD.sub [11, 0, 1, 12, 2, 3, 13, 4, 5, 6, 7, 8, 9, 10] (by decide +kernel) rfl⟩⟩
set_option maxHeartbeats 4000000 in
set_option maxRecDepth 100000 in
theorem bX_variety (l : Launch) (g : si_G) (x0 : Nat) (ab : si_AB) (ws : va_W)  (h : si_XR g x0 ab ws) : si_Mi (S := va_W) l g vwCl zyX_variety zwX_variety ({ frames := 3, cells := 0, slots := 0, locals := 65 } : Room) [.ref x0] ws (fun r u => ∃ ab', st_variety ab r ab' ∧ si_XR g x0 ab' u) (fun u => u) := by
  obtain ⟨wr, pa, dk, ld⟩ := ab
  obtain ⟨xw, xwa, xp, xpa, xd, xda, xe, xea, xb, b1, b2, b3, b4, xl, lt, lta, lz, lsr, lsp, xt, tt, tta, tz, tsr, tsp, s1, s2, lsz, tsz, f1, f2, fc, fo, fn, ff, lf, lfr, lfp, tf, tfr, tfp, fw, fe, ba, lr, la, tr, ta, rfl, hz1, hz2, hok, hf1, hpa, hf2, hdk, hld⟩ := h
  have hz1 : s1 = wr.length := hz1
  have hz2 : s2 = pa.length := hz2
  subst hz1 hz2
  have hok : si_ok wr := hok
  have hpa : si_okp pa := hpa
  have hf1 : si_ln wr f1 := hf1
  have hf2 : si_ln pa f2 := hf2
  have hdk : ∀ k, k < 23 → fw k = dk k := hdk
  cases ld with
  | none =>
    have hld : lr = -1 := hld
    subst hld
    refine (cX_variety_0 l g x0 xw xp xd xe xb xl xt lt lz).lift (wr := [(xw, .inr (2, [.ref xwa, .int (nI wr.length)])), (xwa, .inl (g.2.1, 60, .inl f1)), (xp, .inr (2, [.ref xpa, .int (nI pa.length)])), (xpa, .inl (g.2.1, 20, .inl f2)), (xd, .inr (1, [.ref xda])), (xda, .inl (g.2.2, 23, .inr (.inl fw))), (xe, .inr (1, [.ref xea])), (xea, .inl (g.2.2, 23, .inr (.inl fe))), (xb, .inr (0, [.ref b1, .ref b2, .ref b3, .ref b4, .int ba])), (b1, .inl (g.2.1, 61, .inl fc)), (b2, .inl (g.2.1, 61, .inl fo)), (b3, .inl (g.2.1, 61, .inl fn)), (b4, .inl (g.2.1, 61, .inl ff)), (lt, .inr (2, [.ref lta, .int (nI lsz)])), (lta, .inl (g.2.1, 60, .inl lf)), (lz, .inr (4, [.ref lsr, .ref lsp, .int la])), (lsr, .inl (g.2.1, 61, .inl lfr)), (lsp, .inl (g.2.1, 61, .inl lfp)), (xt, .inr (3, [.ref tt, .ref tz, .int tr])), (tt, .inr (2, [.ref tta, .int (nI tsz)])), (tta, .inl (g.2.1, 60, .inl tf)), (tz, .inr (4, [.ref tsr, .ref tsp, .int ta])), (tsr, .inl (g.2.1, 61, .inl tfr)), (tsp, .inl (g.2.1, 61, .inl tfp))]) [0, 14] [1, 2, 3, 4, 5, 6, 7, 8, 9, 10, 11, 12, 13, 15, 16, 17, 18, 19, 20, 21, 22, 23, 24, 25] rfl rfl (by decide +kernel) (by decide +kernel) (fun r u hq => ?_)
    exact ⟨_, ⟨(wr, pa, dk, none), ⟨hq, rfl⟩, xw, xwa, xp, xpa, xd, xda, xe, xea, xb, b1, b2, b3, b4, xl, lt, lta, lz, lsr, lsp, xt, tt, tta, tz, tsr, tsp, wr.length, pa.length, lsz, tsz, f1, f2, fc, fo, fn, ff, lf, lfr, lfp, tf, tfr, tfp, fw, fe, ba, -1, la, tr, ta, rfl, rfl, rfl, hok, hf1, hpa, hf2, hdk, rfl⟩, fun H A hP hD => ⟨hP.sub [24, 0, 1, 2, 3, 4, 5, 6, 7, 8, 9, 10, 11, 12, 25, 13, 14, 15, 16, 17, 18, 19, 20, 21, 22, 23] rfl, hD.sub [24, 0, 1, 2, 3, 4, 5, 6, 7, 8, 9, 10, 11, 12, 25, 13, 14, 15, 16, 17, 18, 19, 20, 21, 22, 23] (by decide +kernel) rfl⟩⟩
  | some x =>
    obtain ⟨t, sr⟩ := x
    obtain ⟨hok2, hs1, hs2, e1, e2, hlf, hsu⟩ := hld
    have e1 : lr = nI sr := e1
    have e2 : lsz = t.length := e2
    have hok2 : si_ok t := hok2
    have hs1 : 1 ≤ sr := hs1
    have hs2 : sr ≤ 16 := hs2
    have hlf : si_ln t lf := hlf
    have hsu : si_su t lfr lfp := hsu
    subst e1
    subst e2
    refine (cX_variety_1 l g x0 xw xp xd xe xb xl xt lt lz lta xpa sr lf f2 t pa hs1 hs2 hok2 hlf hpa.1 hf2 hpa.2).lift (wr := [(xw, .inr (2, [.ref xwa, .int (nI wr.length)])), (xwa, .inl (g.2.1, 60, .inl f1)), (xd, .inr (1, [.ref xda])), (xda, .inl (g.2.2, 23, .inr (.inl fw))), (xe, .inr (1, [.ref xea])), (xea, .inl (g.2.2, 23, .inr (.inl fe))), (xb, .inr (0, [.ref b1, .ref b2, .ref b3, .ref b4, .int ba])), (b1, .inl (g.2.1, 61, .inl fc)), (b2, .inl (g.2.1, 61, .inl fo)), (b3, .inl (g.2.1, 61, .inl fn)), (b4, .inl (g.2.1, 61, .inl ff)), (lz, .inr (4, [.ref lsr, .ref lsp, .int la])), (lsr, .inl (g.2.1, 61, .inl lfr)), (lsp, .inl (g.2.1, 61, .inl lfp)), (xt, .inr (3, [.ref tt, .ref tz, .int tr])), (tt, .inr (2, [.ref tta, .int (nI tsz)])), (tta, .inl (g.2.1, 60, .inl tf)), (tz, .inr (4, [.ref tsr, .ref tsp, .int ta])), (tsr, .inl (g.2.1, 61, .inl tfr)), (tsp, .inl (g.2.1, 61, .inl tfp))]) [0, 14, 15, 16, 3, 4] [1, 2, 5, 6, 7, 8, 9, 10, 11, 12, 13, 17, 18, 19, 20, 21, 22, 23, 24, 25] rfl rfl (by decide +kernel) (by decide +kernel) (fun r u hq => ?_)
    exact ⟨_, ⟨(wr, pa, dk, some (t, sr)), ⟨hq, rfl⟩, xw, xwa, xp, xpa, xd, xda, xe, xea, xb, b1, b2, b3, b4, xl, lt, lta, lz, lsr, lsp, xt, tt, tta, tz, tsr, tsp, wr.length, pa.length, t.length, tsz, f1, f2, fc, fo, fn, ff, lf, lfr, lfp, tf, tfr, tfp, fw, fe, ba, nI sr, la, tr, ta, rfl, rfl, rfl, hok, hf1, hpa, hf2, hdk, ⟨hok2, hs1, hs2, rfl, rfl, hlf, hsu⟩⟩, fun H A hP hD => ⟨hP.sub [20, 0, 1, 24, 25, 2, 3, 4, 5, 6, 7, 8, 9, 10, 21, 22, 23, 11, 12, 13, 14, 15, 16, 17, 18, 19] rfl, hD.sub [20, 0, 1, 24, 25, 2, 3, 4, 5, 6, 7, 8, 9, 10, 21, 22, 23, 11, 12, 13, 14, 15, 16, 17, 18, 19] (by decide +kernel) rfl⟩⟩
set_option maxHeartbeats 4000000 in
set_option maxRecDepth 100000 in
theorem bM_variety (l : Launch) (g : si_G) (y0 : Nat) (ab : si_AB) (ws : va_W)  (h : si_MR g y0 ab ws) : si_Mi (S := va_W) l g vwCl zyM_variety zwM_variety ({ frames := 1, cells := 0, slots := 0, locals := 22 } : Room) [.ref y0] ws (fun r u => ∃ ab', st_variety ab r ab' ∧ si_MR g y0 ab' u) (fun u => u) := by
  obtain ⟨wr, pa, dk, ld⟩ := ab
  obtain ⟨mW, mD, mT, mP, mR, mA, mK, mO, mB, mI, mN, mH, mC, zs, zt, zn, ze, za, zm, f1, ft, fp, fr, fa, fk, fo, fb, fn, fh, fc, fd, fi, rfl, hz1, hz2, hok, hf1, hpa, hf2, hdk, hld⟩ := h
  have hz1 : zs = nI wr.length := hz1
  have hz2 : za = nI pa.length := hz2
  subst hz1 hz2
  have hok : si_ok wr := hok
  have hpa : si_okp pa := hpa
  have hf1 : si_ln wr f1 := hf1
  have hf2 : si_ln pa fa := hf2
  have hdk : ∀ k, k < 23 → fd k = dk k := hdk
  cases ld with
  | none =>
    have hld : zt = nI 0 := hld
    subst hld
    refine (cM_variety_0 l g y0 mW mD mT mP mR mA mK mO mB mI mN mH mC (nI wr.length) zn ze (nI pa.length) zm).lift (wr := [(mW, .inl (g.2.1, 60, .inl f1)), (mD, .inl (g.2.2, 23, .inr (.inl fd))), (mT, .inl (g.2.1, 61, .inl ft)), (mP, .inl (g.2.1, 61, .inl fp)), (mR, .inl (g.2.1, 61, .inl fr)), (mA, .inl (g.2.1, 20, .inl fa)), (mK, .inl (g.2.1, 61, .inl fk)), (mO, .inl (g.2.1, 61, .inl fo)), (mB, .inl (g.2.1, 61, .inl fb)), (mI, .inl (g.2.2, 23, .inr (.inl fi))), (mN, .inl (g.2.1, 61, .inl fn)), (mH, .inl (g.2.1, 61, .inl fh)), (mC, .inl (g.2.1, 61, .inl fc))]) [0] [1, 2, 3, 4, 5, 6, 7, 8, 9, 10, 11, 12, 13] rfl rfl (by decide +kernel) (by decide +kernel) (fun r u hq => ?_)
    exact ⟨_, ⟨(wr, pa, dk, none), ⟨hq, rfl⟩, mW, mD, mT, mP, mR, mA, mK, mO, mB, mI, mN, mH, mC, nI wr.length, nI 0, zn, ze, nI pa.length, zm, f1, ft, fp, fr, fa, fk, fo, fb, fn, fh, fc, fd, fi, rfl, rfl, rfl, hok, hf1, hpa, hf2, hdk, rfl⟩, fun H A hP hD => ⟨hP.sub [13, 0, 1, 2, 3, 4, 5, 6, 7, 8, 9, 10, 11, 12] rfl, hD.sub [13, 0, 1, 2, 3, 4, 5, 6, 7, 8, 9, 10, 11, 12] (by decide +kernel) rfl⟩⟩
  | some x =>
    obtain ⟨t, sr⟩ := x
    obtain ⟨hok2, hs1, hs2, e1, e2, e3, hft, hsu⟩ := hld
    have e1 : zt = nI 1 := e1
    have e2 : zn = nI t.length := e2
    have e3 : ze = nI sr := e3
    have hok2 : si_ok t := hok2
    have hs1 : 1 ≤ sr := hs1
    have hs2 : sr ≤ 16 := hs2
    have hft : ∀ i, i < t.length + 1 → ft i = nI (si_g t i) := hft
    have hsu : si_su t fr fp := hsu
    subst e1
    subst e2
    subst e3
    refine (cM_variety_1 l g y0 mW mD mT mP mR mA mK mO mB mI mN mH mC (nI wr.length) (nI sr) zm ft fa t pa hok2 hft hpa.1 hf2 hpa.2).lift (wr := [(mW, .inl (g.2.1, 60, .inl f1)), (mD, .inl (g.2.2, 23, .inr (.inl fd))), (mP, .inl (g.2.1, 61, .inl fp)), (mR, .inl (g.2.1, 61, .inl fr)), (mK, .inl (g.2.1, 61, .inl fk)), (mO, .inl (g.2.1, 61, .inl fo)), (mB, .inl (g.2.1, 61, .inl fb)), (mI, .inl (g.2.2, 23, .inr (.inl fi))), (mN, .inl (g.2.1, 61, .inl fn)), (mH, .inl (g.2.1, 61, .inl fh)), (mC, .inl (g.2.1, 61, .inl fc))]) [0, 3, 6] [1, 2, 4, 5, 7, 8, 9, 10, 11, 12, 13] rfl rfl (by decide +kernel) (by decide +kernel) (fun r u hq => ?_)
    exact ⟨_, ⟨(wr, pa, dk, some (t, sr)), ⟨hq, rfl⟩, mW, mD, mT, mP, mR, mA, mK, mO, mB, mI, mN, mH, mC, nI wr.length, nI 1, nI t.length, nI sr, nI pa.length, zm, f1, ft, fp, fr, fa, fk, fo, fb, fn, fh, fc, fd, fi, rfl, rfl, rfl, hok, hf1, hpa, hf2, hdk, ⟨hok2, hs1, hs2, rfl, rfl, rfl, hft, hsu⟩⟩, fun H A hP hD => ⟨hP.sub [11, 0, 1, 12, 2, 3, 13, 4, 5, 6, 7, 8, 9, 10] rfl, hD.sub [11, 0, 1, 12, 2, 3, 13, 4, 5, 6, 7, 8, 9, 10] (by decide +kernel) rfl⟩⟩
