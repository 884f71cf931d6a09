/-! The public methods over the whole objects, second part. Written by wip/draft/p29.py -/
set_option maxHeartbeats 4000000 in
set_option maxRecDepth 100000 in
theorem bX_build (l : Launch) (g : si_G) (x0 : Nat) (ab : si_AB) (ws : va_W) (q : Int32) (h : si_XR g x0 ab ws) : si_Mi (S := va_W) l g vwCl zyX_build zwX_build ({ frames := 5, cells := 0, slots := 0, locals := 115 } : Room) [.ref x0, .int q] ws (fun r u => ∃ ab', st_build ab q r ab' ∧ si_XR g x0 ab' u) (fun u => u) := by
  obtain ⟨wr, pa, dk, ld⟩ := ab
  obtain ⟨xw, xwa, xp, xpa, xd, xda, xe, xea, xb, b1, b2, b3, b4, xl, lt, lta, lz, lsr, lsp, xt, tt, tta, tz, tsr, tsp, s1, s2, lsz, tsz, f1, f2, fc, fo, fn, ff, lf, lfr, lfp, tf, tfr, tfp, fw, fe, ba, lr, la, tr, ta, rfl, hz1, hz2, hok, hf1, hpa, hf2, hdk, hld⟩ := h
  have hz1 : s1 = wr.length := hz1
  have hz2 : s2 = pa.length := hz2
  subst hz1 hz2
  have hok : si_ok wr := hok
  have hpa : si_okp pa := hpa
  have hf1 : si_ln wr f1 := hf1
  have hf2 : si_ln pa f2 := hf2
  have hdk : ∀ k, k < 23 → fw k = dk k := hdk
  refine (cX_build l g x0 xw xp xd xe xb xl xt tt tz tsr tsp b1 b2 b3 b4 tr ta ba tfr tfp fc fo fn ff xwa xda f1 fw wr q hok hf1).lift (wr := [(xp, .inr (2, [.ref xpa, .int (nI pa.length)])), (xpa, .inl (g.2.1, 20, .inl f2)), (xe, .inr (1, [.ref xea])), (xea, .inl (g.2.2, 23, .inr (.inl fe))), (xl, .inr (3, [.ref lt, .ref lz, .int lr])), (lt, .inr (2, [.ref lta, .int (nI lsz)])), (lta, .inl (g.2.1, 60, .inl lf)), (lz, .inr (4, [.ref lsr, .ref lsp, .int la])), (lsr, .inl (g.2.1, 61, .inl lfr)), (lsp, .inl (g.2.1, 61, .inl lfp)), (tt, .inr (2, [.ref tta, .int (nI tsz)])), (tta, .inl (g.2.1, 60, .inl tf))]) [0, 20, 1, 2, 23, 24, 25, 9, 10, 11, 12, 13, 5, 6] [3, 4, 7, 8, 14, 15, 16, 17, 18, 19, 21, 22] rfl rfl (by decide +kernel) (by decide +kernel) (fun r u hq => ?_)
  obtain ⟨a1, a2, a3, a4, a5, a6, a7, w8⟩ := u
  obtain ⟨hr, ht, hf⟩ := hq
  cases hd : si_isR q.toInt64 with
  | true =>
    obtain ⟨sr, h1, h2, rfl, him⟩ := ht hd
    have hdk2 : ∀ k, k < 23 → w8 k = si_im wr (nI sr).toNatClampNeg k := by rw [nI_clamp (by omega)]; exact him
    exact ⟨_, ⟨(wr, pa, si_im wr (nI sr).toNatClampNeg, ld), ⟨hr, (if_pos hd).symm⟩, xw, xwa, xp, xpa, xd, xda, xe, xea, xb, b1, b2, b3, b4, xl, lt, lta, lz, lsr, lsp, xt, tt, tta, tz, tsr, tsp, wr.length, pa.length, lsz, tsz, f1, f2, a4, a5, a6, ff, lf, lfr, lfp, tf, a1, a2, w8, fe, a7, lr, la, tr, a3, rfl, rfl, rfl, hok, hf1, hpa, hf2, hdk2, hld⟩, fun H A hP hD => ⟨hP.sub [12, 14, 15, 0, 1, 24, 25, 2, 3, 19, 20, 21, 22, 23, 4, 5, 6, 7, 8, 9, 13, 10, 11, 16, 17, 18] rfl, hD.sub [12, 14, 15, 0, 1, 24, 25, 2, 3, 19, 20, 21, 22, 23, 4, 5, 6, 7, 8, 9, 13, 10, 11, 16, 17, 18] (by decide +kernel) rfl⟩⟩
  | false =>
    have e : fw = w8 := (hf hd).symm
    subst e
    exact ⟨_, ⟨(wr, pa, dk, ld), ⟨hr, (if_neg (by rw [hd]; decide)).symm⟩, xw, xwa, xp, xpa, xd, xda, xe, xea, xb, b1, b2, b3, b4, xl, lt, lta, lz, lsr, lsp, xt, tt, tta, tz, tsr, tsp, wr.length, pa.length, lsz, tsz, f1, f2, a4, a5, a6, ff, lf, lfr, lfp, tf, a1, a2, fw, fe, a7, lr, la, tr, a3, rfl, rfl, rfl, hok, hf1, hpa, hf2, hdk, hld⟩, fun H A hP hD => ⟨hP.sub [12, 14, 15, 0, 1, 24, 25, 2, 3, 19, 20, 21, 22, 23, 4, 5, 6, 7, 8, 9, 13, 10, 11, 16, 17, 18] rfl, hD.sub [12, 14, 15, 0, 1, 24, 25, 2, 3, 19, 20, 21, 22, 23, 4, 5, 6, 7, 8, 9, 13, 10, 11, 16, 17, 18] (by decide +kernel) rfl⟩⟩
set_option maxHeartbeats 4000000 in
set_option maxRecDepth 100000 in
theorem bM_build (l : Launch) (g : si_G) (y0 : Nat) (ab : si_AB) (ws : va_W) (q : Int32) (h : si_MR g y0 ab ws) : si_Mi (S := va_W) l g vwCl zyM_build zwM_build ({ frames := 3, cells := 0, slots := 0, locals := 70 } : Room) [.ref y0, .int q] ws (fun r u => ∃ ab', st_build ab q r ab' ∧ si_MR g y0 ab' u) (fun u => u) := by
  obtain ⟨wr, pa, dk, ld⟩ := ab
  obtain ⟨mW, mD, mT, mP, mR, mA, mK, mO, mB, mI, mN, mH, mC, zs, zt, zn, ze, za, zm, f1, ft, fp, fr, fa, fk, fo, fb, fn, fh, fc, fd, fi, rfl, hz1, hz2, hok, hf1, hpa, hf2, hdk, hld⟩ := h
  have hz1 : zs = nI wr.length := hz1
  have hz2 : za = nI pa.length := hz2
  subst hz1 hz2
  have hok : si_ok wr := hok
  have hpa : si_okp pa := hpa
  have hf1 : si_ln wr f1 := hf1
  have hf2 : si_ln pa fa := hf2
  have hdk : ∀ k, k < 23 → fd k = dk k := hdk
  refine (cM_build l g y0 mW mD mT mP mR mA mK mO mB mI mN mH mC zt zn ze (nI pa.length) zm f1 fk fo fb fn fh fi fd wr q hok hf1).lift (wr := [(mT, .inl (g.2.1, 61, .inl ft)), (mP, .inl (g.2.1, 61, .inl fp)), (mR, .inl (g.2.1, 61, .inl fr)), (mA, .inl (g.2.1, 20, .inl fa)), (mC, .inl (g.2.1, 61, .inl fc))]) [0, 1, 2, 7, 8, 9, 10, 11, 12] [3, 4, 5, 6, 13] rfl rfl (by decide +kernel) (by decide +kernel) (fun r u hq => ?_)
  obtain ⟨a1, a2, a3, a4, a5, a6, a7, w8⟩ := u
  obtain ⟨hr, ht, hf⟩ := hq
  cases hd : si_isR q.toInt64 with
  | true =>
    obtain ⟨sr, h1, h2, rfl, him⟩ := ht hd
    have hdk2 : ∀ k, k < 23 → w8 k = si_im wr (nI sr).toNatClampNeg k := by rw [nI_clamp (by omega)]; exact him
    exact ⟨_, ⟨(wr, pa, si_im wr (nI sr).toNatClampNeg, ld), ⟨hr, (if_pos hd).symm⟩, mW, mD, mT, mP, mR, mA, mK, mO, mB, mI, mN, mH, mC, nI wr.length, zt, zn, ze, nI pa.length, a1, f1, ft, fp, fr, fa, a2, a3, a4, a6, a7, fc, w8, a5, rfl, rfl, rfl, hok, hf1, hpa, hf2, hdk2, hld⟩, fun H A hP hD => ⟨hP.sub [5, 6, 7, 0, 1, 2, 3, 8, 9, 10, 11, 12, 13, 4] rfl, hD.sub [5, 6, 7, 0, 1, 2, 3, 8, 9, 10, 11, 12, 13, 4] (by decide +kernel) rfl⟩⟩
  | false =>
    have e : fd = w8 := (hf hd).symm
    subst e
    exact ⟨_, ⟨(wr, pa, dk, ld), ⟨hr, (if_neg (by rw [hd]; decide)).symm⟩, mW, mD, mT, mP, mR, mA, mK, mO, mB, mI, mN, mH, mC, nI wr.length, zt, zn, ze, nI pa.length, a1, f1, ft, fp, fr, fa, a2, a3, a4, a6, a7, fc, fd, a5, rfl, rfl, rfl, hok, hf1, hpa, hf2, hdk, hld⟩, fun H A hP hD => ⟨hP.sub [5, 6, 7, 0, 1, 2, 3, 8, 9, 10, 11, 12, 13, 4] rfl, hD.sub [5, 6, 7, 0, 1, 2, 3, 8, 9, 10, 11, 12, 13, 4] (by decide +kernel) rfl⟩⟩
set_option maxHeartbeats 4000000 in
set_option maxRecDepth 100000 in
theorem bX_load (l : Launch) (g : si_G) (x0 : Nat) (ab : si_AB) (ws : va_W)  (h : si_XR g x0 ab ws) : si_Mi (S := va_W) l g vwCl zyX_load zwX_load ({ frames := 5, cells := 0, slots := 0, locals := 115 } : Room) [.ref x0] ws (fun r u => ∃ ab', st_load ab r ab' ∧ si_XR g x0 ab' u) (fun u => u) := by
  obtain ⟨wr, pa, dk, ld⟩ := ab
  obtain ⟨xw, xwa, xp, xpa, xd, xda, xe, xea, xb, b1, b2, b3, b4, xl, lt, lta, lz, lsr, lsp, xt, tt, tta, tz, tsr, tsp, s1, s2, lsz, tsz, f1, f2, fc, fo, fn, ff, lf, lfr, lfp, tf, tfr, tfp, fw, fe, ba, lr, la, tr, ta, rfl, hz1, hz2, hok, hf1, hpa, hf2, hdk, hld⟩ := h
  have hz1 : s1 = wr.length := hz1
  have hz2 : s2 = pa.length := hz2
  subst hz1 hz2
  have hok : si_ok wr := hok
  have hpa : si_okp pa := hpa
  have hf1 : si_ln wr f1 := hf1
  have hf2 : si_ln pa f2 := hf2
  have hdk : ∀ k, k < 23 → fw k = dk k := hdk
  refine (cX_load l g x0 xw xp xd xe xb xl xt tt tz tsr tsp b1 b2 b3 b4 tr ta ba tfr tfp fc fo fn ff tta xda xea tsz tf fw fe).lift (wr := [(xw, .inr (2, [.ref xwa, .int (nI wr.length)])), (xwa, .inl (g.2.1, 60, .inl f1)), (xp, .inr (2, [.ref xpa, .int (nI pa.length)])), (xpa, .inl (g.2.1, 20, .inl f2)), (xl, .inr (3, [.ref lt, .ref lz, .int lr])), (lt, .inr (2, [.ref lta, .int (nI lsz)])), (lta, .inl (g.2.1, 60, .inl lf)), (lz, .inr (4, [.ref lsr, .ref lsp, .int la])), (lsr, .inl (g.2.1, 61, .inl lfr)), (lsp, .inl (g.2.1, 61, .inl lfp))]) [0, 20, 21, 22, 23, 24, 25, 9, 10, 11, 12, 13, 5, 6, 7, 8] [1, 2, 3, 4, 14, 15, 16, 17, 18, 19] rfl rfl (by decide +kernel) (by decide +kernel) (fun r u hq => ?_)
  obtain ⟨u1, u2, u3, u4, u5, u6, u7, u8, u9, u10, u11, u12, u13, u14⟩ := u
  rcases hq with ⟨hr, e1, e2, t, sr, his, e3, e4, hln, hsu⟩ | ⟨hr, e1, e2, hno⟩
  · have e1 : xt = u1 := (show u1 = xt from e1).symm
    have e2 : xl = u2 := (show u2 = xl from e2).symm
    have e3 : u3 = nI sr := e3
    have e4 : u5 = t.length := e4
    have hln : si_ln t u4 := hln
    have hsu : si_su t u6 u7 := hsu
    subst e1
    subst e2
    subst e3
    subst e4
    exact ⟨_, ⟨(wr, pa, dk, some (t, sr)), Or.inl ⟨hr, t, sr, (si_is_congr hdk).mp his, rfl⟩, xw, xwa, xp, xpa, xd, xda, xe, xea, xb, b1, b2, b3, b4, xt, tt, tta, tz, tsr, tsp, u2, lt, lta, lz, lsr, lsp, wr.length, pa.length, t.length, lsz, f1, f2, u9, u10, u11, u12, u4, u6, u7, lf, lfr, lfp, fw, u14, u13, nI sr, u8, lr, la, rfl, rfl, rfl, hok, hf1, hpa, hf2, hdk, ⟨his.1, his.2.1, his.2.2.1, rfl, rfl, hln, hsu⟩⟩, fun H A hP hD => ⟨hP.sub [10, 0, 1, 2, 3, 22, 23, 24, 25, 17, 18, 19, 20, 21, 11, 12, 13, 14, 15, 16, 4, 5, 6, 7, 8, 9] rfl, hD.sub [10, 0, 1, 2, 3, 22, 23, 24, 25, 17, 18, 19, 20, 21, 11, 12, 13, 14, 15, 16, 4, 5, 6, 7, 8, 9] (by decide +kernel) rfl⟩⟩
  · have e1 : xl = u1 := (show u1 = xl from e1).symm
    have e2 : xt = u2 := (show u2 = xt from e2).symm
    subst e1
    subst e2
    exact ⟨_, ⟨(wr, pa, dk, ld), Or.inr ⟨hr, fun v k hv => hno v k ((si_is_congr hdk).mpr hv), rfl⟩, xw, xwa, xp, xpa, xd, xda, xe, xea, xb, b1, b2, b3, b4, xl, lt, lta, lz, lsr, lsp, u2, tt, tta, tz, tsr, tsp, wr.length, pa.length, lsz, u5, f1, f2, u9, u10, u11, u12, lf, lfr, lfp, u4, u6, u7, fw, u14, u13, lr, la, u3, u8, rfl, rfl, rfl, hok, hf1, hpa, hf2, hdk, hld⟩, fun H A hP hD => ⟨hP.sub [10, 0, 1, 2, 3, 22, 23, 24, 25, 17, 18, 19, 20, 21, 4, 5, 6, 7, 8, 9, 11, 12, 13, 14, 15, 16] rfl, hD.sub [10, 0, 1, 2, 3, 22, 23, 24, 25, 17, 18, 19, 20, 21, 4, 5, 6, 7, 8, 9, 11, 12, 13, 14, 15, 16] (by decide +kernel) rfl⟩⟩
set_option maxHeartbeats 4000000 in
set_option maxRecDepth 100000 in
theorem bM_load (l : Launch) (g : si_G) (y0 : Nat) (ab : si_AB) (ws : va_W)  (h : si_MR g y0 ab ws) : si_Mi (S := va_W) l g vwCl zyM_load zwM_load ({ frames := 3, cells := 0, slots := 0, locals := 70 } : Room) [.ref y0] ws (fun r u => ∃ ab', st_load ab r ab' ∧ si_MR g y0 ab' u) (fun u => u) := by
  obtain ⟨wr, pa, dk, ld⟩ := ab
  obtain ⟨mW, mD, mT, mP, mR, mA, mK, mO, mB, mI, mN, mH, mC, zs, zt, zn, ze, za, zm, f1, ft, fp, fr, fa, fk, fo, fb, fn, fh, fc, fd, fi, rfl, hz1, hz2, hok, hf1, hpa, hf2, hdk, hld⟩ := h
  have hz1 : zs = nI wr.length := hz1
  have hz2 : za = nI pa.length := hz2
  subst hz1 hz2
  have hok : si_ok wr := hok
  have hpa : si_okp pa := hpa
  have hf1 : si_ln wr f1 := hf1
  have hf2 : si_ln pa fa := hf2
  have hdk : ∀ k, k < 23 → fd k = dk k := hdk
  refine (cM_load l g y0 mW mD mT mP mR mA mK mO mB mI mN mH mC (nI wr.length) zt zn ze (nI pa.length) zm ft fp fr fk fo fb fn fh fc fi fd).lift (wr := [(mW, .inl (g.2.1, 60, .inl f1)), (mA, .inl (g.2.1, 20, .inl fa))]) [0, 2, 3, 4, 5, 7, 8, 9, 10, 11, 12, 13] [1, 6] rfl rfl (by decide +kernel) (by decide +kernel) (fun r u hq => ?_)
  obtain ⟨u1, u2, u3, u4, u5, u6, u7, u8, u9, u10, u11, u12, u13, u14⟩ := u
  rcases hq with ⟨hr, t, sr, his, e1, e2, e3, hft, hsu⟩ | ⟨hr, hno, e1, e2, e3, e4, e5, e6⟩
  · have e1 : u1 = nI 1 := e1
    have e2 : u2 = nI t.length := e2
    have e3 : u3 = nI sr := e3
    have hsu : si_su t u7 u6 := hsu
    subst e1
    subst e2
    subst e3
    exact ⟨_, ⟨(wr, pa, dk, some (t, sr)), Or.inl ⟨hr, t, sr, (si_is_congr hdk).mp his, rfl⟩, mW, mD, mT, mP, mR, mA, mK, mO, mB, mI, mN, mH, mC, nI wr.length, nI 1, nI t.length, nI sr, nI pa.length, u4, f1, u5, u6, u7, fa, u8, u9, u10, u12, u13, u14, fd, u11, rfl, rfl, rfl, hok, hf1, hpa, hf2, hdk, ⟨his.1, his.2.1, his.2.2.1, rfl, rfl, rfl, hft, hsu⟩⟩, fun H A hP hD => ⟨hP.sub [2, 0, 3, 4, 5, 6, 1, 7, 8, 9, 10, 11, 12, 13] rfl, hD.sub [2, 0, 3, 4, 5, 6, 1, 7, 8, 9, 10, 11, 12, 13] (by decide +kernel) rfl⟩⟩
  · have e1 : zt = u1 := (show u1 = zt from e1).symm
    have e2 : zn = u2 := (show u2 = zn from e2).symm
    have e3 : ze = u3 := (show u3 = ze from e3).symm
    have e4 : ft = u5 := (show u5 = ft from e4).symm
    have e5 : fp = u6 := (show u6 = fp from e5).symm
    have e6 : fr = u7 := (show u7 = fr from e6).symm
    subst e1
    subst e2
    subst e3
    subst e4
    subst e5
    subst e6
    exact ⟨_, ⟨(wr, pa, dk, ld), Or.inr ⟨hr, fun v k hv => hno v k ((si_is_congr hdk).mpr hv), rfl⟩, mW, mD, mT, mP, mR, mA, mK, mO, mB, mI, mN, mH, mC, nI wr.length, zt, u2, u3, nI pa.length, u4, f1, u5, u6, u7, fa, u8, u9, u10, u12, u13, u14, fd, u11, rfl, rfl, rfl, hok, hf1, hpa, hf2, hdk, hld⟩, fun H A hP hD => ⟨hP.sub [2, 0, 3, 4, 5, 6, 1, 7, 8, 9, 10, 11, 12, 13] rfl, hD.sub [2, 0, 3, 4, 5, 6, 1, 7, 8, 9, 10, 11, 12, 13] (by decide +kernel) rfl⟩⟩
