/-! The law: its calls over the two whole objects. Written by wip/draft/p30.py -/
section SIAP
variable {D : va_G} {cl : List vw_C} {wc wr w1 : va_W} {H H1 : Heap} {A : Nat → Prop}
theorem si_apl {k : Nat} {q : Nat × va_E} (h : wc[k]? = some q) : (wc ++ wr)[k]? = some q := by
  rw [List.getElem?_append_left (List.getElem?_eq_some_iff.mp h).1]; exact h
theorem si_apr {k : Nat} {q : Nat × va_E} (h : wr[k]? = some q) : (wc ++ wr)[wc.length + k]? = some q := by
  rw [List.getElem?_append_right (by omega), show wc.length + k - wc.length = k by omega]; exact h
theorem si_leftP (h : va_P D cl (wc ++ wr) H) : va_P D cl wc H := fun k q hk => h k q (si_apl hk)
theorem si_rightP (h : va_P D cl (wc ++ wr) H) : va_P D cl wr H := fun k q hk => h _ q (si_apr hk)
theorem si_leftD (h : va_D A (wc ++ wr)) : va_D A wc := ⟨fun i j x y hi hj e => h.1 i j x y (si_apl hi) (si_apl hj) e, fun k q hk => h.2 k q (si_apl hk)⟩
theorem si_rightD (h : va_D A (wc ++ wr)) : va_D A wr := ⟨fun i j x y hi hj e => by have := h.1 _ _ x y (si_apr hi) (si_apr hj) e; omega, fun k q hk => h.2 _ q (si_apr hk)⟩
theorem si_lrD (h : va_D A (wc ++ wr)) : ∀ (i j : Nat) (x y : Nat × va_E), wc[i]? = some x → wr[j]? = some y → x.1 ≠ y.1 := fun i j x y hi hj e => by
  have h1 := h.1 _ _ x y (si_apl hi) (si_apr hj) e
  have h2 := (List.getElem?_eq_some_iff.mp hi).1
  omega
theorem si_swapP (h : va_P D cl (wc ++ wr) H) : va_P D cl (wr ++ wc) H := va_P.app (si_rightP h) (si_leftP h)
theorem si_swapD (h : va_D A (wc ++ wr)) : va_D A (wr ++ wc) := va_D.app (si_rightD h) (si_leftD h) (fun i j x y hi hj e => si_lrD h j i y x hj hi e.symm)
theorem si_joinA (hP : va_P D cl (wc ++ wr) H) (hD : va_D A (wc ++ wr)) (hk : ∀ q : Nat, q < H.size → ¬ va_A wc H.size q → H1[q]? = H[q]?) (hF : ∀ q, va_A wc H.size q → A q) (hP1 : va_P D cl w1 H1) (hD1 : va_D (va_A wc H.size) w1) : va_P D cl (w1 ++ wr) H1 ∧ va_D A (w1 ++ wr) := by
  have apart : ∀ (k : Nat) (q : Nat × va_E), wr[k]? = some q → q.1 < H.size ∧ ¬ va_A wc H.size q.1 := by
    intro k q hq
    have hl := (hP _ q (si_apr hq)).lt
    refine ⟨hl, fun h => ?_⟩
    rcases h with ⟨j, e, h⟩ | h
    · exact si_lrD hD j k _ q h hq rfl
    · omega
  refine ⟨va_P.app hP1 (fun k q hq => ?_), va_D.app (hD1.weaken (fun k q _ h => hF q.1 h)) (si_rightD hD) (fun i j x y hi hj e => ?_)⟩
  · obtain ⟨g1, g2⟩ := apart k q hq
    exact (hP _ q (si_apr hq)).kept (hk q.1 g1 g2)
  · exact (apart j y hj).2 (by rw [← e]; exact hD1.2 i x hi)
end SIAP
theorem si_Mi.callX {p : Program} {l : Launch} {e : Env} {R : Room} {s : State} {m : MethodId} {args : Array Value} {below : List Frame} {meth : Method} {c : Code} {H : Heap} {locs : List Loc} {cells slots : Nat} {Q : State → Prop} {cc : ByteArray} {pc nL n index maxL : Nat} {ls : Array Slot} {rest st0 As : List Value} {b : Addr} {C : String} {ret : Option FieldType} {own : String} {Ts : List Cond} {bytes : ByteArray} {A : Nat → Prop} {g : si_G} {cl : List vw_C} {y : MethodName} {w : List Cond} {rm : Room} {wc wr : va_W} {post : Int32 → va_W → Prop}
    (hM : si_Mi (S := va_W) l g cl y w rm (.ref b :: As) wc post (fun u => u)) (F : CallFix p m c cc nL s args Ts own) (cw : CallW R s args own C index y bytes maxL ret w rm rm.cells rm.slots n)
    (hK : va_K g.1 cl (si_T g) s) (hN : si_NK s) (hP : va_P g.1 cl (wc ++ wr) H) (hD : va_D A (wc ++ wr)) (hS : va_S A s.heap H locs) (hA : ∀ q, s.heap.size ≤ q → A q)
    (hrc : ∃ cell : Cell, H[b]? = some cell ∧ cell.vm.isStatics = false ∧ s.vm.findClass C = some cell.cls)
    (hn : As.length = n) (hsize : ls.size = nL) (hst : st0 = As.reverse ++ .ref b :: rest) (hW : (rest.map fun v => v.category).sum ≤ 8) (hdg : decode cc pc = .ok (.invokevirtual index, 3)) (hf : cells ≤ R.cells ∧ slots ≤ R.slots)
    (hc0 : rm.cells = 0) (hs0 : rm.slots = 0)
    (kk : ∀ (r : Int32) (u : va_W) (H1 : Heap) (locs1 : List Loc), post r u → va_P g.1 cl (u ++ wr) H1 → va_D A (u ++ wr) → va_S A s.heap H1 locs1 → W p l e R s m args below meth c H1 locs1 cells slots Q (F0 m (pc + 3) ls (.int r :: rest))) :
    W p l e R s m args below meth c H locs cells slots Q (F0 m pc ls st0) := by
  have hPc := si_leftP hP
  have hDc := si_leftD hD
  have hFc : ∀ q, va_A wc H.size q → A q := fun q h => by
    rcases h with ⟨j, e, h⟩ | h
    · exact hDc.2 j _ h
    · exact hA q (Nat.le_trans hS.1 h)
  subst hst
  refine va_calli (va_runV F (hM H.size) cw ⟨si_blind g cl wc H.size _, hrc, fun U hU hW => ⟨rfl, by rw [hU], by rw [hU]; exact hPc, va_K.moved hW.alike hK, hDc.weaken (fun _ _ _ _ => trivial), hN.warm hW⟩⟩ rfl hn hsize rfl (lv_room hW) hdg (by rw [hc0, hs0]; exact hf)) hS (fun q _ h => hFc q h) hFc (fun r u t H1 locs1 ht hvm hpost hB hz hk hS1 => ?_)
  obtain ⟨hP1, hK1, hD1⟩ := hB
  rw [ht] at hP1
  obtain ⟨hP2, hD2⟩ := si_joinA hP hD hk hFc hP1 hD1
  rw [hc0, hs0]
  exact kk r u H1 locs1 hpost hP2 hD2 hS1
theorem si_Ml.callX {p : Program} {l : Launch} {e : Env} {R : Room} {s : State} {m : MethodId} {args : Array Value} {below : List Frame} {meth : Method} {c : Code} {H : Heap} {locs : List Loc} {cells slots : Nat} {Q : State → Prop} {cc : ByteArray} {pc nL n index maxL : Nat} {ls : Array Slot} {rest st0 As : List Value} {b : Addr} {C : String} {ret : Option FieldType} {own : String} {Ts : List Cond} {bytes : ByteArray} {A : Nat → Prop} {g : si_G} {cl : List vw_C} {y : MethodName} {w : List Cond} {rm : Room} {wc wr : va_W} {post : Int64 → va_W → Prop}
    (hM : si_Ml (S := va_W) l g cl y w rm (.ref b :: As) wc post (fun u => u)) (F : CallFix p m c cc nL s args Ts own) (cw : CallW R s args own C index y bytes maxL ret w rm rm.cells rm.slots n)
    (hK : va_K g.1 cl (si_T g) s) (hN : si_NK s) (hP : va_P g.1 cl (wc ++ wr) H) (hD : va_D A (wc ++ wr)) (hS : va_S A s.heap H locs) (hA : ∀ q, s.heap.size ≤ q → A q)
    (hrc : ∃ cell : Cell, H[b]? = some cell ∧ cell.vm.isStatics = false ∧ s.vm.findClass C = some cell.cls)
    (hn : As.length = n) (hsize : ls.size = nL) (hst : st0 = As.reverse ++ .ref b :: rest) (hW : (rest.map fun v => v.category).sum ≤ 8) (hdg : decode cc pc = .ok (.invokevirtual index, 3)) (hf : cells ≤ R.cells ∧ slots ≤ R.slots)
    (hc0 : rm.cells = 0) (hs0 : rm.slots = 0)
    (kk : ∀ (r : Int64) (u : va_W) (H1 : Heap) (locs1 : List Loc), post r u → va_P g.1 cl (u ++ wr) H1 → va_D A (u ++ wr) → va_S A s.heap H1 locs1 → W p l e R s m args below meth c H1 locs1 cells slots Q (F0 m (pc + 3) ls (.long r :: rest))) :
    W p l e R s m args below meth c H locs cells slots Q (F0 m pc ls st0) := by
  have hPc := si_leftP hP
  have hDc := si_leftD hD
  have hFc : ∀ q, va_A wc H.size q → A q := fun q h => by
    rcases h with ⟨j, e, h⟩ | h
    · exact hDc.2 j _ h
    · exact hA q (Nat.le_trans hS.1 h)
  subst hst
  refine va_calll (va_runV F (hM H.size) cw ⟨si_blind g cl wc H.size _, hrc, fun U hU hW => ⟨rfl, by rw [hU], by rw [hU]; exact hPc, va_K.moved hW.alike hK, hDc.weaken (fun _ _ _ _ => trivial), hN.warm hW⟩⟩ rfl hn hsize rfl (lv_room hW) hdg (by rw [hc0, hs0]; exact hf)) hS (fun q _ h => hFc q h) hFc (fun r u t H1 locs1 ht hvm hpost hB hz hk hS1 => ?_)
  obtain ⟨hP1, hK1, hD1⟩ := hB
  rw [ht] at hP1
  obtain ⟨hP2, hD2⟩ := si_joinA hP hD hk hFc hP1 hD1
  rw [hc0, hs0]
  exact kk r u H1 locs1 hpost hP2 hD2 hS1
theorem si_Mv.callX {p : Program} {l : Launch} {e : Env} {R : Room} {s : State} {m : MethodId} {args : Array Value} {below : List Frame} {meth : Method} {c : Code} {H : Heap} {locs : List Loc} {cells slots : Nat} {Q : State → Prop} {cc : ByteArray} {pc nL n index maxL : Nat} {ls : Array Slot} {rest st0 As : List Value} {b : Addr} {C : String} {ret : Option FieldType} {own : String} {Ts : List Cond} {bytes : ByteArray} {A : Nat → Prop} {g : si_G} {cl : List vw_C} {y : MethodName} {w : List Cond} {rm : Room} {wc wr : va_W} {post : va_W → Prop}
    (hM : si_Mv (S := va_W) l g cl y w rm (.ref b :: As) wc post (fun u => u)) (F : CallFix p m c cc nL s args Ts own) (cw : CallW R s args own C index y bytes maxL ret w rm rm.cells rm.slots n)
    (hK : va_K g.1 cl (si_T g) s) (hN : si_NK s) (hP : va_P g.1 cl (wc ++ wr) H) (hD : va_D A (wc ++ wr)) (hS : va_S A s.heap H locs) (hA : ∀ q, s.heap.size ≤ q → A q)
    (hrc : ∃ cell : Cell, H[b]? = some cell ∧ cell.vm.isStatics = false ∧ s.vm.findClass C = some cell.cls)
    (hn : As.length = n) (hsize : ls.size = nL) (hst : st0 = As.reverse ++ .ref b :: rest) (hW : (rest.map fun v => v.category).sum ≤ 8) (hdg : decode cc pc = .ok (.invokevirtual index, 3)) (hf : cells ≤ R.cells ∧ slots ≤ R.slots)
    (hc0 : rm.cells = 0) (hs0 : rm.slots = 0)
    (kk : ∀ (u : va_W) (H1 : Heap) (locs1 : List Loc), post u → va_P g.1 cl (u ++ wr) H1 → va_D A (u ++ wr) → va_S A s.heap H1 locs1 → W p l e R s m args below meth c H1 locs1 cells slots Q (F0 m (pc + 3) ls (rest))) :
    W p l e R s m args below meth c H locs cells slots Q (F0 m pc ls st0) := by
  have hPc := si_leftP hP
  have hDc := si_leftD hD
  have hFc : ∀ q, va_A wc H.size q → A q := fun q h => by
    rcases h with ⟨j, e, h⟩ | h
    · exact hDc.2 j _ h
    · exact hA q (Nat.le_trans hS.1 h)
  subst hst
  refine va_callv (va_runV F (hM H.size) cw ⟨si_blind g cl wc H.size _, hrc, fun U hU hW => ⟨rfl, by rw [hU], by rw [hU]; exact hPc, va_K.moved hW.alike hK, hDc.weaken (fun _ _ _ _ => trivial), hN.warm hW⟩⟩ rfl hn hsize rfl (lv_room hW) hdg (by rw [hc0, hs0]; exact hf)) hS (fun q _ h => hFc q h) hFc (fun u t H1 locs1 ht hvm hpost hB hz hk hS1 => ?_)
  obtain ⟨hP1, hK1, hD1⟩ := hB
  rw [ht] at hP1
  obtain ⟨hP2, hD2⟩ := si_joinA hP hD hk hFc hP1 hD1
  rw [hc0, hs0]
  exact kk u H1 locs1 hpost hP2 hD2 hS1
theorem si_XR_recv {g : si_G} {x0 : Nat} {ab : si_AB} {ws wr : va_W} {s : State} {H : Heap} (h : si_XR g x0 ab ws) (hK : va_K g.1 vwCl (si_T g) s) (hP : va_P g.1 vwCl (ws ++ wr) H) : ∃ cell : Cell, H[x0]? = some cell ∧ cell.vm.isStatics = false ∧ s.vm.findClass zRX = some cell.cls := by
  unfold si_XR at h
  obtain ⟨_, _, _, _, _, _, _, _, _, _, _, _, _, _, _, _, _, _, _, _, _, _, _, _, _, _, _, _, _, _, _, _, _, _, _, _, _, _, _, _, _, _, _, _, _, _, _, _, rfl, -⟩ := h
  exact va_recv (q := (zRX, zTX, 7)) hK hP (ci := 5) (q0 := 0) rfl rfl
theorem si_MR_recv {g : si_G} {y0 : Nat} {ab : si_AB} {ws wr : va_W} {s : State} {H : Heap} (h : si_MR g y0 ab ws) (hK : va_K g.1 vwCl (si_T g) s) (hP : va_P g.1 vwCl (ws ++ wr) H) : ∃ cell : Cell, H[y0]? = some cell ∧ cell.vm.isStatics = false ∧ s.vm.findClass zRM = some cell.cls := by
  unfold si_MR at h
  obtain ⟨_, _, _, _, _, _, _, _, _, _, _, _, _, _, _, _, _, _, _, _, _, _, _, _, _, _, _, _, _, _, _, _, rfl, -⟩ := h
  exact va_recv (q := (zRM, zTM, 19)) hK hP (ci := 6) (q0 := 0) rfl rfl
theorem si_is_one {d : Nat → Int64} {t u : List Nat} {i j : Nat} (h1 : si_is d t i) (h2 : si_is d u j) : t = u ∧ i = j := by
  obtain ⟨hd, hh⟩ := si_hd_of d
  have e1 := si_is_hd hh h1
  have e2 := si_is_hd hh h2
  have a1 := h1.1.1
  have a2 := h2.1.1
  have hl : t.length = u.length := by omega
  refine ⟨si_spell h1.1 h2.1 hl (fun x hx => ?_), by omega⟩
  rw [← si_is_codes h1 hx, ← si_is_codes h2 (by omega), hl]
theorem st_write_det {ab ab1 ab2 : si_AB} {k : Nat} {r1 r2 : Int32} (h1 : st_write ab k r1 ab1) (h2 : st_write ab k r2 ab2) : r1 = r2 ∧ ab1 = ab2 := ⟨h1.1.trans h2.1.symm, h1.2.trans h2.2.symm⟩
theorem st_ask_det {ab ab1 ab2 : si_AB} {k : Nat} {r1 r2 : Int32} (h1 : st_ask ab k r1 ab1) (h2 : st_ask ab k r2 ab2) : r1 = r2 ∧ ab1 = ab2 := ⟨h1.1.trans h2.1.symm, h1.2.trans h2.2.symm⟩
theorem st_build_det {ab ab1 ab2 : si_AB} {q : Int32} {r1 r2 : Int32} (h1 : st_build ab q r1 ab1) (h2 : st_build ab q r2 ab2) : r1 = r2 ∧ ab1 = ab2 := ⟨h1.1.trans h2.1.symm, h1.2.trans h2.2.symm⟩
theorem st_word_det {ab ab1 ab2 : si_AB} {q : Int32} {r1 r2 : Int64} (h1 : st_word ab q r1 ab1) (h2 : st_word ab q r2 ab2) : r1 = r2 ∧ ab1 = ab2 := ⟨h1.1.trans h2.1.symm, h1.2.trans h2.2.symm⟩
theorem st_put_det {ab ab1 ab2 : si_AB} {q : Int32} {x : Int64} {r1 r2 : Int32} (h1 : st_put ab q x r1 ab1) (h2 : st_put ab q x r2 ab2) : r1 = r2 ∧ ab1 = ab2 := ⟨h1.1.trans h2.1.symm, h1.2.trans h2.2.symm⟩
theorem st_flip_det {ab ab1 ab2 : si_AB} {q q2 : Int32} {r1 r2 : Int32} (h1 : st_flip ab q q2 r1 ab1) (h2 : st_flip ab q q2 r2 ab2) : r1 = r2 ∧ ab1 = ab2 := ⟨h1.1.trans h2.1.symm, h1.2.trans h2.2.symm⟩
theorem st_erase_det {ab ab1 ab2 : si_AB} (h1 : st_erase ab ab1) (h2 : st_erase ab ab2) : ab1 = ab2 := h1.trans h2.symm
theorem st_back_det {ab ab1 ab2 : si_AB} {r1 r2 : Int32} (h1 : st_back ab r1 ab1) (h2 : st_back ab r2 ab2) : r1 = r2 ∧ ab1 = ab2 := by
  rcases h1 with ⟨a1, a2, a3⟩ | ⟨a1, a2, a3⟩ <;> rcases h2 with ⟨b1, b2, b3⟩ | ⟨b1, b2, b3⟩
  · exact ⟨a1.trans b1.symm, a3.trans b3.symm⟩
  · exact absurd b2 a2
  · exact absurd a2 b2
  · exact ⟨a1.trans b1.symm, a3.trans b3.symm⟩
theorem st_load_det {ab ab1 ab2 : si_AB} {r1 r2 : Int32} (h1 : st_load ab r1 ab1) (h2 : st_load ab r2 ab2) : r1 = r2 ∧ ab1 = ab2 := by
  rcases h1 with ⟨a1, t, i, a2, a3⟩ | ⟨a1, a2, a3⟩ <;> rcases h2 with ⟨b1, u, j, b2, b3⟩ | ⟨b1, b2, b3⟩
  · obtain ⟨e1, e2⟩ := si_is_one a2 b2
    subst e1 e2
    exact ⟨a1.trans b1.symm, a3.trans b3.symm⟩
  · exact absurd a2 (b2 _ _)
  · exact absurd b2 (a2 _ _)
  · exact ⟨a1.trans b1.symm, a3.trans b3.symm⟩
theorem st_length_det {ab ab1 ab2 : si_AB} {r1 r2 : Int32} (h1 : st_length ab r1 ab1) (h2 : st_length ab r2 ab2) : r1 = r2 ∧ ab1 = ab2 := by
  obtain ⟨wr, pa, dk, ld⟩ := ab
  refine ⟨?_, h1.2.trans h2.2.symm⟩
  cases ld with
  | none => exact (show r1 = -1 from h1.1).trans (show r2 = -1 from h2.1).symm
  | some x => exact h1.1.trans h2.1.symm
theorem st_rate_det {ab ab1 ab2 : si_AB} {r1 r2 : Int32} (h1 : st_rate ab r1 ab1) (h2 : st_rate ab r2 ab2) : r1 = r2 ∧ ab1 = ab2 := by
  obtain ⟨wr, pa, dk, ld⟩ := ab
  refine ⟨?_, h1.2.trans h2.2.symm⟩
  cases ld with
  | none => exact (show r1 = -1 from h1.1).trans (show r2 = -1 from h2.1).symm
  | some x => exact h1.1.trans h2.1.symm
theorem st_charAt_det {ab ab1 ab2 : si_AB} {q : Int32} {r1 r2 : Int32} (h1 : st_charAt ab q r1 ab1) (h2 : st_charAt ab q r2 ab2) : r1 = r2 ∧ ab1 = ab2 := by
  obtain ⟨wr, pa, dk, ld⟩ := ab
  refine ⟨?_, h1.2.trans h2.2.symm⟩
  cases ld with
  | none => exact (show r1 = -1 from h1.1).trans (show r2 = -1 from h2.1).symm
  | some x => exact h1.1.trans h2.1.symm
theorem st_rowOf_det {ab ab1 ab2 : si_AB} {q : Int32} {r1 r2 : Int32} (h1 : st_rowOf ab q r1 ab1) (h2 : st_rowOf ab q r2 ab2) : r1 = r2 ∧ ab1 = ab2 := by
  obtain ⟨wr, pa, dk, ld⟩ := ab
  refine ⟨?_, h1.2.trans h2.2.symm⟩
  cases ld with
  | none => exact (show r1 = -1 from h1.1).trans (show r2 = -1 from h2.1).symm
  | some x => exact h1.1.trans h2.1.symm
theorem st_placeOf_det {ab ab1 ab2 : si_AB} {q : Int32} {r1 r2 : Int32} (h1 : st_placeOf ab q r1 ab1) (h2 : st_placeOf ab q r2 ab2) : r1 = r2 ∧ ab1 = ab2 := by
  obtain ⟨wr, pa, dk, ld⟩ := ab
  refine ⟨?_, h1.2.trans h2.2.symm⟩
  cases ld with
  | none => exact (show r1 = -1 from h1.1).trans (show r2 = -1 from h2.1).symm
  | some x => exact h1.1.trans h2.1.symm
theorem st_count_det {ab ab1 ab2 : si_AB} {r1 r2 : Int32} (h1 : st_count ab r1 ab1) (h2 : st_count ab r2 ab2) : r1 = r2 ∧ ab1 = ab2 := by
  obtain ⟨wr, pa, dk, ld⟩ := ab
  refine ⟨?_, h1.2.trans h2.2.symm⟩
  cases ld with
  | none => exact (show r1 = -1 from h1.1).trans (show r2 = -1 from h2.1).symm
  | some x => exact h1.1.trans h2.1.symm
theorem st_firstRow_det {ab ab1 ab2 : si_AB} {r1 r2 : Int32} (h1 : st_firstRow ab r1 ab1) (h2 : st_firstRow ab r2 ab2) : r1 = r2 ∧ ab1 = ab2 := by
  obtain ⟨wr, pa, dk, ld⟩ := ab
  refine ⟨?_, h1.2.trans h2.2.symm⟩
  cases ld with
  | none => exact (show r1 = -1 from h1.1).trans (show r2 = -1 from h2.1).symm
  | some x => exact si_fr_one h1.1 h2.1
theorem st_locate_det {ab ab1 ab2 : si_AB} {q : Int32} {r1 r2 : Int32} (h1 : st_locate ab q r1 ab1) (h2 : st_locate ab q r2 ab2) : r1 = r2 ∧ ab1 = ab2 := by
  obtain ⟨wr, pa, dk, ld⟩ := ab
  refine ⟨?_, h1.2.trans h2.2.symm⟩
  cases ld with
  | none => exact (show r1 = -1 from h1.1).trans (show r2 = -1 from h2.1).symm
  | some x => exact si_lcR_one h1.1 h2.1
theorem st_variety_det {ab ab1 ab2 : si_AB} {r1 r2 : Int32} (h1 : st_variety ab r1 ab1) (h2 : st_variety ab r2 ab2) : r1 = r2 ∧ ab1 = ab2 := by
  obtain ⟨wr, pa, dk, ld⟩ := ab
  refine ⟨?_, h1.2.trans h2.2.symm⟩
  cases ld with
  | none => exact (show r1 = -1 from h1.1).trans (show r2 = -1 from h2.1).symm
  | some x => exact h1.1.trans h2.1.symm
theorem si_l4 {L i : Nat} (hL : L ≤ 2048) (hi : i ≤ L) : nI L - nI 4 < nI i ↔ L < i + 4 := by
  rw [Int32.lt_iff_toInt_lt, pk_sub_toInt (by omega) (by decide), nI_toInt (by omega)]
  omega
theorem si_chr (x : Int32) : (x.toUInt32 % 65536).toInt32 = nI (x.toBitVec.toNat % 65536) := pk_char x
theorem si_sld {p : Program} {l : Launch} {e : Env} {R : Room} {s : State} {m : MethodId} {args : Array Value} {below : List Frame} {meth : Method} {c : Code} {H : Heap} {locs : List Loc} {cells slots : Nat} {Q : State → Prop} {cc : ByteArray} {pc : Nat} {ls : Array Slot} {rest : List Value} {A : Nat → Prop} {H0 : Heap} (hexec : p.tables.exec = Jvm.exec) (hb : c.code = cc) {b L : Nat} {xs : Nat → Int32} (hX : va_X b L xs s H0) (hbl : b < H0.size) (hbA : ¬ A b) (hS : va_S A H0 H locs) (hL : L < 2 ^ 31) {k : Nat} (hk : k < L) (hdg : decode cc pc = .ok (.iaload, 1))
    (kk : W p l e R s m args below meth c H locs cells slots Q (F0 m (pc + 1) ls (.int (xs k) :: rest))) : W p l e R s m args below meth c H locs cells slots Q (F0 m pc ls (.int (nI k) :: .ref b :: rest)) := by
  refine va_sld hexec hb hX hbl hbA hS (vp_in_nI hk hL) hdg ?_
  rw [nI_clamp (by omega)]
  exact kk
set_option maxHeartbeats 4000000 in
set_option maxRecDepth 100000 in
/-- the law's loop -/
theorem si_loop {p : Program} {l : Launch} {e : Env} {s : State} {m : MethodId} {below : List Frame} {meth : Method} {c : Code} {Q : State → Prop} {b L hx0 hm0 : Nat} {xs : Nat → Int32} {g : si_G} {A : Nat → Prop} (hL : L ≤ 2048) (hx : p.tables.exec = Jvm.exec) (hb : c.code = code) (hml : c.maxLocals = 4) (hown : s.vm.findClass zRW = some m.cls) (hts : ∀ w ∈ si_tbl, w.before #[Value.ref b] s = true) (hK : va_K g.1 vwCl (si_T g) s) (hN : si_NK s) (hA : ∀ q, s.heap.size ≤ q → A q) (hX : va_X b L xs s s.heap) (hbl : b < s.heap.size) (hbA : ¬ A b)
    (hend : ∀ (H : Heap) (locs : List Loc) (ls : Array Slot), va_S A s.heap H locs → W p l e room_1 s m #[Value.ref b] below meth c H locs 40 1462 Q (F0 m 513 ls [])) : ∀ (N i : Nat) (ab : si_AB) (wx wm : va_W) (H : Heap) (locs : List Loc) (ls : Array Slot), L - i < N → i ≤ L → si_XR g hx0 ab wx → si_MR g hm0 ab wm → lv_has ls 4 [(0, .ref b), (1, .ref hx0), (2, .ref hm0), (3, .int (nI i))] → va_P g.1 vwCl (wx ++ wm) H → va_D A (wx ++ wm) → va_S A s.heap H locs → W p l e room_1 s m #[Value.ref b] below meth c H locs 40 1462 Q (F0 m 18 ls []) := by
  have hF : CallFix p m c code 4 s #[Value.ref b] si_tbl zRW := ⟨hx, hb, hml, hown, hts⟩
  intro N
  induction N with
  | zero => intro i ab wx wm H locs ls hMs; exact absurd hMs (Nat.not_lt_zero _)
  | succ N ih =>
    intro i ab wx wm H locs ls hMs hi hXR hMR hl hP hD hS
    refine lv_iload_n hx hb zdW_law_18 rfl (lv_at hl 3 rfl) ?_
    refine lv_aload_n hx hb zdW_law_19 rfl (lv_at hl 0 rfl) ?_
    refine va_slen hx hb hX hbl hbA hS zdW_law_20 ?_
    refine lv_iconst (v := nI 4) hx hb zdW_law_21 (by decide) ?_
    refine si_isub (v := nI L - nI 4) hx hb zdW_law_22 rfl ?_
    refine lv_icmp_gt (tgt := 513) hx hb zdW_law_23 rfl (fun _ => hend _ _ _ hS) (fun h23 => ?_)
    have hi4 : i + 4 ≤ L := by apply Classical.byContradiction; intro z; exact h23 ((si_l4 hL hi).mpr (by omega))
    have T507 : ∀ (ab : si_AB) (wx wm : va_W) (H : Heap) (locs : List Loc) (ls : Array Slot), si_XR g hx0 ab wx → si_MR g hm0 ab wm → lv_has ls 4 [(0, .ref b), (1, .ref hx0), (2, .ref hm0), (3, .int (nI i))] → va_P g.1 vwCl (wx ++ wm) H → va_D A (wx ++ wm) → va_S A s.heap H locs → W p l e room_1 s m #[Value.ref b] below meth c H locs 40 1462 Q (F0 m 507 ls []) := by
      intro ab wx wm H locs ls hXR hMR hl hP hD hS
      refine lv_iinc (k := 3) (v := nI (i + 4)) (lv' := [(3, .int (nI (i + 4))), (0, .ref b), (1, .ref hx0), (2, .ref hm0)]) hx hb zdW_law_507 hl rfl (nI_add i 4) (Nat.le_of_ble_eq_true rfl) rfl (fun ls hl => ?_)
      refine lv_goto (tgt := 18) hx hb zdW_law_510 rfl ?_
      exact ih (i + 4) ab wx wm _ _ _ (by omega) hi4 hXR hMR (lv_sub hl [1, 2, 3, 0] rfl) hP hD hS
    refine lv_aload_n hx hb zdW_law_26 rfl (lv_at hl 0 rfl) ?_
    refine lv_iload_n hx hb zdW_law_27 rfl (lv_at hl 3 rfl) ?_
    refine si_sld hx hb hX hbl hbA hS (by omega) (k := i) (by omega) zdW_law_28 ?_
    refine lv_bipush (v := nI 31) hx hb zdW_law_29 (by decide) ?_
    obtain ⟨j, hj, hje⟩ := pk_andE (xs i) (m := nI 31) 5 (by decide)
    refine si_iand (v := nI j) hx hb zdW_law_31 hje ?_
    by_cases h17 : 17 < j
    · refine lv_tableOut (tgt := 507) hx hb zdW_law_32 (Or.inr (by rw [nI_toInt (by omega)]; omega)) rfl ?_
      exact T507 ab wx wm _ _ _ hXR hMR hl hP hD hS
    · rcases (show j = 0 ∨ j = 1 ∨ j = 2 ∨ j = 3 ∨ j = 4 ∨ j = 5 ∨ j = 6 ∨ j = 7 ∨ j = 8 ∨ j = 9 ∨ j = 10 ∨ j = 11 ∨ j = 12 ∨ j = 13 ∨ j = 14 ∨ j = 15 ∨ j = 16 ∨ j = 17 by omega) with rfl | rfl | rfl | rfl | rfl | rfl | rfl | rfl | rfl | rfl | rfl | rfl | rfl | rfl | rfl | rfl | rfl | rfl
      · refine lv_tableIn (tgt := 120) hx hb zdW_law_32 (by decide) (by decide) rfl rfl ?_
        refine lv_aload_n hx hb zdW_law_120 rfl (lv_at hl 1 rfl) ?_
        refine lv_aload_n hx hb zdW_law_121 rfl (lv_at hl 0 rfl) ?_
        refine lv_iload_n hx hb zdW_law_122 rfl (lv_at hl 3 rfl) ?_
        refine lv_iconst (v := nI 1) hx hb zdW_law_123 (by decide) ?_
        refine si_iadd (v := nI (i + 1)) hx hb zdW_law_124 (nI_add _ _) ?_
        refine si_sld hx hb hX hbl hbA hS (by omega) (k := i + 1) (by omega) zdW_law_125 ?_
        refine lv_i2c (v := nI ((xs (i + 1)).toBitVec.toNat % 65536)) hx hb zdW_law_126 (si_chr _) ?_
        refine (bX_write l g hx0 ab wx ((xs (i + 1)).toBitVec.toNat % 65536) (Nat.lt_trans (Nat.mod_lt _ (by decide)) (by decide)) hXR).callX (As := [.int (nI ((xs (i + 1)).toBitVec.toNat % 65536))]) (rest := []) hF (si_cV 1 hts zcX_write zlW_13 zimX_write zseX_write ziniX zhX_write ⟨Nat.le_of_ble_eq_true rfl, Nat.le_of_ble_eq_true rfl⟩) hK hN hP hD hS hA (si_XR_recv hXR hK hP) rfl hl.1 rfl (Nat.le_of_ble_eq_true rfl) zdW_law_127 ⟨Nat.le_of_ble_eq_true rfl, Nat.le_of_ble_eq_true rfl⟩ rfl rfl (fun r1 wx1 H locs hq1 hP hD hS => ?_)
        obtain ⟨ab1, hst1, hXR1⟩ := hq1
        refine lv_aload_n hx hb zdW_law_130 rfl (lv_at hl 2 rfl) ?_
        refine lv_aload_n hx hb zdW_law_131 rfl (lv_at hl 0 rfl) ?_
        refine lv_iload_n hx hb zdW_law_132 rfl (lv_at hl 3 rfl) ?_
        refine lv_iconst (v := nI 1) hx hb zdW_law_133 (by decide) ?_
        refine si_iadd (v := nI (i + 1)) hx hb zdW_law_134 (nI_add _ _) ?_
        refine si_sld hx hb hX hbl hbA hS (by omega) (k := i + 1) (by omega) zdW_law_135 ?_
        refine lv_i2c (v := nI ((xs (i + 1)).toBitVec.toNat % 65536)) hx hb zdW_law_136 (si_chr _) ?_
        have hP := si_swapP hP
        have hD := si_swapD hD
        refine (bM_write l g hm0 ab wm ((xs (i + 1)).toBitVec.toNat % 65536) (Nat.lt_trans (Nat.mod_lt _ (by decide)) (by decide)) hMR).callX (As := [.int (nI ((xs (i + 1)).toBitVec.toNat % 65536))]) (rest := [.int r1]) hF (si_cV 1 hts zcM_write zlW_17 zimM_write zseM_write ziniM zhM_write ⟨Nat.le_of_ble_eq_true rfl, Nat.le_of_ble_eq_true rfl⟩) hK hN hP hD hS hA (si_MR_recv hMR hK hP) rfl hl.1 rfl (Nat.le_of_ble_eq_true rfl) zdW_law_137 ⟨Nat.le_of_ble_eq_true rfl, Nat.le_of_ble_eq_true rfl⟩ rfl rfl (fun r2 wm2 H locs hq2 hP hD hS => ?_)
        obtain ⟨ab2, hst2, hMR2⟩ := hq2
        have hP := si_swapP hP
        have hD := si_swapD hD
        obtain ⟨e1, e2⟩ := st_write_det hst1 hst2
        subst e1 e2
        refine lv_icmp_eq (tgt := 507) hx hb zdW_law_140 rfl (fun _ => ?_) (fun z => absurd rfl z)
        exact T507 ab1 wx1 wm2 _ _ _ hXR1 hMR2 hl hP hD hS
      · refine lv_tableIn (tgt := 145) hx hb zdW_law_32 (by decide) (by decide) rfl rfl ?_
        refine lv_aload_n hx hb zdW_law_145 rfl (lv_at hl 1 rfl) ?_
        refine (bX_erase l g hx0 ab wx  hXR).callX (As := []) (rest := []) hF (si_cV 0 hts zcX_erase zlW_18 zimX_erase zseX_erase ziniX zhX_erase ⟨Nat.le_of_ble_eq_true rfl, Nat.le_of_ble_eq_true rfl⟩) hK hN hP hD hS hA (si_XR_recv hXR hK hP) rfl hl.1 rfl (Nat.le_of_ble_eq_true rfl) zdW_law_146 ⟨Nat.le_of_ble_eq_true rfl, Nat.le_of_ble_eq_true rfl⟩ rfl rfl (fun wx1 H locs hq1 hP hD hS => ?_)
        obtain ⟨ab1, hst1, hXR1⟩ := hq1
        refine lv_aload_n hx hb zdW_law_149 rfl (lv_at hl 2 rfl) ?_
        have hP := si_swapP hP
        have hD := si_swapD hD
        refine (bM_erase l g hm0 ab wm  hMR).callX (As := []) (rest := []) hF (si_cV 0 hts zcM_erase zlW_21 zimM_erase zseM_erase ziniM zhM_erase ⟨Nat.le_of_ble_eq_true rfl, Nat.le_of_ble_eq_true rfl⟩) hK hN hP hD hS hA (si_MR_recv hMR hK hP) rfl hl.1 rfl (Nat.le_of_ble_eq_true rfl) zdW_law_150 ⟨Nat.le_of_ble_eq_true rfl, Nat.le_of_ble_eq_true rfl⟩ rfl rfl (fun wm2 H locs hq2 hP hD hS => ?_)
        obtain ⟨ab2, hst2, hMR2⟩ := hq2
        have hP := si_swapP hP
        have hD := si_swapD hD
        have e2 := st_erase_det hst1 hst2
        subst e2
        refine lv_goto (tgt := 507) hx hb zdW_law_153 rfl ?_
        exact T507 ab1 wx1 wm2 _ _ _ hXR1 hMR2 hl hP hD hS
      · refine lv_tableIn (tgt := 156) hx hb zdW_law_32 (by decide) (by decide) rfl rfl ?_
        refine lv_aload_n hx hb zdW_law_156 rfl (lv_at hl 1 rfl) ?_
        refine lv_aload_n hx hb zdW_law_157 rfl (lv_at hl 0 rfl) ?_
        refine lv_iload_n hx hb zdW_law_158 rfl (lv_at hl 3 rfl) ?_
        refine lv_iconst (v := nI 1) hx hb zdW_law_159 (by decide) ?_
        refine si_iadd (v := nI (i + 1)) hx hb zdW_law_160 (nI_add _ _) ?_
        refine si_sld hx hb hX hbl hbA hS (by omega) (k := i + 1) (by omega) zdW_law_161 ?_
        refine (bX_build l g hx0 ab wx (xs (i + 1)) hXR).callX (As := [.int (xs (i + 1))]) (rest := []) hF (si_cV 1 hts zcX_build zlW_22 zimX_build zseX_build ziniX zhX_build ⟨Nat.le_of_ble_eq_true rfl, Nat.le_of_ble_eq_true rfl⟩) hK hN hP hD hS hA (si_XR_recv hXR hK hP) rfl hl.1 rfl (Nat.le_of_ble_eq_true rfl) zdW_law_162 ⟨Nat.le_of_ble_eq_true rfl, Nat.le_of_ble_eq_true rfl⟩ rfl rfl (fun r1 wx1 H locs hq1 hP hD hS => ?_)
        obtain ⟨ab1, hst1, hXR1⟩ := hq1
        refine lv_aload_n hx hb zdW_law_165 rfl (lv_at hl 2 rfl) ?_
        refine lv_aload_n hx hb zdW_law_166 rfl (lv_at hl 0 rfl) ?_
        refine lv_iload_n hx hb zdW_law_167 rfl (lv_at hl 3 rfl) ?_
        refine lv_iconst (v := nI 1) hx hb zdW_law_168 (by decide) ?_
        refine si_iadd (v := nI (i + 1)) hx hb zdW_law_169 (nI_add _ _) ?_
        refine si_sld hx hb hX hbl hbA hS (by omega) (k := i + 1) (by omega) zdW_law_170 ?_
        have hP := si_swapP hP
        have hD := si_swapD hD
        refine (bM_build l g hm0 ab wm (xs (i + 1)) hMR).callX (As := [.int (xs (i + 1))]) (rest := [.int r1]) hF (si_cV 1 hts zcM_build zlW_26 zimM_build zseM_build ziniM zhM_build ⟨Nat.le_of_ble_eq_true rfl, Nat.le_of_ble_eq_true rfl⟩) hK hN hP hD hS hA (si_MR_recv hMR hK hP) rfl hl.1 rfl (Nat.le_of_ble_eq_true rfl) zdW_law_171 ⟨Nat.le_of_ble_eq_true rfl, Nat.le_of_ble_eq_true rfl⟩ rfl rfl (fun r2 wm2 H locs hq2 hP hD hS => ?_)
        obtain ⟨ab2, hst2, hMR2⟩ := hq2
        have hP := si_swapP hP
        have hD := si_swapD hD
        obtain ⟨e1, e2⟩ := st_build_det hst1 hst2
        subst e1 e2
        refine lv_icmp_eq (tgt := 507) hx hb zdW_law_174 rfl (fun _ => ?_) (fun z => absurd rfl z)
        exact T507 ab1 wx1 wm2 _ _ _ hXR1 hMR2 hl hP hD hS
      · refine lv_tableIn (tgt := 179) hx hb zdW_law_32 (by decide) (by decide) rfl rfl ?_
        refine lv_aload_n hx hb zdW_law_179 rfl (lv_at hl 1 rfl) ?_
        refine lv_aload_n hx hb zdW_law_180 rfl (lv_at hl 0 rfl) ?_
        refine lv_iload_n hx hb zdW_law_181 rfl (lv_at hl 3 rfl) ?_
        refine lv_iconst (v := nI 1) hx hb zdW_law_182 (by decide) ?_
        refine si_iadd (v := nI (i + 1)) hx hb zdW_law_183 (nI_add _ _) ?_
        refine si_sld hx hb hX hbl hbA hS (by omega) (k := i + 1) (by omega) zdW_law_184 ?_
        refine (bX_word l g hx0 ab wx (xs (i + 1)) hXR).callX (As := [.int (xs (i + 1))]) (rest := []) hF (si_cV 1 hts zcX_word zlW_27 zimX_word zseX_word ziniX zhX_word ⟨Nat.le_of_ble_eq_true rfl, Nat.le_of_ble_eq_true rfl⟩) hK hN hP hD hS hA (si_XR_recv hXR hK hP) rfl hl.1 rfl (Nat.le_of_ble_eq_true rfl) zdW_law_185 ⟨Nat.le_of_ble_eq_true rfl, Nat.le_of_ble_eq_true rfl⟩ rfl rfl (fun r1 wx1 H locs hq1 hP hD hS => ?_)
        obtain ⟨ab1, hst1, hXR1⟩ := hq1
        refine lv_aload_n hx hb zdW_law_188 rfl (lv_at hl 2 rfl) ?_
        refine lv_aload_n hx hb zdW_law_189 rfl (lv_at hl 0 rfl) ?_
        refine lv_iload_n hx hb zdW_law_190 rfl (lv_at hl 3 rfl) ?_
        refine lv_iconst (v := nI 1) hx hb zdW_law_191 (by decide) ?_
        refine si_iadd (v := nI (i + 1)) hx hb zdW_law_192 (nI_add _ _) ?_
        refine si_sld hx hb hX hbl hbA hS (by omega) (k := i + 1) (by omega) zdW_law_193 ?_
        have hP := si_swapP hP
        have hD := si_swapD hD
        refine (bM_word l g hm0 ab wm (xs (i + 1)) hMR).callX (As := [.int (xs (i + 1))]) (rest := [.long r1]) hF (si_cV 1 hts zcM_word zlW_31 zimM_word zseM_word ziniM zhM_word ⟨Nat.le_of_ble_eq_true rfl, Nat.le_of_ble_eq_true rfl⟩) hK hN hP hD hS hA (si_MR_recv hMR hK hP) rfl hl.1 rfl (Nat.le_of_ble_eq_true rfl) zdW_law_194 ⟨Nat.le_of_ble_eq_true rfl, Nat.le_of_ble_eq_true rfl⟩ rfl rfl (fun r2 wm2 H locs hq2 hP hD hS => ?_)
        obtain ⟨ab2, hst2, hMR2⟩ := hq2
        have hP := si_swapP hP
        have hD := si_swapD hD
        obtain ⟨e1, e2⟩ := st_word_det hst1 hst2
        subst e1 e2
        refine W.lcmp hx hb zdW_law_197 ?_
        refine lv_if_eq (tgt := 507) hx hb zdW_law_198 rfl (fun _ => ?_) (fun z => absurd ((si_lc0 _ _).mpr rfl) z)
        exact T507 ab1 wx1 wm2 _ _ _ hXR1 hMR2 hl hP hD hS
      · refine lv_tableIn (tgt := 203) hx hb zdW_law_32 (by decide) (by decide) rfl rfl ?_
        refine lv_aload_n hx hb zdW_law_203 rfl (lv_at hl 1 rfl) ?_
        refine lv_aload_n hx hb zdW_law_204 rfl (lv_at hl 0 rfl) ?_
        refine lv_iload_n hx hb zdW_law_205 rfl (lv_at hl 3 rfl) ?_
        refine lv_iconst (v := nI 1) hx hb zdW_law_206 (by decide) ?_
        refine si_iadd (v := nI (i + 1)) hx hb zdW_law_207 (nI_add _ _) ?_
        refine si_sld hx hb hX hbl hbA hS (by omega) (k := i + 1) (by omega) zdW_law_208 ?_
        refine lv_aload_n hx hb zdW_law_209 rfl (lv_at hl 0 rfl) ?_
        refine lv_iload_n hx hb zdW_law_210 rfl (lv_at hl 3 rfl) ?_
        refine lv_iconst (v := nI 2) hx hb zdW_law_211 (by decide) ?_
        refine si_iadd (v := nI (i + 2)) hx hb zdW_law_212 (nI_add _ _) ?_
        refine si_sld hx hb hX hbl hbA hS (by omega) (k := i + 2) (by omega) zdW_law_213 ?_
        refine lv_i2l (v := (xs (i + 2)).toInt64) hx hb zdW_law_214 rfl ?_
        refine lv_bipush (v := nI 32) hx hb zdW_law_215 (by decide) ?_
        refine lv_lshl (v := ((xs (i + 2)).toInt64) <<< ((nI 32).toInt64 &&& 63)) hx hb zdW_law_217 rfl ?_
        refine lv_aload_n hx hb zdW_law_218 rfl (lv_at hl 0 rfl) ?_
        refine lv_iload_n hx hb zdW_law_219 rfl (lv_at hl 3 rfl) ?_
        refine lv_iconst (v := nI 3) hx hb zdW_law_220 (by decide) ?_
        refine si_iadd (v := nI (i + 3)) hx hb zdW_law_221 (nI_add _ _) ?_
        refine si_sld hx hb hX hbl hbA hS (by omega) (k := i + 3) (by omega) zdW_law_222 ?_
        refine lv_i2l (v := (xs (i + 3)).toInt64) hx hb zdW_law_223 rfl ?_
        refine lv_ldc2 (v := 4294967295) hx hb hown (hts _ zlW_32) zdW_law_224 ?_
        refine si_land (v := ((xs (i + 3)).toInt64) &&& 4294967295) hx hb zdW_law_227 rfl ?_
        refine si_lor (v := (((xs (i + 2)).toInt64) <<< ((nI 32).toInt64 &&& 63)) ||| (((xs (i + 3)).toInt64) &&& 4294967295)) hx hb zdW_law_228 rfl ?_
        refine (bX_put l g hx0 ab wx (xs (i + 1)) ((((xs (i + 2)).toInt64) <<< ((nI 32).toInt64 &&& 63)) ||| (((xs (i + 3)).toInt64) &&& 4294967295)) hXR).callX (As := [.int (xs (i + 1)), .long ((((xs (i + 2)).toInt64) <<< ((nI 32).toInt64 &&& 63)) ||| (((xs (i + 3)).toInt64) &&& 4294967295))]) (rest := []) hF (si_cV 2 hts zcX_put zlW_34 zimX_put zseX_put ziniX zhX_put ⟨Nat.le_of_ble_eq_true rfl, Nat.le_of_ble_eq_true rfl⟩) hK hN hP hD hS hA (si_XR_recv hXR hK hP) rfl hl.1 rfl (Nat.le_of_ble_eq_true rfl) zdW_law_229 ⟨Nat.le_of_ble_eq_true rfl, Nat.le_of_ble_eq_true rfl⟩ rfl rfl (fun r1 wx1 H locs hq1 hP hD hS => ?_)
        obtain ⟨ab1, hst1, hXR1⟩ := hq1
        refine lv_aload_n hx hb zdW_law_232 rfl (lv_at hl 2 rfl) ?_
        refine lv_aload_n hx hb zdW_law_233 rfl (lv_at hl 0 rfl) ?_
        refine lv_iload_n hx hb zdW_law_234 rfl (lv_at hl 3 rfl) ?_
        refine lv_iconst (v := nI 1) hx hb zdW_law_235 (by decide) ?_
        refine si_iadd (v := nI (i + 1)) hx hb zdW_law_236 (nI_add _ _) ?_
        refine si_sld hx hb hX hbl hbA hS (by omega) (k := i + 1) (by omega) zdW_law_237 ?_
        refine lv_aload_n hx hb zdW_law_238 rfl (lv_at hl 0 rfl) ?_
        refine lv_iload_n hx hb zdW_law_239 rfl (lv_at hl 3 rfl) ?_
        refine lv_iconst (v := nI 2) hx hb zdW_law_240 (by decide) ?_
        refine si_iadd (v := nI (i + 2)) hx hb zdW_law_241 (nI_add _ _) ?_
        refine si_sld hx hb hX hbl hbA hS (by omega) (k := i + 2) (by omega) zdW_law_242 ?_
        refine lv_i2l (v := (xs (i + 2)).toInt64) hx hb zdW_law_243 rfl ?_
        refine lv_bipush (v := nI 32) hx hb zdW_law_244 (by decide) ?_
        refine lv_lshl (v := ((xs (i + 2)).toInt64) <<< ((nI 32).toInt64 &&& 63)) hx hb zdW_law_246 rfl ?_
        refine lv_aload_n hx hb zdW_law_247 rfl (lv_at hl 0 rfl) ?_
        refine lv_iload_n hx hb zdW_law_248 rfl (lv_at hl 3 rfl) ?_
        refine lv_iconst (v := nI 3) hx hb zdW_law_249 (by decide) ?_
        refine si_iadd (v := nI (i + 3)) hx hb zdW_law_250 (nI_add _ _) ?_
        refine si_sld hx hb hX hbl hbA hS (by omega) (k := i + 3) (by omega) zdW_law_251 ?_
        refine lv_i2l (v := (xs (i + 3)).toInt64) hx hb zdW_law_252 rfl ?_
        refine lv_ldc2 (v := 4294967295) hx hb hown (hts _ zlW_32) zdW_law_253 ?_
        refine si_land (v := ((xs (i + 3)).toInt64) &&& 4294967295) hx hb zdW_law_256 rfl ?_
        refine si_lor (v := (((xs (i + 2)).toInt64) <<< ((nI 32).toInt64 &&& 63)) ||| (((xs (i + 3)).toInt64) &&& 4294967295)) hx hb zdW_law_257 rfl ?_
        have hP := si_swapP hP
        have hD := si_swapD hD
        refine (bM_put l g hm0 ab wm (xs (i + 1)) ((((xs (i + 2)).toInt64) <<< ((nI 32).toInt64 &&& 63)) ||| (((xs (i + 3)).toInt64) &&& 4294967295)) hMR).callX (As := [.int (xs (i + 1)), .long ((((xs (i + 2)).toInt64) <<< ((nI 32).toInt64 &&& 63)) ||| (((xs (i + 3)).toInt64) &&& 4294967295))]) (rest := [.int r1]) hF (si_cV 2 hts zcM_put zlW_38 zimM_put zseM_put ziniM zhM_put ⟨Nat.le_of_ble_eq_true rfl, Nat.le_of_ble_eq_true rfl⟩) hK hN hP hD hS hA (si_MR_recv hMR hK hP) rfl hl.1 rfl (Nat.le_of_ble_eq_true rfl) zdW_law_258 ⟨Nat.le_of_ble_eq_true rfl, Nat.le_of_ble_eq_true rfl⟩ rfl rfl (fun r2 wm2 H locs hq2 hP hD hS => ?_)
        obtain ⟨ab2, hst2, hMR2⟩ := hq2
        have hP := si_swapP hP
        have hD := si_swapD hD
        obtain ⟨e1, e2⟩ := st_put_det hst1 hst2
        subst e1 e2
        refine lv_icmp_eq (tgt := 507) hx hb zdW_law_261 rfl (fun _ => ?_) (fun z => absurd rfl z)
        exact T507 ab1 wx1 wm2 _ _ _ hXR1 hMR2 hl hP hD hS
      · refine lv_tableIn (tgt := 266) hx hb zdW_law_32 (by decide) (by decide) rfl rfl ?_
        refine lv_aload_n hx hb zdW_law_266 rfl (lv_at hl 1 rfl) ?_
        refine lv_aload_n hx hb zdW_law_267 rfl (lv_at hl 0 rfl) ?_
        refine lv_iload_n hx hb zdW_law_268 rfl (lv_at hl 3 rfl) ?_
        refine lv_iconst (v := nI 1) hx hb zdW_law_269 (by decide) ?_
        refine si_iadd (v := nI (i + 1)) hx hb zdW_law_270 (nI_add _ _) ?_
        refine si_sld hx hb hX hbl hbA hS (by omega) (k := i + 1) (by omega) zdW_law_271 ?_
        refine lv_aload_n hx hb zdW_law_272 rfl (lv_at hl 0 rfl) ?_
        refine lv_iload_n hx hb zdW_law_273 rfl (lv_at hl 3 rfl) ?_
        refine lv_iconst (v := nI 2) hx hb zdW_law_274 (by decide) ?_
        refine si_iadd (v := nI (i + 2)) hx hb zdW_law_275 (nI_add _ _) ?_
        refine si_sld hx hb hX hbl hbA hS (by omega) (k := i + 2) (by omega) zdW_law_276 ?_
        refine (bX_flip l g hx0 ab wx (xs (i + 1)) (xs (i + 2)) hXR).callX (As := [.int (xs (i + 1)), .int (xs (i + 2))]) (rest := []) hF (si_cV 2 hts zcX_flip zlW_39 zimX_flip zseX_flip ziniX zhX_flip ⟨Nat.le_of_ble_eq_true rfl, Nat.le_of_ble_eq_true rfl⟩) hK hN hP hD hS hA (si_XR_recv hXR hK hP) rfl hl.1 rfl (Nat.le_of_ble_eq_true rfl) zdW_law_277 ⟨Nat.le_of_ble_eq_true rfl, Nat.le_of_ble_eq_true rfl⟩ rfl rfl (fun r1 wx1 H locs hq1 hP hD hS => ?_)
        obtain ⟨ab1, hst1, hXR1⟩ := hq1
        refine lv_aload_n hx hb zdW_law_280 rfl (lv_at hl 2 rfl) ?_
        refine lv_aload_n hx hb zdW_law_281 rfl (lv_at hl 0 rfl) ?_
        refine lv_iload_n hx hb zdW_law_282 rfl (lv_at hl 3 rfl) ?_
        refine lv_iconst (v := nI 1) hx hb zdW_law_283 (by decide) ?_
        refine si_iadd (v := nI (i + 1)) hx hb zdW_law_284 (nI_add _ _) ?_
        refine si_sld hx hb hX hbl hbA hS (by omega) (k := i + 1) (by omega) zdW_law_285 ?_
        refine lv_aload_n hx hb zdW_law_286 rfl (lv_at hl 0 rfl) ?_
        refine lv_iload_n hx hb zdW_law_287 rfl (lv_at hl 3 rfl) ?_
        refine lv_iconst (v := nI 2) hx hb zdW_law_288 (by decide) ?_
        refine si_iadd (v := nI (i + 2)) hx hb zdW_law_289 (nI_add _ _) ?_
        refine si_sld hx hb hX hbl hbA hS (by omega) (k := i + 2) (by omega) zdW_law_290 ?_
        have hP := si_swapP hP
        have hD := si_swapD hD
        refine (bM_flip l g hm0 ab wm (xs (i + 1)) (xs (i + 2)) hMR).callX (As := [.int (xs (i + 1)), .int (xs (i + 2))]) (rest := [.int r1]) hF (si_cV 2 hts zcM_flip zlW_43 zimM_flip zseM_flip ziniM zhM_flip ⟨Nat.le_of_ble_eq_true rfl, Nat.le_of_ble_eq_true rfl⟩) hK hN hP hD hS hA (si_MR_recv hMR hK hP) rfl hl.1 rfl (Nat.le_of_ble_eq_true rfl) zdW_law_291 ⟨Nat.le_of_ble_eq_true rfl, Nat.le_of_ble_eq_true rfl⟩ rfl rfl (fun r2 wm2 H locs hq2 hP hD hS => ?_)
        obtain ⟨ab2, hst2, hMR2⟩ := hq2
        have hP := si_swapP hP
        have hD := si_swapD hD
        obtain ⟨e1, e2⟩ := st_flip_det hst1 hst2
        subst e1 e2
        refine lv_icmp_eq (tgt := 507) hx hb zdW_law_294 rfl (fun _ => ?_) (fun z => absurd rfl z)
        exact T507 ab1 wx1 wm2 _ _ _ hXR1 hMR2 hl hP hD hS
      · refine lv_tableIn (tgt := 299) hx hb zdW_law_32 (by decide) (by decide) rfl rfl ?_
        refine lv_aload_n hx hb zdW_law_299 rfl (lv_at hl 1 rfl) ?_
        refine (bX_load l g hx0 ab wx  hXR).callX (As := []) (rest := []) hF (si_cV 0 hts zcX_load zlW_44 zimX_load zseX_load ziniX zhX_load ⟨Nat.le_of_ble_eq_true rfl, Nat.le_of_ble_eq_true rfl⟩) hK hN hP hD hS hA (si_XR_recv hXR hK hP) rfl hl.1 rfl (Nat.le_of_ble_eq_true rfl) zdW_law_300 ⟨Nat.le_of_ble_eq_true rfl, Nat.le_of_ble_eq_true rfl⟩ rfl rfl (fun r1 wx1 H locs hq1 hP hD hS => ?_)
        obtain ⟨ab1, hst1, hXR1⟩ := hq1
        refine lv_aload_n hx hb zdW_law_303 rfl (lv_at hl 2 rfl) ?_
        have hP := si_swapP hP
        have hD := si_swapD hD
        refine (bM_load l g hm0 ab wm  hMR).callX (As := []) (rest := [.int r1]) hF (si_cV 0 hts zcM_load zlW_48 zimM_load zseM_load ziniM zhM_load ⟨Nat.le_of_ble_eq_true rfl, Nat.le_of_ble_eq_true rfl⟩) hK hN hP hD hS hA (si_MR_recv hMR hK hP) rfl hl.1 rfl (Nat.le_of_ble_eq_true rfl) zdW_law_304 ⟨Nat.le_of_ble_eq_true rfl, Nat.le_of_ble_eq_true rfl⟩ rfl rfl (fun r2 wm2 H locs hq2 hP hD hS => ?_)
        obtain ⟨ab2, hst2, hMR2⟩ := hq2
        have hP := si_swapP hP
        have hD := si_swapD hD
        obtain ⟨e1, e2⟩ := st_load_det hst1 hst2
        subst e1 e2
        refine lv_icmp_eq (tgt := 507) hx hb zdW_law_307 rfl (fun _ => ?_) (fun z => absurd rfl z)
        exact T507 ab1 wx1 wm2 _ _ _ hXR1 hMR2 hl hP hD hS
      · refine lv_tableIn (tgt := 312) hx hb zdW_law_32 (by decide) (by decide) rfl rfl ?_
        refine lv_aload_n hx hb zdW_law_312 rfl (lv_at hl 1 rfl) ?_
        refine (bX_length l g hx0 ab wx  hXR).callX (As := []) (rest := []) hF (si_cV 0 hts zcX_length zlW_49 zimX_length zseX_length ziniX zhX_length ⟨Nat.le_of_ble_eq_true rfl, Nat.le_of_ble_eq_true rfl⟩) hK hN hP hD hS hA (si_XR_recv hXR hK hP) rfl hl.1 rfl (Nat.le_of_ble_eq_true rfl) zdW_law_313 ⟨Nat.le_of_ble_eq_true rfl, Nat.le_of_ble_eq_true rfl⟩ rfl rfl (fun r1 wx1 H locs hq1 hP hD hS => ?_)
        obtain ⟨ab1, hst1, hXR1⟩ := hq1
        refine lv_aload_n hx hb zdW_law_316 rfl (lv_at hl 2 rfl) ?_
        have hP := si_swapP hP
        have hD := si_swapD hD
        refine (bM_length l g hm0 ab wm  hMR).callX (As := []) (rest := [.int r1]) hF (si_cV 0 hts zcM_length zlW_53 zimM_length zseM_length ziniM zhM_length ⟨Nat.le_of_ble_eq_true rfl, Nat.le_of_ble_eq_true rfl⟩) hK hN hP hD hS hA (si_MR_recv hMR hK hP) rfl hl.1 rfl (Nat.le_of_ble_eq_true rfl) zdW_law_317 ⟨Nat.le_of_ble_eq_true rfl, Nat.le_of_ble_eq_true rfl⟩ rfl rfl (fun r2 wm2 H locs hq2 hP hD hS => ?_)
        obtain ⟨ab2, hst2, hMR2⟩ := hq2
        have hP := si_swapP hP
        have hD := si_swapD hD
        obtain ⟨e1, e2⟩ := st_length_det hst1 hst2
        subst e1 e2
        refine lv_icmp_eq (tgt := 507) hx hb zdW_law_320 rfl (fun _ => ?_) (fun z => absurd rfl z)
        exact T507 ab1 wx1 wm2 _ _ _ hXR1 hMR2 hl hP hD hS
      · refine lv_tableIn (tgt := 325) hx hb zdW_law_32 (by decide) (by decide) rfl rfl ?_
        refine lv_aload_n hx hb zdW_law_325 rfl (lv_at hl 1 rfl) ?_
        refine (bX_rate l g hx0 ab wx  hXR).callX (As := []) (rest := []) hF (si_cV 0 hts zcX_rate zlW_54 zimX_rate zseX_rate ziniX zhX_rate ⟨Nat.le_of_ble_eq_true rfl, Nat.le_of_ble_eq_true rfl⟩) hK hN hP hD hS hA (si_XR_recv hXR hK hP) rfl hl.1 rfl (Nat.le_of_ble_eq_true rfl) zdW_law_326 ⟨Nat.le_of_ble_eq_true rfl, Nat.le_of_ble_eq_true rfl⟩ rfl rfl (fun r1 wx1 H locs hq1 hP hD hS => ?_)
        obtain ⟨ab1, hst1, hXR1⟩ := hq1
        refine lv_aload_n hx hb zdW_law_329 rfl (lv_at hl 2 rfl) ?_
        have hP := si_swapP hP
        have hD := si_swapD hD
        refine (bM_rate l g hm0 ab wm  hMR).callX (As := []) (rest := [.int r1]) hF (si_cV 0 hts zcM_rate zlW_57 zimM_rate zseM_rate ziniM zhM_rate ⟨Nat.le_of_ble_eq_true rfl, Nat.le_of_ble_eq_true rfl⟩) hK hN hP hD hS hA (si_MR_recv hMR hK hP) rfl hl.1 rfl (Nat.le_of_ble_eq_true rfl) zdW_law_330 ⟨Nat.le_of_ble_eq_true rfl, Nat.le_of_ble_eq_true rfl⟩ rfl rfl (fun r2 wm2 H locs hq2 hP hD hS => ?_)
        obtain ⟨ab2, hst2, hMR2⟩ := hq2
        have hP := si_swapP hP
        have hD := si_swapD hD
        obtain ⟨e1, e2⟩ := st_rate_det hst1 hst2
        subst e1 e2
        refine lv_icmp_eq (tgt := 507) hx hb zdW_law_333 rfl (fun _ => ?_) (fun z => absurd rfl z)
        exact T507 ab1 wx1 wm2 _ _ _ hXR1 hMR2 hl hP hD hS
      · refine lv_tableIn (tgt := 338) hx hb zdW_law_32 (by decide) (by decide) rfl rfl ?_
        refine lv_aload_n hx hb zdW_law_338 rfl (lv_at hl 1 rfl) ?_
        refine lv_aload_n hx hb zdW_law_339 rfl (lv_at hl 0 rfl) ?_
        refine lv_iload_n hx hb zdW_law_340 rfl (lv_at hl 3 rfl) ?_
        refine lv_iconst (v := nI 1) hx hb zdW_law_341 (by decide) ?_
        refine si_iadd (v := nI (i + 1)) hx hb zdW_law_342 (nI_add _ _) ?_
        refine si_sld hx hb hX hbl hbA hS (by omega) (k := i + 1) (by omega) zdW_law_343 ?_
        refine (bX_charAt l g hx0 ab wx (xs (i + 1)) hXR).callX (As := [.int (xs (i + 1))]) (rest := []) hF (si_cV 1 hts zcX_charAt zlW_58 zimX_charAt zseX_charAt ziniX zhX_charAt ⟨Nat.le_of_ble_eq_true rfl, Nat.le_of_ble_eq_true rfl⟩) hK hN hP hD hS hA (si_XR_recv hXR hK hP) rfl hl.1 rfl (Nat.le_of_ble_eq_true rfl) zdW_law_344 ⟨Nat.le_of_ble_eq_true rfl, Nat.le_of_ble_eq_true rfl⟩ rfl rfl (fun r1 wx1 H locs hq1 hP hD hS => ?_)
        obtain ⟨ab1, hst1, hXR1⟩ := hq1
        refine lv_aload_n hx hb zdW_law_347 rfl (lv_at hl 2 rfl) ?_
        refine lv_aload_n hx hb zdW_law_348 rfl (lv_at hl 0 rfl) ?_
        refine lv_iload_n hx hb zdW_law_349 rfl (lv_at hl 3 rfl) ?_
        refine lv_iconst (v := nI 1) hx hb zdW_law_350 (by decide) ?_
        refine si_iadd (v := nI (i + 1)) hx hb zdW_law_351 (nI_add _ _) ?_
        refine si_sld hx hb hX hbl hbA hS (by omega) (k := i + 1) (by omega) zdW_law_352 ?_
        have hP := si_swapP hP
        have hD := si_swapD hD
        refine (bM_charAt l g hm0 ab wm (xs (i + 1)) hMR).callX (As := [.int (xs (i + 1))]) (rest := [.int r1]) hF (si_cV 1 hts zcM_charAt zlW_62 zimM_charAt zseM_charAt ziniM zhM_charAt ⟨Nat.le_of_ble_eq_true rfl, Nat.le_of_ble_eq_true rfl⟩) hK hN hP hD hS hA (si_MR_recv hMR hK hP) rfl hl.1 rfl (Nat.le_of_ble_eq_true rfl) zdW_law_353 ⟨Nat.le_of_ble_eq_true rfl, Nat.le_of_ble_eq_true rfl⟩ rfl rfl (fun r2 wm2 H locs hq2 hP hD hS => ?_)
        obtain ⟨ab2, hst2, hMR2⟩ := hq2
        have hP := si_swapP hP
        have hD := si_swapD hD
        obtain ⟨e1, e2⟩ := st_charAt_det hst1 hst2
        subst e1 e2
        refine lv_icmp_eq (tgt := 507) hx hb zdW_law_356 rfl (fun _ => ?_) (fun z => absurd rfl z)
        exact T507 ab1 wx1 wm2 _ _ _ hXR1 hMR2 hl hP hD hS
      · refine lv_tableIn (tgt := 361) hx hb zdW_law_32 (by decide) (by decide) rfl rfl ?_
        refine lv_aload_n hx hb zdW_law_361 rfl (lv_at hl 1 rfl) ?_
        refine lv_aload_n hx hb zdW_law_362 rfl (lv_at hl 0 rfl) ?_
        refine lv_iload_n hx hb zdW_law_363 rfl (lv_at hl 3 rfl) ?_
        refine lv_iconst (v := nI 1) hx hb zdW_law_364 (by decide) ?_
        refine si_iadd (v := nI (i + 1)) hx hb zdW_law_365 (nI_add _ _) ?_
        refine si_sld hx hb hX hbl hbA hS (by omega) (k := i + 1) (by omega) zdW_law_366 ?_
        refine (bX_rowOf l g hx0 ab wx (xs (i + 1)) hXR).callX (As := [.int (xs (i + 1))]) (rest := []) hF (si_cV 1 hts zcX_rowOf zlW_63 zimX_rowOf zseX_rowOf ziniX zhX_rowOf ⟨Nat.le_of_ble_eq_true rfl, Nat.le_of_ble_eq_true rfl⟩) hK hN hP hD hS hA (si_XR_recv hXR hK hP) rfl hl.1 rfl (Nat.le_of_ble_eq_true rfl) zdW_law_367 ⟨Nat.le_of_ble_eq_true rfl, Nat.le_of_ble_eq_true rfl⟩ rfl rfl (fun r1 wx1 H locs hq1 hP hD hS => ?_)
        obtain ⟨ab1, hst1, hXR1⟩ := hq1
        refine lv_aload_n hx hb zdW_law_370 rfl (lv_at hl 2 rfl) ?_
        refine lv_aload_n hx hb zdW_law_371 rfl (lv_at hl 0 rfl) ?_
        refine lv_iload_n hx hb zdW_law_372 rfl (lv_at hl 3 rfl) ?_
        refine lv_iconst (v := nI 1) hx hb zdW_law_373 (by decide) ?_
        refine si_iadd (v := nI (i + 1)) hx hb zdW_law_374 (nI_add _ _) ?_
        refine si_sld hx hb hX hbl hbA hS (by omega) (k := i + 1) (by omega) zdW_law_375 ?_
        have hP := si_swapP hP
        have hD := si_swapD hD
        refine (bM_rowOf l g hm0 ab wm (xs (i + 1)) hMR).callX (As := [.int (xs (i + 1))]) (rest := [.int r1]) hF (si_cV 1 hts zcM_rowOf zlW_66 zimM_rowOf zseM_rowOf ziniM zhM_rowOf ⟨Nat.le_of_ble_eq_true rfl, Nat.le_of_ble_eq_true rfl⟩) hK hN hP hD hS hA (si_MR_recv hMR hK hP) rfl hl.1 rfl (Nat.le_of_ble_eq_true rfl) zdW_law_376 ⟨Nat.le_of_ble_eq_true rfl, Nat.le_of_ble_eq_true rfl⟩ rfl rfl (fun r2 wm2 H locs hq2 hP hD hS => ?_)
        obtain ⟨ab2, hst2, hMR2⟩ := hq2
        have hP := si_swapP hP
        have hD := si_swapD hD
        obtain ⟨e1, e2⟩ := st_rowOf_det hst1 hst2
        subst e1 e2
        refine lv_icmp_eq (tgt := 507) hx hb zdW_law_379 rfl (fun _ => ?_) (fun z => absurd rfl z)
        exact T507 ab1 wx1 wm2 _ _ _ hXR1 hMR2 hl hP hD hS
      · refine lv_tableIn (tgt := 384) hx hb zdW_law_32 (by decide) (by decide) rfl rfl ?_
        refine lv_aload_n hx hb zdW_law_384 rfl (lv_at hl 1 rfl) ?_
        refine lv_aload_n hx hb zdW_law_385 rfl (lv_at hl 0 rfl) ?_
        refine lv_iload_n hx hb zdW_law_386 rfl (lv_at hl 3 rfl) ?_
        refine lv_iconst (v := nI 1) hx hb zdW_law_387 (by decide) ?_
        refine si_iadd (v := nI (i + 1)) hx hb zdW_law_388 (nI_add _ _) ?_
        refine si_sld hx hb hX hbl hbA hS (by omega) (k := i + 1) (by omega) zdW_law_389 ?_
        refine (bX_placeOf l g hx0 ab wx (xs (i + 1)) hXR).callX (As := [.int (xs (i + 1))]) (rest := []) hF (si_cV 1 hts zcX_placeOf zlW_67 zimX_placeOf zseX_placeOf ziniX zhX_placeOf ⟨Nat.le_of_ble_eq_true rfl, Nat.le_of_ble_eq_true rfl⟩) hK hN hP hD hS hA (si_XR_recv hXR hK hP) rfl hl.1 rfl (Nat.le_of_ble_eq_true rfl) zdW_law_390 ⟨Nat.le_of_ble_eq_true rfl, Nat.le_of_ble_eq_true rfl⟩ rfl rfl (fun r1 wx1 H locs hq1 hP hD hS => ?_)
        obtain ⟨ab1, hst1, hXR1⟩ := hq1
        refine lv_aload_n hx hb zdW_law_393 rfl (lv_at hl 2 rfl) ?_
        refine lv_aload_n hx hb zdW_law_394 rfl (lv_at hl 0 rfl) ?_
        refine lv_iload_n hx hb zdW_law_395 rfl (lv_at hl 3 rfl) ?_
        refine lv_iconst (v := nI 1) hx hb zdW_law_396 (by decide) ?_
        refine si_iadd (v := nI (i + 1)) hx hb zdW_law_397 (nI_add _ _) ?_
        refine si_sld hx hb hX hbl hbA hS (by omega) (k := i + 1) (by omega) zdW_law_398 ?_
        have hP := si_swapP hP
        have hD := si_swapD hD
        refine (bM_placeOf l g hm0 ab wm (xs (i + 1)) hMR).callX (As := [.int (xs (i + 1))]) (rest := [.int r1]) hF (si_cV 1 hts zcM_placeOf zlW_70 zimM_placeOf zseM_placeOf ziniM zhM_placeOf ⟨Nat.le_of_ble_eq_true rfl, Nat.le_of_ble_eq_true rfl⟩) hK hN hP hD hS hA (si_MR_recv hMR hK hP) rfl hl.1 rfl (Nat.le_of_ble_eq_true rfl) zdW_law_399 ⟨Nat.le_of_ble_eq_true rfl, Nat.le_of_ble_eq_true rfl⟩ rfl rfl (fun r2 wm2 H locs hq2 hP hD hS => ?_)
        obtain ⟨ab2, hst2, hMR2⟩ := hq2
        have hP := si_swapP hP
        have hD := si_swapD hD
        obtain ⟨e1, e2⟩ := st_placeOf_det hst1 hst2
        subst e1 e2
        refine lv_icmp_eq (tgt := 507) hx hb zdW_law_402 rfl (fun _ => ?_) (fun z => absurd rfl z)
        exact T507 ab1 wx1 wm2 _ _ _ hXR1 hMR2 hl hP hD hS
      · refine lv_tableIn (tgt := 407) hx hb zdW_law_32 (by decide) (by decide) rfl rfl ?_
        refine lv_aload_n hx hb zdW_law_407 rfl (lv_at hl 1 rfl) ?_
        refine lv_aload_n hx hb zdW_law_408 rfl (lv_at hl 0 rfl) ?_
        refine lv_iload_n hx hb zdW_law_409 rfl (lv_at hl 3 rfl) ?_
        refine lv_iconst (v := nI 1) hx hb zdW_law_410 (by decide) ?_
        refine si_iadd (v := nI (i + 1)) hx hb zdW_law_411 (nI_add _ _) ?_
        refine si_sld hx hb hX hbl hbA hS (by omega) (k := i + 1) (by omega) zdW_law_412 ?_
        refine lv_i2c (v := nI ((xs (i + 1)).toBitVec.toNat % 65536)) hx hb zdW_law_413 (si_chr _) ?_
        refine (bX_ask l g hx0 ab wx ((xs (i + 1)).toBitVec.toNat % 65536) (Nat.lt_trans (Nat.mod_lt _ (by decide)) (by decide)) hXR).callX (As := [.int (nI ((xs (i + 1)).toBitVec.toNat % 65536))]) (rest := []) hF (si_cV 1 hts zcX_ask zlW_71 zimX_ask zseX_ask ziniX zhX_ask ⟨Nat.le_of_ble_eq_true rfl, Nat.le_of_ble_eq_true rfl⟩) hK hN hP hD hS hA (si_XR_recv hXR hK hP) rfl hl.1 rfl (Nat.le_of_ble_eq_true rfl) zdW_law_414 ⟨Nat.le_of_ble_eq_true rfl, Nat.le_of_ble_eq_true rfl⟩ rfl rfl (fun r1 wx1 H locs hq1 hP hD hS => ?_)
        obtain ⟨ab1, hst1, hXR1⟩ := hq1
        refine lv_aload_n hx hb zdW_law_417 rfl (lv_at hl 2 rfl) ?_
        refine lv_aload_n hx hb zdW_law_418 rfl (lv_at hl 0 rfl) ?_
        refine lv_iload_n hx hb zdW_law_419 rfl (lv_at hl 3 rfl) ?_
        refine lv_iconst (v := nI 1) hx hb zdW_law_420 (by decide) ?_
        refine si_iadd (v := nI (i + 1)) hx hb zdW_law_421 (nI_add _ _) ?_
        refine si_sld hx hb hX hbl hbA hS (by omega) (k := i + 1) (by omega) zdW_law_422 ?_
        refine lv_i2c (v := nI ((xs (i + 1)).toBitVec.toNat % 65536)) hx hb zdW_law_423 (si_chr _) ?_
        have hP := si_swapP hP
        have hD := si_swapD hD
        refine (bM_ask l g hm0 ab wm ((xs (i + 1)).toBitVec.toNat % 65536) (Nat.lt_trans (Nat.mod_lt _ (by decide)) (by decide)) hMR).callX (As := [.int (nI ((xs (i + 1)).toBitVec.toNat % 65536))]) (rest := [.int r1]) hF (si_cV 1 hts zcM_ask zlW_74 zimM_ask zseM_ask ziniM zhM_ask ⟨Nat.le_of_ble_eq_true rfl, Nat.le_of_ble_eq_true rfl⟩) hK hN hP hD hS hA (si_MR_recv hMR hK hP) rfl hl.1 rfl (Nat.le_of_ble_eq_true rfl) zdW_law_424 ⟨Nat.le_of_ble_eq_true rfl, Nat.le_of_ble_eq_true rfl⟩ rfl rfl (fun r2 wm2 H locs hq2 hP hD hS => ?_)
        obtain ⟨ab2, hst2, hMR2⟩ := hq2
        have hP := si_swapP hP
        have hD := si_swapD hD
        obtain ⟨e1, e2⟩ := st_ask_det hst1 hst2
        subst e1 e2
        refine lv_icmp_eq (tgt := 507) hx hb zdW_law_427 rfl (fun _ => ?_) (fun z => absurd rfl z)
        exact T507 ab1 wx1 wm2 _ _ _ hXR1 hMR2 hl hP hD hS
      · refine lv_tableIn (tgt := 432) hx hb zdW_law_32 (by decide) (by decide) rfl rfl ?_
        refine lv_aload_n hx hb zdW_law_432 rfl (lv_at hl 1 rfl) ?_
        refine (bX_back l g hx0 ab wx  hXR).callX (As := []) (rest := []) hF (si_cV 0 hts zcX_back zlW_75 zimX_back zseX_back ziniX zhX_back ⟨Nat.le_of_ble_eq_true rfl, Nat.le_of_ble_eq_true rfl⟩) hK hN hP hD hS hA (si_XR_recv hXR hK hP) rfl hl.1 rfl (Nat.le_of_ble_eq_true rfl) zdW_law_433 ⟨Nat.le_of_ble_eq_true rfl, Nat.le_of_ble_eq_true rfl⟩ rfl rfl (fun r1 wx1 H locs hq1 hP hD hS => ?_)
        obtain ⟨ab1, hst1, hXR1⟩ := hq1
        refine lv_aload_n hx hb zdW_law_436 rfl (lv_at hl 2 rfl) ?_
        have hP := si_swapP hP
        have hD := si_swapD hD
        refine (bM_back l g hm0 ab wm  hMR).callX (As := []) (rest := [.int r1]) hF (si_cV 0 hts zcM_back zlW_78 zimM_back zseM_back ziniM zhM_back ⟨Nat.le_of_ble_eq_true rfl, Nat.le_of_ble_eq_true rfl⟩) hK hN hP hD hS hA (si_MR_recv hMR hK hP) rfl hl.1 rfl (Nat.le_of_ble_eq_true rfl) zdW_law_437 ⟨Nat.le_of_ble_eq_true rfl, Nat.le_of_ble_eq_true rfl⟩ rfl rfl (fun r2 wm2 H locs hq2 hP hD hS => ?_)
        obtain ⟨ab2, hst2, hMR2⟩ := hq2
        have hP := si_swapP hP
        have hD := si_swapD hD
        obtain ⟨e1, e2⟩ := st_back_det hst1 hst2
        subst e1 e2
        refine lv_icmp_eq (tgt := 507) hx hb zdW_law_440 rfl (fun _ => ?_) (fun z => absurd rfl z)
        exact T507 ab1 wx1 wm2 _ _ _ hXR1 hMR2 hl hP hD hS
      · refine lv_tableIn (tgt := 445) hx hb zdW_law_32 (by decide) (by decide) rfl rfl ?_
        refine lv_aload_n hx hb zdW_law_445 rfl (lv_at hl 1 rfl) ?_
        refine (bX_count l g hx0 ab wx  hXR).callX (As := []) (rest := []) hF (si_cV 0 hts zcX_count zlW_79 zimX_count zseX_count ziniX zhX_count ⟨Nat.le_of_ble_eq_true rfl, Nat.le_of_ble_eq_true rfl⟩) hK hN hP hD hS hA (si_XR_recv hXR hK hP) rfl hl.1 rfl (Nat.le_of_ble_eq_true rfl) zdW_law_446 ⟨Nat.le_of_ble_eq_true rfl, Nat.le_of_ble_eq_true rfl⟩ rfl rfl (fun r1 wx1 H locs hq1 hP hD hS => ?_)
        obtain ⟨ab1, hst1, hXR1⟩ := hq1
        refine lv_aload_n hx hb zdW_law_449 rfl (lv_at hl 2 rfl) ?_
        have hP := si_swapP hP
        have hD := si_swapD hD
        refine (bM_count l g hm0 ab wm  hMR).callX (As := []) (rest := [.int r1]) hF (si_cV 0 hts zcM_count zlW_82 zimM_count zseM_count ziniM zhM_count ⟨Nat.le_of_ble_eq_true rfl, Nat.le_of_ble_eq_true rfl⟩) hK hN hP hD hS hA (si_MR_recv hMR hK hP) rfl hl.1 rfl (Nat.le_of_ble_eq_true rfl) zdW_law_450 ⟨Nat.le_of_ble_eq_true rfl, Nat.le_of_ble_eq_true rfl⟩ rfl rfl (fun r2 wm2 H locs hq2 hP hD hS => ?_)
        obtain ⟨ab2, hst2, hMR2⟩ := hq2
        have hP := si_swapP hP
        have hD := si_swapD hD
        obtain ⟨e1, e2⟩ := st_count_det hst1 hst2
        subst e1 e2
        refine lv_icmp_eq (tgt := 507) hx hb zdW_law_453 rfl (fun _ => ?_) (fun z => absurd rfl z)
        exact T507 ab1 wx1 wm2 _ _ _ hXR1 hMR2 hl hP hD hS
      · refine lv_tableIn (tgt := 458) hx hb zdW_law_32 (by decide) (by decide) rfl rfl ?_
        refine lv_aload_n hx hb zdW_law_458 rfl (lv_at hl 1 rfl) ?_
        refine (bX_firstRow l g hx0 ab wx  hXR).callX (As := []) (rest := []) hF (si_cV 0 hts zcX_firstRow zlW_83 zimX_firstRow zseX_firstRow ziniX zhX_firstRow ⟨Nat.le_of_ble_eq_true rfl, Nat.le_of_ble_eq_true rfl⟩) hK hN hP hD hS hA (si_XR_recv hXR hK hP) rfl hl.1 rfl (Nat.le_of_ble_eq_true rfl) zdW_law_459 ⟨Nat.le_of_ble_eq_true rfl, Nat.le_of_ble_eq_true rfl⟩ rfl rfl (fun r1 wx1 H locs hq1 hP hD hS => ?_)
        obtain ⟨ab1, hst1, hXR1⟩ := hq1
        refine lv_aload_n hx hb zdW_law_462 rfl (lv_at hl 2 rfl) ?_
        have hP := si_swapP hP
        have hD := si_swapD hD
        refine (bM_firstRow l g hm0 ab wm  hMR).callX (As := []) (rest := [.int r1]) hF (si_cV 0 hts zcM_firstRow zlW_86 zimM_firstRow zseM_firstRow ziniM zhM_firstRow ⟨Nat.le_of_ble_eq_true rfl, Nat.le_of_ble_eq_true rfl⟩) hK hN hP hD hS hA (si_MR_recv hMR hK hP) rfl hl.1 rfl (Nat.le_of_ble_eq_true rfl) zdW_law_463 ⟨Nat.le_of_ble_eq_true rfl, Nat.le_of_ble_eq_true rfl⟩ rfl rfl (fun r2 wm2 H locs hq2 hP hD hS => ?_)
        obtain ⟨ab2, hst2, hMR2⟩ := hq2
        have hP := si_swapP hP
        have hD := si_swapD hD
        obtain ⟨e1, e2⟩ := st_firstRow_det hst1 hst2
        subst e1 e2
        refine lv_icmp_eq (tgt := 507) hx hb zdW_law_466 rfl (fun _ => ?_) (fun z => absurd rfl z)
        exact T507 ab1 wx1 wm2 _ _ _ hXR1 hMR2 hl hP hD hS
      · refine lv_tableIn (tgt := 471) hx hb zdW_law_32 (by decide) (by decide) rfl rfl ?_
        refine lv_aload_n hx hb zdW_law_471 rfl (lv_at hl 1 rfl) ?_
        refine lv_aload_n hx hb zdW_law_472 rfl (lv_at hl 0 rfl) ?_
        refine lv_iload_n hx hb zdW_law_473 rfl (lv_at hl 3 rfl) ?_
        refine lv_iconst (v := nI 1) hx hb zdW_law_474 (by decide) ?_
        refine si_iadd (v := nI (i + 1)) hx hb zdW_law_475 (nI_add _ _) ?_
        refine si_sld hx hb hX hbl hbA hS (by omega) (k := i + 1) (by omega) zdW_law_476 ?_
        refine (bX_locate l g hx0 ab wx (xs (i + 1)) hXR).callX (As := [.int (xs (i + 1))]) (rest := []) hF (si_cV 1 hts zcX_locate zlW_87 zimX_locate zseX_locate ziniX zhX_locate ⟨Nat.le_of_ble_eq_true rfl, Nat.le_of_ble_eq_true rfl⟩) hK hN hP hD hS hA (si_XR_recv hXR hK hP) rfl hl.1 rfl (Nat.le_of_ble_eq_true rfl) zdW_law_477 ⟨Nat.le_of_ble_eq_true rfl, Nat.le_of_ble_eq_true rfl⟩ rfl rfl (fun r1 wx1 H locs hq1 hP hD hS => ?_)
        obtain ⟨ab1, hst1, hXR1⟩ := hq1
        refine lv_aload_n hx hb zdW_law_480 rfl (lv_at hl 2 rfl) ?_
        refine lv_aload_n hx hb zdW_law_481 rfl (lv_at hl 0 rfl) ?_
        refine lv_iload_n hx hb zdW_law_482 rfl (lv_at hl 3 rfl) ?_
        refine lv_iconst (v := nI 1) hx hb zdW_law_483 (by decide) ?_
        refine si_iadd (v := nI (i + 1)) hx hb zdW_law_484 (nI_add _ _) ?_
        refine si_sld hx hb hX hbl hbA hS (by omega) (k := i + 1) (by omega) zdW_law_485 ?_
        have hP := si_swapP hP
        have hD := si_swapD hD
        refine (bM_locate l g hm0 ab wm (xs (i + 1)) hMR).callX (As := [.int (xs (i + 1))]) (rest := [.int r1]) hF (si_cV 1 hts zcM_locate zlW_90 zimM_locate zseM_locate ziniM zhM_locate ⟨Nat.le_of_ble_eq_true rfl, Nat.le_of_ble_eq_true rfl⟩) hK hN hP hD hS hA (si_MR_recv hMR hK hP) rfl hl.1 rfl (Nat.le_of_ble_eq_true rfl) zdW_law_486 ⟨Nat.le_of_ble_eq_true rfl, Nat.le_of_ble_eq_true rfl⟩ rfl rfl (fun r2 wm2 H locs hq2 hP hD hS => ?_)
        obtain ⟨ab2, hst2, hMR2⟩ := hq2
        have hP := si_swapP hP
        have hD := si_swapD hD
        obtain ⟨e1, e2⟩ := st_locate_det hst1 hst2
        subst e1 e2
        refine lv_icmp_eq (tgt := 507) hx hb zdW_law_489 rfl (fun _ => ?_) (fun z => absurd rfl z)
        exact T507 ab1 wx1 wm2 _ _ _ hXR1 hMR2 hl hP hD hS
      · refine lv_tableIn (tgt := 494) hx hb zdW_law_32 (by decide) (by decide) rfl rfl ?_
        refine lv_aload_n hx hb zdW_law_494 rfl (lv_at hl 1 rfl) ?_
        refine (bX_variety l g hx0 ab wx  hXR).callX (As := []) (rest := []) hF (si_cV 0 hts zcX_variety zlW_91 zimX_variety zseX_variety ziniX zhX_variety ⟨Nat.le_of_ble_eq_true rfl, Nat.le_of_ble_eq_true rfl⟩) hK hN hP hD hS hA (si_XR_recv hXR hK hP) rfl hl.1 rfl (Nat.le_of_ble_eq_true rfl) zdW_law_495 ⟨Nat.le_of_ble_eq_true rfl, Nat.le_of_ble_eq_true rfl⟩ rfl rfl (fun r1 wx1 H locs hq1 hP hD hS => ?_)
        obtain ⟨ab1, hst1, hXR1⟩ := hq1
        refine lv_aload_n hx hb zdW_law_498 rfl (lv_at hl 2 rfl) ?_
        have hP := si_swapP hP
        have hD := si_swapD hD
        refine (bM_variety l g hm0 ab wm  hMR).callX (As := []) (rest := [.int r1]) hF (si_cV 0 hts zcM_variety zlW_94 zimM_variety zseM_variety ziniM zhM_variety ⟨Nat.le_of_ble_eq_true rfl, Nat.le_of_ble_eq_true rfl⟩) hK hN hP hD hS hA (si_MR_recv hMR hK hP) rfl hl.1 rfl (Nat.le_of_ble_eq_true rfl) zdW_law_499 ⟨Nat.le_of_ble_eq_true rfl, Nat.le_of_ble_eq_true rfl⟩ rfl rfl (fun r2 wm2 H locs hq2 hP hD hS => ?_)
        obtain ⟨ab2, hst2, hMR2⟩ := hq2
        have hP := si_swapP hP
        have hD := si_swapD hD
        obtain ⟨e1, e2⟩ := st_variety_det hst1 hst2
        subst e1 e2
        refine lv_icmp_eq (tgt := 507) hx hb zdW_law_502 rfl (fun _ => ?_) (fun z => absurd rfl z)
        exact T507 ab1 wx1 wm2 _ _ _ hXR1 hMR2 hl hP hD hS
