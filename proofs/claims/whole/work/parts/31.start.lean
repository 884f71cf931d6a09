/-! THE CLAIM OUT OF ONE WALK OF THE LAW'S BODY. Your part is whole_start (and what it stands on); all else here is the same for every law, but numbers. -/
def R_law : String := "SelfIndexImageLaw"
def lw_P (b : Addr) (xs : List Int32) (args : Array Value) (s : State) : Prop := args = #[.ref b] ∧ s.IntsAt b xs ∧ xs.length ≤ 2048 ∧ (Jvm.Cond.and given_1 narrow_1).before args s = true
def lw_Q (_ : Array Value) (s : State) (o : Outcome) (t : State) : Prop := o = .returned (some (.int 1)) ∧ Framed s o t [] 600000 7302250
def lw_Z (below : List Frame) (a : Array Value) (s : State) : State → Prop := fun t => ∃ o, t.status = .running ∧ Ended t below o ∧ lw_Q a s o t
/-- the law's own end, with 1 on the stack, nothing written that was there before, its room as the claim has it -/
theorem lw_ret {p : Program} {l : Launch} {e : Env} {s : State} {m : MethodId} {below : List Frame} {meth : Method} {c : Code} {b : Nat} (hx : p.tables.exec = Jvm.exec) (hb : c.code = code) (hr : meth.sig.returnType = ret) (hlocks : meth.locks = false) {pc : Nat} {H : Heap} {ls : Array Slot} (hdg : decode code pc = .ok (.ireturn, 1)) : W p l e room_1 s m #[Value.ref b] below meth c H [] 600000 7302250 (lw_Z below #[Value.ref b] s) (F0 m pc ls [.int 1]) := by
  intro T hT X
  obtain ⟨fs, hret, hrun, hended, hW, hframe⟩ := X.leave (v := some (.int 1)) (hlocks := hlocks) (fun h => by rw [hr] at h; cases h)
  have hmeth' : T.vm.method? m = some meth := X.method'
  refine ⟨T.setFrames fs, ?_, .returned (some (.int 1)), hrun, hended, rfl, ⟨_, rfl⟩, hW, hframe⟩
  jvm_step X.here [X.here.top, hx, hb, hdg, hmeth', hr, ret, narrow_b1]
  (try refine ⟨rfl, ?_⟩); (try refine ⟨rfl, ?_⟩)
  first | (intro acts; rw [hret _ acts rfl rfl rfl]) | rw [hret _ _ rfl rfl rfl]
  exact Steps.refl _
/-- what holds at the law's entry: the machine, the code, the tables' words (any of lw_tbl by 'hts w (by decide +kernel)'), the script of L ints xs at the cell b, what the Statement gives of the start (any of its parts by flat_of_before) -/
def lw_At (p : Program) (s : State) (m : MethodId) (meth : Method) (c : Code) (b L : Nat) (xs : Nat → Int32) : Prop :=
  p.tables.exec = Jvm.exec ∧ c.code = code ∧ meth.sig.returnType = ret ∧ c.maxLocals = 4 ∧ s.vm.findClass R_law = some m.cls ∧ (∀ w ∈ lw_tbl, w.before #[Value.ref b] s = true) ∧ va_X b L xs s s.heap ∧ b < s.heap.size ∧ meth.locks = false ∧ (Jvm.Cond.and given_1 narrow_1).before #[Value.ref b] s = true
set_option maxHeartbeats 4000000 in
set_option maxRecDepth 100000 in
theorem whole_start {p : Program} {e : Env} {s : State} {m : MethodId} {below : List Frame} {meth : Method} {c : Code} (l : Launch) {b L : Nat} {xs : Nat → Int32} (hL : L ≤ 2048) (C0 : lw_At p s m meth c b L xs) : W p l e room_1 s m #[Value.ref b] below meth c s.heap [] 0 0 (lw_Z below #[Value.ref b] s) (entryFrame m ([Value.ref b] : List Value).toArray 4) := by
  obtain ⟨hx, hb, hr, hml, hown, hts0, hX, hbl, hlocks, hgv⟩ := C0
  have hown : s.vm.findClass zRW = some m.cls := hown
  have hts : ∀ w ∈ si_tbl, w.before #[Value.ref b] s = true := fun w hw => hts0 w (List.mem_filter.mp hw).1
  have hN : si_NK s := by
    intro w hw
    have h1 := List.mem_filter.mp hw
    have hg := h1.2
    have h2 := hts0 w (List.mem_append_right _ h1.1)
    cases w <;> first | exact va_Nw.of rfl h2 | exact absurd hg Bool.false_ne_true
  obtain ⟨c0, i0, k0⟩ := u_known (n := 5) hts ziB (hts _ zibB)
  obtain ⟨c1, i1, k1⟩ := u_known (n := 1) hts ziI (hts _ zibI)
  obtain ⟨c2, i2, k2⟩ := u_known (n := 2) hts ziL (hts _ zibL)
  obtain ⟨c3, i3, k3⟩ := u_known (n := 3) hts ziR (hts _ zibR)
  obtain ⟨c4, i4, k4⟩ := u_known (n := 3) hts ziS (hts _ zibS)
  obtain ⟨c5, i5, k5⟩ := u_known (n := 7) hts ziX (hts _ zibX)
  obtain ⟨c6, i6, k6⟩ := u_known (n := 19) hts ziM (hts _ zibM)
  obtain ⟨cI, kI, pI, eI, hI1, hI2⟩ := Cond.arrayClass_spec (hts _ zac_int)
  obtain ⟨cJ, kJ, pJ, eJ, hJ1, hJ2⟩ := Cond.arrayClass_spec (hts _ zac_long)
  obtain ⟨g, hK⟩ : ∃ g : si_G, va_K g.1 vwCl (si_T g) s := by
    refine ⟨(((fun k => match k with | 0 => c0 | 1 => c1 | 2 => c2 | 3 => c3 | 4 => c4 | 5 => c5 | _ => c6), (fun k => match k with | 0 => i0 | 1 => i1 | 2 => i2 | 3 => i3 | 4 => i4 | 5 => i5 | _ => i6)), cI, cJ), fun k q hq => ?_, fun k q hq => ?_⟩
    · rcases k with _ | _ | _ | _ | _ | _ | _ | k
      · cases hq; exact k0
      · cases hq; exact k1
      · cases hq; exact k2
      · cases hq; exact k3
      · cases hq; exact k4
      · cases hq; exact k5
      · cases hq; exact k6
      · have hq : (none : Option vw_C) = some q := hq
        cases hq
    · rcases k with _ | _ | k
      · cases hq; exact ⟨fun n z => ⟨fun k h => (by cases h), kI, hI1, pI, hI2⟩, eI⟩
      · cases hq; exact ⟨fun n z => ⟨fun k h => (by cases h), kJ, hJ1, pJ, hJ2⟩, eJ⟩
      · have hq : (none : Option (ClassId × FieldType)) = some q := hq
        cases hq
  have hA : ∀ q, s.heap.size ≤ q → (fun q : Nat => s.heap.size ≤ q) q := fun _ h => h
  have hbA : ¬ (fun q : Nat => s.heap.size ≤ q) b := fun h => absurd hbl (Nat.not_lt.mpr h)
  have hP : va_P g.1 vwCl [] s.heap := fun k q h => by have h : (none : Option (Nat × va_E)) = some q := h; cases h
  have hnn : ∀ (k : Nat) (q : Nat × va_E), ([] : va_W)[k]? = some q → False := by
    intro k q h
    have h : (none : Option (Nat × va_E)) = some q := h
    cases h
  have hD : va_D (fun q : Nat => s.heap.size ≤ q) [] := ⟨fun i j x y h _ _ => absurd (hnn i x h) id, fun k q h => absurd (hnn k q h) id⟩
  have hS : va_S (fun q : Nat => s.heap.size ≤ q) s.heap s.heap [] := va_S.rf
  have hF : CallFix p m c code 4 s #[Value.ref b] si_tbl zRW := ⟨hx, hb, hml, hown, hts⟩
  have hl := lv_entry ([.ref b]) (n := 4) (Nat.le_of_ble_eq_true rfl)
  rw [lg_entry_eq]
  generalize (lg_sl ([.ref b]) ++ List.replicate (4 - (lg_sl ([.ref b])).length) Slot.unset).toArray = ls at hl ⊢
  have hl : lv_has ls 4 [(0, .ref b)] := hl
  refine va_new (ci := 5) (fs := [.null, .null, .null, .null, .null, .null, .null]) (C := zRX) (T := zTX) (N := 7) hx hb hts ziX ztX ztoX hown (hts _ zlW_7) (hts _ zibX) (hts _ ziniX) hK hP hD hS hA rfl (fun j hj => match j, hj with | 0, _ => rfl | 1, _ => rfl | 2, _ => rfl | 3, _ => rfl | 4, _ => rfl | 5, _ => rfl | 6, _ => rfl | (n9 + 7), h9 => absurd h9 (by omega)) (Nat.le_of_ble_eq_true rfl) (Nat.le_of_ble_eq_true rfl) zdW_law_0 (fun hx0 H hP hD hS => ?_)
  have hP : va_P g.1 vwCl [(hx0, .inr (5, [.null, .null, .null, .null, .null, .null, .null]))] H := hP
  have hD : va_D (fun q : Nat => s.heap.size ≤ q) [(hx0, .inr (5, [.null, .null, .null, .null, .null, .null, .null]))] := hD
  refine W.widen (k := 1) (n := 7) (by decide) (by decide) ?_
  refine lv_dup hx hb zdW_law_3 rfl ?_
  refine (cX_init l g hx0).callI (wr := []) (As := []) (rest := [.ref hx0]) hF (si_cI 0 hts zcX_init zlW_9 zimX_init ziniX rfl zhX_init ⟨Nat.le_of_ble_eq_true rfl, Nat.le_of_ble_eq_true rfl⟩) hK hN hP hD hS hA [0] [] rfl rfl (by decide) (by decide) rfl hl.1 rfl (Nat.le_of_ble_eq_true rfl) zdW_law_4 ⟨Nat.le_of_ble_eq_true rfl, Nat.le_of_ble_eq_true rfl⟩ (fun u_ H locs _hq hP hD hS => ?_)
  obtain ⟨xw, xwa, xp, xpa, xd, xda, xe, xea, xb, b1, b2, b3, b4, xl, lt, lta, lz, lsr, lsp, xt, tt, tta, tz, tsr, tsp⟩ := u_
  have hP : va_P g.1 vwCl [(hx0, .inr (5, [.ref xw, .ref xp, .ref xd, .ref xe, .ref xb, .ref xl, .ref xt])), (xw, .inr (2, [.ref xwa, .int (nI 0)])), (xwa, .inl (g.2.1, 60, .inl (fun _ => 0))), (xp, .inr (2, [.ref xpa, .int (nI 0)])), (xpa, .inl (g.2.1, 20, .inl (fun _ => 0))), (xd, .inr (1, [.ref xda])), (xda, .inl (g.2.2, 23, .inr (.inl (fun _ => 0)))), (xe, .inr (1, [.ref xea])), (xea, .inl (g.2.2, 23, .inr (.inl (fun _ => 0)))), (xb, .inr (0, [.ref b1, .ref b2, .ref b3, .ref b4, .int (nI 0)])), (b1, .inl (g.2.1, 61, .inl (fun _ => 0))), (b2, .inl (g.2.1, 61, .inl (fun _ => 0))), (b3, .inl (g.2.1, 61, .inl (fun _ => 0))), (b4, .inl (g.2.1, 61, .inl (fun _ => 0))), (xl, .inr (3, [.ref lt, .ref lz, .int (-1)])), (lt, .inr (2, [.ref lta, .int (nI 0)])), (lta, .inl (g.2.1, 60, .inl (fun _ => 0))), (lz, .inr (4, [.ref lsr, .ref lsp, .int (nI 0)])), (lsr, .inl (g.2.1, 61, .inl (fun _ => 0))), (lsp, .inl (g.2.1, 61, .inl (fun _ => 0))), (xt, .inr (3, [.ref tt, .ref tz, .int (-1)])), (tt, .inr (2, [.ref tta, .int (nI 0)])), (tta, .inl (g.2.1, 60, .inl (fun _ => 0))), (tz, .inr (4, [.ref tsr, .ref tsp, .int (nI 0)])), (tsr, .inl (g.2.1, 61, .inl (fun _ => 0))), (tsp, .inl (g.2.1, 61, .inl (fun _ => 0)))] H := hP
  have hD : va_D (fun q : Nat => s.heap.size ≤ q) [(hx0, .inr (5, [.ref xw, .ref xp, .ref xd, .ref xe, .ref xb, .ref xl, .ref xt])), (xw, .inr (2, [.ref xwa, .int (nI 0)])), (xwa, .inl (g.2.1, 60, .inl (fun _ => 0))), (xp, .inr (2, [.ref xpa, .int (nI 0)])), (xpa, .inl (g.2.1, 20, .inl (fun _ => 0))), (xd, .inr (1, [.ref xda])), (xda, .inl (g.2.2, 23, .inr (.inl (fun _ => 0)))), (xe, .inr (1, [.ref xea])), (xea, .inl (g.2.2, 23, .inr (.inl (fun _ => 0)))), (xb, .inr (0, [.ref b1, .ref b2, .ref b3, .ref b4, .int (nI 0)])), (b1, .inl (g.2.1, 61, .inl (fun _ => 0))), (b2, .inl (g.2.1, 61, .inl (fun _ => 0))), (b3, .inl (g.2.1, 61, .inl (fun _ => 0))), (b4, .inl (g.2.1, 61, .inl (fun _ => 0))), (xl, .inr (3, [.ref lt, .ref lz, .int (-1)])), (lt, .inr (2, [.ref lta, .int (nI 0)])), (lta, .inl (g.2.1, 60, .inl (fun _ => 0))), (lz, .inr (4, [.ref lsr, .ref lsp, .int (nI 0)])), (lsr, .inl (g.2.1, 61, .inl (fun _ => 0))), (lsp, .inl (g.2.1, 61, .inl (fun _ => 0))), (xt, .inr (3, [.ref tt, .ref tz, .int (-1)])), (tt, .inr (2, [.ref tta, .int (nI 0)])), (tta, .inl (g.2.1, 60, .inl (fun _ => 0))), (tz, .inr (4, [.ref tsr, .ref tsp, .int (nI 0)])), (tsr, .inl (g.2.1, 61, .inl (fun _ => 0))), (tsp, .inl (g.2.1, 61, .inl (fun _ => 0)))] := hD
  refine W.widen (k := 26) (n := 768) (by decide) (by decide) ?_
  refine lv_astore_n (lv' := [(1, .ref hx0), (0, .ref b)]) hx hb zdW_law_7 rfl hl (Nat.le_of_ble_eq_true rfl) rfl (fun ls hl => ?_)
  refine va_new (ci := 6) (fs := [.int 0, .null, .null, .int 0, .int 0, .null, .int 0, .null, .null, .int 0, .null, .int 0, .null, .null, .null, .null, .null, .null, .null]) (C := zRM) (T := zTM) (N := 19) hx hb hts ziM ztM ztoM hown (hts _ zlW_10) (hts _ zibM) (hts _ ziniM) hK hP hD hS hA rfl (fun j hj => match j, hj with | 0, _ => rfl | 1, _ => rfl | 2, _ => rfl | 3, _ => rfl | 4, _ => rfl | 5, _ => rfl | 6, _ => rfl | 7, _ => rfl | 8, _ => rfl | 9, _ => rfl | 10, _ => rfl | 11, _ => rfl | 12, _ => rfl | 13, _ => rfl | 14, _ => rfl | 15, _ => rfl | 16, _ => rfl | 17, _ => rfl | 18, _ => rfl | (n9 + 19), h9 => absurd h9 (by omega)) (Nat.le_of_ble_eq_true rfl) (Nat.le_of_ble_eq_true rfl) zdW_law_8 (fun hm0 H hP hD hS => ?_)
  have hP : va_P g.1 vwCl [(hx0, .inr (5, [.ref xw, .ref xp, .ref xd, .ref xe, .ref xb, .ref xl, .ref xt])), (xw, .inr (2, [.ref xwa, .int (nI 0)])), (xwa, .inl (g.2.1, 60, .inl (fun _ => 0))), (xp, .inr (2, [.ref xpa, .int (nI 0)])), (xpa, .inl (g.2.1, 20, .inl (fun _ => 0))), (xd, .inr (1, [.ref xda])), (xda, .inl (g.2.2, 23, .inr (.inl (fun _ => 0)))), (xe, .inr (1, [.ref xea])), (xea, .inl (g.2.2, 23, .inr (.inl (fun _ => 0)))), (xb, .inr (0, [.ref b1, .ref b2, .ref b3, .ref b4, .int (nI 0)])), (b1, .inl (g.2.1, 61, .inl (fun _ => 0))), (b2, .inl (g.2.1, 61, .inl (fun _ => 0))), (b3, .inl (g.2.1, 61, .inl (fun _ => 0))), (b4, .inl (g.2.1, 61, .inl (fun _ => 0))), (xl, .inr (3, [.ref lt, .ref lz, .int (-1)])), (lt, .inr (2, [.ref lta, .int (nI 0)])), (lta, .inl (g.2.1, 60, .inl (fun _ => 0))), (lz, .inr (4, [.ref lsr, .ref lsp, .int (nI 0)])), (lsr, .inl (g.2.1, 61, .inl (fun _ => 0))), (lsp, .inl (g.2.1, 61, .inl (fun _ => 0))), (xt, .inr (3, [.ref tt, .ref tz, .int (-1)])), (tt, .inr (2, [.ref tta, .int (nI 0)])), (tta, .inl (g.2.1, 60, .inl (fun _ => 0))), (tz, .inr (4, [.ref tsr, .ref tsp, .int (nI 0)])), (tsr, .inl (g.2.1, 61, .inl (fun _ => 0))), (tsp, .inl (g.2.1, 61, .inl (fun _ => 0))), (hm0, .inr (6, [.int 0, .null, .null, .int 0, .int 0, .null, .int 0, .null, .null, .int 0, .null, .int 0, .null, .null, .null, .null, .null, .null, .null]))] H := hP
  have hD : va_D (fun q : Nat => s.heap.size ≤ q) [(hx0, .inr (5, [.ref xw, .ref xp, .ref xd, .ref xe, .ref xb, .ref xl, .ref xt])), (xw, .inr (2, [.ref xwa, .int (nI 0)])), (xwa, .inl (g.2.1, 60, .inl (fun _ => 0))), (xp, .inr (2, [.ref xpa, .int (nI 0)])), (xpa, .inl (g.2.1, 20, .inl (fun _ => 0))), (xd, .inr (1, [.ref xda])), (xda, .inl (g.2.2, 23, .inr (.inl (fun _ => 0)))), (xe, .inr (1, [.ref xea])), (xea, .inl (g.2.2, 23, .inr (.inl (fun _ => 0)))), (xb, .inr (0, [.ref b1, .ref b2, .ref b3, .ref b4, .int (nI 0)])), (b1, .inl (g.2.1, 61, .inl (fun _ => 0))), (b2, .inl (g.2.1, 61, .inl (fun _ => 0))), (b3, .inl (g.2.1, 61, .inl (fun _ => 0))), (b4, .inl (g.2.1, 61, .inl (fun _ => 0))), (xl, .inr (3, [.ref lt, .ref lz, .int (-1)])), (lt, .inr (2, [.ref lta, .int (nI 0)])), (lta, .inl (g.2.1, 60, .inl (fun _ => 0))), (lz, .inr (4, [.ref lsr, .ref lsp, .int (nI 0)])), (lsr, .inl (g.2.1, 61, .inl (fun _ => 0))), (lsp, .inl (g.2.1, 61, .inl (fun _ => 0))), (xt, .inr (3, [.ref tt, .ref tz, .int (-1)])), (tt, .inr (2, [.ref tta, .int (nI 0)])), (tta, .inl (g.2.1, 60, .inl (fun _ => 0))), (tz, .inr (4, [.ref tsr, .ref tsp, .int (nI 0)])), (tsr, .inl (g.2.1, 61, .inl (fun _ => 0))), (tsp, .inl (g.2.1, 61, .inl (fun _ => 0))), (hm0, .inr (6, [.int 0, .null, .null, .int 0, .int 0, .null, .int 0, .null, .null, .int 0, .null, .int 0, .null, .null, .null, .null, .null, .null, .null]))] := hD
  refine W.widen (k := 27) (n := 787) (by decide) (by decide) ?_
  refine lv_dup hx hb zdW_law_11 rfl ?_
  refine (cM_init l g hm0).callI (wr := [(hx0, .inr (5, [.ref xw, .ref xp, .ref xd, .ref xe, .ref xb, .ref xl, .ref xt])), (xw, .inr (2, [.ref xwa, .int (nI 0)])), (xwa, .inl (g.2.1, 60, .inl (fun _ => 0))), (xp, .inr (2, [.ref xpa, .int (nI 0)])), (xpa, .inl (g.2.1, 20, .inl (fun _ => 0))), (xd, .inr (1, [.ref xda])), (xda, .inl (g.2.2, 23, .inr (.inl (fun _ => 0)))), (xe, .inr (1, [.ref xea])), (xea, .inl (g.2.2, 23, .inr (.inl (fun _ => 0)))), (xb, .inr (0, [.ref b1, .ref b2, .ref b3, .ref b4, .int (nI 0)])), (b1, .inl (g.2.1, 61, .inl (fun _ => 0))), (b2, .inl (g.2.1, 61, .inl (fun _ => 0))), (b3, .inl (g.2.1, 61, .inl (fun _ => 0))), (b4, .inl (g.2.1, 61, .inl (fun _ => 0))), (xl, .inr (3, [.ref lt, .ref lz, .int (-1)])), (lt, .inr (2, [.ref lta, .int (nI 0)])), (lta, .inl (g.2.1, 60, .inl (fun _ => 0))), (lz, .inr (4, [.ref lsr, .ref lsp, .int (nI 0)])), (lsr, .inl (g.2.1, 61, .inl (fun _ => 0))), (lsp, .inl (g.2.1, 61, .inl (fun _ => 0))), (xt, .inr (3, [.ref tt, .ref tz, .int (-1)])), (tt, .inr (2, [.ref tta, .int (nI 0)])), (tta, .inl (g.2.1, 60, .inl (fun _ => 0))), (tz, .inr (4, [.ref tsr, .ref tsp, .int (nI 0)])), (tsr, .inl (g.2.1, 61, .inl (fun _ => 0))), (tsp, .inl (g.2.1, 61, .inl (fun _ => 0)))]) (As := []) (rest := [.ref hm0]) hF (si_cI 0 hts zcM_init zlW_12 zimM_init ziniM rfl zhM_init ⟨Nat.le_of_ble_eq_true rfl, Nat.le_of_ble_eq_true rfl⟩) hK hN hP hD hS hA [26] [0, 1, 2, 3, 4, 5, 6, 7, 8, 9, 10, 11, 12, 13, 14, 15, 16, 17, 18, 19, 20, 21, 22, 23, 24, 25] rfl rfl (by decide +kernel) (by decide +kernel) rfl hl.1 rfl (Nat.le_of_ble_eq_true rfl) zdW_law_12 ⟨Nat.le_of_ble_eq_true rfl, Nat.le_of_ble_eq_true rfl⟩ (fun u_ H locs _hq hP hD hS => ?_)
  obtain ⟨mW, mD, mT, mP, mR, mA, mK, mO, mB, mI, mN, mH, mC⟩ := u_
  have hP : va_P g.1 vwCl ([(hx0, .inr (5, [.ref xw, .ref xp, .ref xd, .ref xe, .ref xb, .ref xl, .ref xt])), (xw, .inr (2, [.ref xwa, .int (nI 0)])), (xwa, .inl (g.2.1, 60, .inl (fun _ => 0))), (xp, .inr (2, [.ref xpa, .int (nI 0)])), (xpa, .inl (g.2.1, 20, .inl (fun _ => 0))), (xd, .inr (1, [.ref xda])), (xda, .inl (g.2.2, 23, .inr (.inl (fun _ => 0)))), (xe, .inr (1, [.ref xea])), (xea, .inl (g.2.2, 23, .inr (.inl (fun _ => 0)))), (xb, .inr (0, [.ref b1, .ref b2, .ref b3, .ref b4, .int (nI 0)])), (b1, .inl (g.2.1, 61, .inl (fun _ => 0))), (b2, .inl (g.2.1, 61, .inl (fun _ => 0))), (b3, .inl (g.2.1, 61, .inl (fun _ => 0))), (b4, .inl (g.2.1, 61, .inl (fun _ => 0))), (xl, .inr (3, [.ref lt, .ref lz, .int (-1)])), (lt, .inr (2, [.ref lta, .int (nI 0)])), (lta, .inl (g.2.1, 60, .inl (fun _ => 0))), (lz, .inr (4, [.ref lsr, .ref lsp, .int (nI 0)])), (lsr, .inl (g.2.1, 61, .inl (fun _ => 0))), (lsp, .inl (g.2.1, 61, .inl (fun _ => 0))), (xt, .inr (3, [.ref tt, .ref tz, .int (-1)])), (tt, .inr (2, [.ref tta, .int (nI 0)])), (tta, .inl (g.2.1, 60, .inl (fun _ => 0))), (tz, .inr (4, [.ref tsr, .ref tsp, .int (nI 0)])), (tsr, .inl (g.2.1, 61, .inl (fun _ => 0))), (tsp, .inl (g.2.1, 61, .inl (fun _ => 0)))] ++ [(hm0, .inr (6, [.int 0, .ref mW, .ref mD, .int 0, .int 0, .ref mT, .int 0, .ref mP, .ref mR, .int 0, .ref mA, .int 0, .ref mK, .ref mO, .ref mB, .ref mI, .ref mN, .ref mH, .ref mC])), (mW, .inl (g.2.1, 60, .inl (fun _ => 0))), (mD, .inl (g.2.2, 23, .inr (.inl (fun _ => 0)))), (mT, .inl (g.2.1, 61, .inl (fun _ => 0))), (mP, .inl (g.2.1, 61, .inl (fun _ => 0))), (mR, .inl (g.2.1, 61, .inl (fun _ => 0))), (mA, .inl (g.2.1, 20, .inl (fun _ => 0))), (mK, .inl (g.2.1, 61, .inl (fun _ => 0))), (mO, .inl (g.2.1, 61, .inl (fun _ => 0))), (mB, .inl (g.2.1, 61, .inl (fun _ => 0))), (mI, .inl (g.2.2, 23, .inr (.inl (fun _ => 0)))), (mN, .inl (g.2.1, 61, .inl (fun _ => 0))), (mH, .inl (g.2.1, 61, .inl (fun _ => 0))), (mC, .inl (g.2.1, 61, .inl (fun _ => 0)))]) H := hP
  have hD : va_D (fun q : Nat => s.heap.size ≤ q) ([(hx0, .inr (5, [.ref xw, .ref xp, .ref xd, .ref xe, .ref xb, .ref xl, .ref xt])), (xw, .inr (2, [.ref xwa, .int (nI 0)])), (xwa, .inl (g.2.1, 60, .inl (fun _ => 0))), (xp, .inr (2, [.ref xpa, .int (nI 0)])), (xpa, .inl (g.2.1, 20, .inl (fun _ => 0))), (xd, .inr (1, [.ref xda])), (xda, .inl (g.2.2, 23, .inr (.inl (fun _ => 0)))), (xe, .inr (1, [.ref xea])), (xea, .inl (g.2.2, 23, .inr (.inl (fun _ => 0)))), (xb, .inr (0, [.ref b1, .ref b2, .ref b3, .ref b4, .int (nI 0)])), (b1, .inl (g.2.1, 61, .inl (fun _ => 0))), (b2, .inl (g.2.1, 61, .inl (fun _ => 0))), (b3, .inl (g.2.1, 61, .inl (fun _ => 0))), (b4, .inl (g.2.1, 61, .inl (fun _ => 0))), (xl, .inr (3, [.ref lt, .ref lz, .int (-1)])), (lt, .inr (2, [.ref lta, .int (nI 0)])), (lta, .inl (g.2.1, 60, .inl (fun _ => 0))), (lz, .inr (4, [.ref lsr, .ref lsp, .int (nI 0)])), (lsr, .inl (g.2.1, 61, .inl (fun _ => 0))), (lsp, .inl (g.2.1, 61, .inl (fun _ => 0))), (xt, .inr (3, [.ref tt, .ref tz, .int (-1)])), (tt, .inr (2, [.ref tta, .int (nI 0)])), (tta, .inl (g.2.1, 60, .inl (fun _ => 0))), (tz, .inr (4, [.ref tsr, .ref tsp, .int (nI 0)])), (tsr, .inl (g.2.1, 61, .inl (fun _ => 0))), (tsp, .inl (g.2.1, 61, .inl (fun _ => 0)))] ++ [(hm0, .inr (6, [.int 0, .ref mW, .ref mD, .int 0, .int 0, .ref mT, .int 0, .ref mP, .ref mR, .int 0, .ref mA, .int 0, .ref mK, .ref mO, .ref mB, .ref mI, .ref mN, .ref mH, .ref mC])), (mW, .inl (g.2.1, 60, .inl (fun _ => 0))), (mD, .inl (g.2.2, 23, .inr (.inl (fun _ => 0)))), (mT, .inl (g.2.1, 61, .inl (fun _ => 0))), (mP, .inl (g.2.1, 61, .inl (fun _ => 0))), (mR, .inl (g.2.1, 61, .inl (fun _ => 0))), (mA, .inl (g.2.1, 20, .inl (fun _ => 0))), (mK, .inl (g.2.1, 61, .inl (fun _ => 0))), (mO, .inl (g.2.1, 61, .inl (fun _ => 0))), (mB, .inl (g.2.1, 61, .inl (fun _ => 0))), (mI, .inl (g.2.2, 23, .inr (.inl (fun _ => 0)))), (mN, .inl (g.2.1, 61, .inl (fun _ => 0))), (mH, .inl (g.2.1, 61, .inl (fun _ => 0))), (mC, .inl (g.2.1, 61, .inl (fun _ => 0)))]) := hD
  refine W.widen (k := 40) (n := 1462) (by decide) (by decide) ?_
  refine lv_astore_n (lv' := [(2, .ref hm0), (1, .ref hx0), (0, .ref b)]) hx hb zdW_law_15 rfl hl (Nat.le_of_ble_eq_true rfl) rfl (fun ls hl => ?_)
  refine lv_iconst (v := nI 0) hx hb zdW_law_16 (by decide) ?_
  refine lv_istore_n (lv' := [(3, .int (nI 0)), (2, .ref hm0), (1, .ref hx0), (0, .ref b)]) hx hb zdW_law_17 rfl hl (Nat.le_of_ble_eq_true rfl) rfl (fun ls hl => ?_)
  have hXR : si_XR g hx0 ([], [], fun _ => 0, none) [(hx0, .inr (5, [.ref xw, .ref xp, .ref xd, .ref xe, .ref xb, .ref xl, .ref xt])), (xw, .inr (2, [.ref xwa, .int (nI 0)])), (xwa, .inl (g.2.1, 60, .inl (fun _ => 0))), (xp, .inr (2, [.ref xpa, .int (nI 0)])), (xpa, .inl (g.2.1, 20, .inl (fun _ => 0))), (xd, .inr (1, [.ref xda])), (xda, .inl (g.2.2, 23, .inr (.inl (fun _ => 0)))), (xe, .inr (1, [.ref xea])), (xea, .inl (g.2.2, 23, .inr (.inl (fun _ => 0)))), (xb, .inr (0, [.ref b1, .ref b2, .ref b3, .ref b4, .int (nI 0)])), (b1, .inl (g.2.1, 61, .inl (fun _ => 0))), (b2, .inl (g.2.1, 61, .inl (fun _ => 0))), (b3, .inl (g.2.1, 61, .inl (fun _ => 0))), (b4, .inl (g.2.1, 61, .inl (fun _ => 0))), (xl, .inr (3, [.ref lt, .ref lz, .int (-1)])), (lt, .inr (2, [.ref lta, .int (nI 0)])), (lta, .inl (g.2.1, 60, .inl (fun _ => 0))), (lz, .inr (4, [.ref lsr, .ref lsp, .int (nI 0)])), (lsr, .inl (g.2.1, 61, .inl (fun _ => 0))), (lsp, .inl (g.2.1, 61, .inl (fun _ => 0))), (xt, .inr (3, [.ref tt, .ref tz, .int (-1)])), (tt, .inr (2, [.ref tta, .int (nI 0)])), (tta, .inl (g.2.1, 60, .inl (fun _ => 0))), (tz, .inr (4, [.ref tsr, .ref tsp, .int (nI 0)])), (tsr, .inl (g.2.1, 61, .inl (fun _ => 0))), (tsp, .inl (g.2.1, 61, .inl (fun _ => 0)))] := ⟨xw, xwa, xp, xpa, xd, xda, xe, xea, xb, b1, b2, b3, b4, xl, lt, lta, lz, lsr, lsp, xt, tt, tta, tz, tsr, tsp, 0, 0, 0, 0, fun _ => 0, fun _ => 0, fun _ => 0, fun _ => 0, fun _ => 0, fun _ => 0, fun _ => 0, fun _ => 0, fun _ => 0, fun _ => 0, fun _ => 0, fun _ => 0, fun _ => 0, fun _ => 0, nI 0, -1, nI 0, -1, nI 0, rfl, rfl, rfl, ⟨Nat.zero_le _, fun _ hc => by cases hc⟩, fun _ hi => absurd hi (Nat.not_lt_zero _), ⟨Nat.zero_le _, fun _ hc => by cases hc⟩, fun _ hi => absurd hi (Nat.not_lt_zero _), fun _ _ => rfl, rfl⟩
  have hMR : si_MR g hm0 ([], [], fun _ => 0, none) [(hm0, .inr (6, [.int 0, .ref mW, .ref mD, .int 0, .int 0, .ref mT, .int 0, .ref mP, .ref mR, .int 0, .ref mA, .int 0, .ref mK, .ref mO, .ref mB, .ref mI, .ref mN, .ref mH, .ref mC])), (mW, .inl (g.2.1, 60, .inl (fun _ => 0))), (mD, .inl (g.2.2, 23, .inr (.inl (fun _ => 0)))), (mT, .inl (g.2.1, 61, .inl (fun _ => 0))), (mP, .inl (g.2.1, 61, .inl (fun _ => 0))), (mR, .inl (g.2.1, 61, .inl (fun _ => 0))), (mA, .inl (g.2.1, 20, .inl (fun _ => 0))), (mK, .inl (g.2.1, 61, .inl (fun _ => 0))), (mO, .inl (g.2.1, 61, .inl (fun _ => 0))), (mB, .inl (g.2.1, 61, .inl (fun _ => 0))), (mI, .inl (g.2.2, 23, .inr (.inl (fun _ => 0)))), (mN, .inl (g.2.1, 61, .inl (fun _ => 0))), (mH, .inl (g.2.1, 61, .inl (fun _ => 0))), (mC, .inl (g.2.1, 61, .inl (fun _ => 0)))] := ⟨mW, mD, mT, mP, mR, mA, mK, mO, mB, mI, mN, mH, mC, 0, 0, 0, 0, 0, 0, fun _ => 0, fun _ => 0, fun _ => 0, fun _ => 0, fun _ => 0, fun _ => 0, fun _ => 0, fun _ => 0, fun _ => 0, fun _ => 0, fun _ => 0, fun _ => 0, fun _ => 0, rfl, nI_0.symm, nI_0.symm, ⟨Nat.zero_le _, fun _ hc => by cases hc⟩, fun _ hi => absurd hi (Nat.not_lt_zero _), ⟨Nat.zero_le _, fun _ hc => by cases hc⟩, fun _ hi => absurd hi (Nat.not_lt_zero _), fun _ _ => rfl, nI_0.symm⟩
  refine si_loop hL hx hb hml hown hts hK hN hA hX hbl hbA (fun H locs ls hS => ?_) (L + 1) 0 _ _ _ _ _ _ (by omega) (Nat.zero_le _) hXR hMR (lv_sub hl [3, 2, 1, 0] rfl) hP hD hS
  refine lv_iconst (v := 1) hx hb zdW_law_513 (by decide) ?_
  refine va_forget (fun q hq => hS.2.2 q hq) ?_
  refine W.widen (k := 600000) (n := 7302250) (by decide) (by decide) ?_
  exact lw_ret hx hb hr hlocks zdW_law_514
set_option maxHeartbeats 4000000 in
theorem lw_walk (l : Launch) (b : Addr) (xs : List Int32) : MetFree l x (headSpec (Jvm.Cond.code x code maxLocals ret :: tables_1) room_1) (lw_P b xs) (fun _ _ _ _ _ => True) lw_Q := by
  refine MetFree.of_bodyS (code := code) (maxLocals := maxLocals) (ret := ret) (by decide) ?_ ?_
  · intro args s m h hn
    obtain ⟨meth, c, h1, h2, h3, h4, h5, h6, -, -⟩ := Cond.code_spec hn (atoms_spec (ws := Jvm.Cond.code x code maxLocals ret :: tables_1) h _ List.mem_cons_self)
    exact ⟨meth, c, h1, h2, h3, h4, h5, h6⟩
  · intro p e s m args below meth c s₁ B hml0 hP _
    obtain ⟨rfl, hx, hbd, hgv⟩ := hP
    obtain ⟨scr, harrAt, hlist, hof, hsmall⟩ := hx
    obtain ⟨hcb, hkn, -, -⟩ := State.arrayAt?_spec harrAt
    have hown : s.vm.findClass R_law = some m.cls := findClass_of_methodNamed B.named
    have hts0 : ∀ c ∈ (Jvm.Cond.code x code maxLocals ret :: tables_1), c.before #[Value.ref b] s = true := atoms_spec (ws := Jvm.Cond.code x code maxLocals ret :: tables_1) B.pre
    have hts : ∀ w ∈ lw_tbl, w.before #[Value.ref b] s = true := k2_hts_sels lw_privs (fun w hw => hts0 w (List.mem_cons_of_mem _ hw)) lw_privs_ok
    have hml : c.maxLocals = 4 := B.maxLocals_eq (hts0 _ List.mem_cons_self)
    have X₀ : Stand p l e room_1 s m #[Value.ref b] below meth c s₁ [] 0 0 := Stand.of_body B
    have hh0 : s₁.heap = s.heap := by rw [B.state]; rfl
    have hsz : scr.slots.size = xs.length := by rw [← Array.length_toList, hlist, List.length_map]
    have hval : ∀ j : Nat, j < xs.length → scr.slots[j]? = some (.int (xs.getD j 0)) := fun j hj => by
      rw [← Array.getElem?_toList, hlist]
      simp [hj]
    have hbl : b < s.heap.size := (Array.getElem?_eq_some_iff.mp hcb).1
    have hX : va_X b xs.length (fun j => xs.getD j 0) s s.heap := ⟨scr, hcb, hof, hkn, hsz, hval⟩
    have K : W p l e room_1 s m #[Value.ref b] below meth c s₁.heap [] 0 0 (lw_Z below #[Value.ref b] s) (entryFrame m ([Value.ref b] : List Value).toArray 4) := by
      rw [hh0]
      exact whole_start l hbd ⟨B.exec, B.bytes, B.returns, hml, hown, hts, hX, hbl, B.notSynchronized, hgv⟩
    obtain ⟨t, a1, o, b1, b2, b3⟩ := K s₁ rfl X₀
    exact ⟨t, o, a1, b1, b2, b3⟩
theorem lw_pre_spec {args : Array Value} {s : State} (h : (Jvm.Cond.and given_1 narrow_1).before args s = true) (hr : rest_1_c.before args s = true) : ∃ (b : Addr) (xs : List Int32), lw_P b xs args s := by
  have hs := flat_of_before _ h
  have hq := flat_of_before _ hr
  have hc : (Cond.count 1).before args s = true := hs _ (by decide +kernel)
  have harr : (Cond.arrayOf (.arg 0) .int).before args s = true := hs _ (by decide +kernel)
  have hle : (Cond.le (.length (.arg 0)) (.int 2048)).before args s = true := hs _ (by decide +kernel)
  have hlen : (Cond.isInt (.length (.arg 0))).before args s = true := hq _ (by decide +kernel)
  have hall : (Cond.all (.arg 0) (.isInt (.elem (.arg 0) (.index 0)))).before args s = true := hq _ (by decide +kernel)
  obtain ⟨b, xs, hb, hx⟩ := State.ints_of_pre rfl harr hlen hall
  have hsm : xs.length < 2 ^ 31 := hx.choose_spec.2.2.2
  have hev : (Term.length (.arg 0)).eval args s none [] s = some (.int xs.length.toInt32) := hx.length_eval hb
  have hv := Cond.le_ints hev (show (Term.int 2048).eval args s none [] s = some (.int 2048) from rfl)
  have hd : xs.length.toInt32 ≤ 2048 := by
    simpa [Cond.before, Cond.holds, hv] using hle
  have hN : xs.length ≤ 2048 := (Int32.ofNat_le_ofNat hsm (by decide)).mp (show Int32.ofNat xs.length ≤ Int32.ofNat 2048 from hd)
  exact ⟨b, xs, Cond.one_arg hc (show args[0]? = some (.ref b) from hb), hx, hN, h⟩
theorem lw_comes (l : Launch) : Comes l x (Jvm.Cond.code x code maxLocals ret :: tables_1) room_1 (fun tb e args s => Calls_1 tb e args s ∧ rest_1 tb e args s ∧ Pre_1 tb e args s)
    (fun _ _ args s o t => lw_Q args s o t) := by
  intro p e ha hc hk s m args below hf hfit hheap happ hpre
  obtain ⟨b, xs, hP⟩ := lw_pre_spec hpre.2.2 hpre.2.1
  obtain ⟨k, o, h1, h2, h3, hQ⟩ := lw_walk l b xs p e ha hc hk s m args below hf ((Spec.applies_iff_loose hf).mp happ).1 hP trivial
  exact ⟨k, o, h1, h2, h3, hQ⟩
theorem lw_frame {s t : State} {o : Outcome} {args : Array Value} (h : Framed s o t [] 600000 7302250) :
    Framed s o t (fieldLocs frame_1_writes args s ++ arrayLocs frame_1_arrays args s ++ staticLocs frame_1_statics s) 600000 7302250 := h
theorem lw_limb (L : Cond) (hL : ∀ (args : Array Value) (s t : State), L.after args s (.returned (some (.int 1))) t = true) :
    ArmFor flags0 classFile x code maxLocals ret World_1 tables_1 room_1 Calls_1 rest_1 Pre_1
      (fun tb e a s o t => postC L tb e a s o t ∧ Framed s o t (fieldLocs frame_1_writes a s ++ arrayLocs frame_1_arrays a s ++ staticLocs frame_1_statics s) 600000 7302250) := by
  intro l _ _ _ p e ha hc hk s m args below hf hfit hheap happ hpre
  obtain ⟨k, o, h1, h2, h3, rfl, hF⟩ := lw_comes l p e ha hc hk s m args below hf hfit hheap happ hpre
  exact ⟨k, _, h1, h2, h3, hL args s _, lw_frame hF⟩
theorem i_vc : Claimed_1_1 ∧ Claimed_1_2 := ⟨lw_limb limb_1_1 (fun args s t => by simp [limb_1_1, Cond.after, Cond.holds, Cond.value]), lw_limb limb_1_2 (fun args s t => Cond.after_iff.mpr (by
  first | (rw [show limb_1_2 = Cond.eq .result (.int 1) from rfl, Cond.eq_ints (x := 1) (y := 1) rfl rfl]; simp; done) | (simp [limb_1_2, Cond.value, Term.eval]; done)))⟩
